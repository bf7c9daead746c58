/** Promises 1 to 9: a new object, and what is told of the page and the sea. */
public final class SeaTest {
    private static final int NONE = -1, UNKNOWN = -101, OUTSIDE = -102, STATE = -103, FULL = -104;
    private static final Due due = new Due("SeaTest");

    public static void main(String[] args) {
        newObject();
        letters();
        faults();
        refusedSeas();
        seas();
        lodgers();
        looks();
        kindsTaken();
        ships();
        cells();
        due.end();
    }

    private static void newObject() {
        FourLodgers x = new FourLodgers();
        for (int what = 0; what <= 10; what++) {
            due.is("new: count(" + what + ")", x.count(what), 0);
        }
        due.is("new: fault()", x.fault(), 0);
        due.is("new: blank()", x.blank(), 0);
        due.is("new: forget()", x.forget(), 0);
        due.is("new: sea()", x.sea(), STATE);
        due.is("new: day()", x.day(), STATE);
        due.is("new: hire()", x.hire(), STATE);
        due.is("new: image()", x.image(), STATE);
        due.is("new: restore()", x.restore(), STATE);
        due.is("new: drifts", x.drifts(1, 0, 0), STATE);
        due.is("new: drifts, wrong", x.drifts(0, 0, 0), OUTSIDE);
        due.is("new: lodger", x.lodger(0, 0), UNKNOWN);
        due.is("new: as", x.as(0, 0), UNKNOWN);
        due.is("new: ship", x.ship(0, 0), UNKNOWN);
        due.is("new: cell", x.cell(0, 0), UNKNOWN);
        due.is("new: sail", x.sail(0, 0), UNKNOWN);
        due.is("new: ail", x.ail(0, 0), UNKNOWN);
        due.is("new: let", x.let(0, 0), UNKNOWN);
        due.is("new: can", x.can(0, 0, 0), UNKNOWN);
        due.is("new: soon", x.soon(0, 0, 0), UNKNOWN);
        due.is("new: meet", x.meet(0, 1), UNKNOWN);
        due.is("new: needed", x.needed(0, 0), UNKNOWN);
        due.is("new: brick", x.brick(0, 0), UNKNOWN);
        due.is("new: aside", x.aside(0, 0), UNKNOWN);
        due.is("new: see", x.see(0, 0, true), UNKNOWN);
    }

    private static void letters() {
        FourLodgers x = new FourLodgers();
        due.is("letter(0)", x.letter(0), OUTSIDE);
        due.is("letter(127)", x.letter(127), OUTSIDE);
        due.is("letter(-1)", x.letter(-1), OUTSIDE);
        due.is("letter(min)", x.letter(Integer.MIN_VALUE), OUTSIDE);
        due.is("letter(max)", x.letter(Integer.MAX_VALUE), OUTSIDE);
        due.is("letter(65536 + l)", x.letter(65536 + 'l'), OUTSIDE);
        due.is("letter(1)", x.letter(1), 1);
        due.is("letter(126)", x.letter(126), 2);
        for (int n = 3; n <= 40; n++) {
            due.is("letter number " + n, x.letter('l'), n);
        }
        due.is("letter number 41", x.letter('l'), FULL);
        due.is("a wrong letter number 41", x.letter(0), OUTSIDE);
        due.is("count(9), full", x.count(9), 40);
        due.is("blank(), full", x.blank(), 40);
        due.is("blank(), blank", x.blank(), 0);
        due.is("count(9), blank", x.count(9), 0);
        due.is("letter after blank()", x.letter('l'), 1);
    }

    private static void faults() {
        String four = "l0p1s2f3";
        fault("", 0);
        fault("l", 1);
        fault("g9g9", 4);
        fault("x", 0);
        fault("L0", 0);
        fault("0", 0);
        fault("ll", 1);
        fault("l:", 1);
        fault("l/", 1);
        fault("l9l9lx", 5);
        fault(four, 8);
        fault(four + "l", 8);
        fault(four + ",", 8);
        fault(four + ";", 9);
        fault(four + ";;", 9);
        fault(four + ";6", 9);
        fault(four + ";/", 9);
        fault(four + ";5", 10);
        fault(four + ";56", 10);
        fault(four + ";5;", 10);
        fault(four + ";55", 11);
        fault(four + ";55 ", 11);
        fault(four + ";550", 11);
        fault(four + ";55,", 12);
        fault(four + ";55,;", 12);
        fault(four + ";55,55,55", 17);
        fault(four + ";55,55,55,", 17);
        fault(four + ";55,55,55;", 18);
        fault(four + ";00;0", 13);
        fault(four + ";00;00", 13);
        fault(four + ";11,00;00", 16);
        fault(four + ";00;01", 14);
        fault(four + ";00;01;", 14);
        fault(four + ";00;01x", 14);
        fault(four + ";00;01,", 15);
        fault(four + ";00;01,01", 16);
        fault(four + ";00;01,02,01", 19);
        fault(four + ";00;01,02,03,04,05,10", 29);
        fault(four + ";00;01,02,03,04,05,10,", 29);
        fault(four + ";00,11,22;01,02,03,04,05,10", 35);
        fault(four + ";00,11,22;01,02,03,04,05,10l", 35);
        fault("f0p0l0x0;99", 6);
        // the row is full, and still the document names the second digit
        fault(four + ";00,01,02;03,04,05,0", 28);
        fault(four + ";00,01,02;03,04,05,03", 28);
    }

    private static void fault(String text, int place) {
        FourLodgers x = Due.written(text);
        due.is("fault() of " + text, x.fault(), place);
        due.is("count(9) behind fault() of " + text, x.count(9), text.length());
    }

    private static void refusedSeas() {
        String[] none = {"", "l0p1s2f3", "l0p1s2f3;00", "l0p1s2f3;00;", "l0p1s2f3;00;0", "l0p1s2f3;00;01,",
            "l0p1s2f3;00;01,0", "l0p1s2f3;00;01x", "l0p1s2f3;00;00", "l0p1s2f3;00,;01", "x0p1s2f3;00;01"};
        for (String text : none) {
            FourLodgers x = Due.written(text);
            due.is("sea() of " + text, x.sea(), STATE);
            due.is("letters behind sea() of " + text, x.count(9), text.length());
            due.is("seas behind sea() of " + text, x.count(10), 0);
        }
        FourLodgers x = Due.sea("s3p0f5g1;50,23;11", 2);
        Due.write(x, "l0p1s2f3;00;");
        due.is("a part of a sea", x.sea(), STATE);
        due.is("the sea stays: ships", x.count(0), 2);
        due.is("the sea stays: day", x.count(2), 2);
        due.is("the sea stays: letters", x.count(9), 12);
        due.is("the sea stays: kind", x.lodger(0, 0), 2);
        x.letter('0');
        x.letter('5');
        due.is("the rest of it", x.sea(), 1);
    }

    private static void seas() {
        FourLodgers x = Due.written("s3p0f5g1;23,50,05;11,14,41,44,22");
        due.is("sea()", x.sea(), 3);
        due.is("count(9) behind sea()", x.count(9), 0);
        due.is("count(10) behind sea()", x.count(10), 1);
        due.is("ships", x.count(0), 3);
        due.is("rocks", x.count(1), 5);
        x.hire();
        x.see(0, 0, true);
        x.ail(0, 40);
        x.image();
        x.day();
        due.is("sail(0, 2)", x.sail(0, 2), 21);
        Due.write(x, "l0l0l0l0;33;00");
        due.is("another sea()", x.sea(), 1);
        int[] counts = {1, 1, 0, 0, 4, 0, 0, 0, 0, 0, 2};
        for (int what = 0; what <= 10; what++) {
            due.is("another sea: count(" + what + ")", x.count(what), counts[what]);
        }
        due.is("another sea: restore()", x.restore(), STATE);
        due.is("another sea: ship 1", x.ship(1, 0), UNKNOWN);
        due.is("another sea: rock of the first", x.cell(7, 0), 0);
        due.is("another sea: its rock", x.cell(0, 0), 1);
        due.is("another sea: kinds", x.lodger(0, 3), 31);
        due.is("another sea: ship sailed", x.ship(0, 1), 0);
    }

    private static void lodgers() {
        FourLodgers x = Due.sea("s3p0f5g1;50;11");
        int[] kinds = {2, 1, 3, 4};
        int[] ills = {3, 0, 5, 1};
        int[] ups = {0, 0, 1, 1};
        for (int lodger = 0; lodger < 4; lodger++) {
            due.is("kind of " + lodger, x.lodger(lodger, 0), kinds[lodger]);
            due.is("ill of " + lodger, x.lodger(lodger, 1), ills[lodger]);
            due.is("up of " + lodger, x.lodger(lodger, 2), ups[lodger]);
        }
        Due.pass(x, 2);
        due.is("ill on day 2", x.lodger(0, 1), 1);
        Due.pass(x, 2);
        due.is("ill on day 4", x.lodger(0, 1), 0);
        upOn("plain, ill for 2", "l2l0l0l0;50;11", "0011111111111");
        upOn("poet", "p0l0l0l0;50;11", "0101010101010");
        upOn("poet, ill for 4", "p4l0l0l0;50;11", "0000010101010");
        upOn("sailor", "s0l0l0l0;50;11", "0110110110110");
        upOn("sailor, ill for 5", "s5l0l0l0;50;11", "0000010110110");
        upOn("family, ill for 9", "f9l0l0l0;50;11", "1111111111111");
        upOn("ghost", "g0l0l0l0;50;11", "1101110111011");
        upOn("ghost, ill for 6", "g6l0l0l0;50;11", "1000100111011");
        FourLodgers y = Due.sea("l0p0s0g0;50;11");
        int[] from0 = {28, 14, 18, 21};
        int[] from1 = {28, 14, 19, 21};
        for (int lodger = 0; lodger < 4; lodger++) {
            due.is("days up of " + lodger, y.lodger(lodger, 5), from0[lodger]);
        }
        y.day();
        for (int lodger = 0; lodger < 4; lodger++) {
            due.is("days up from day 1 of " + lodger, y.lodger(lodger, 5), from1[lodger]);
        }
        FourLodgers z = Due.sea("l9f9g9p1;50;11");
        int[] ill = {19, 28, 17, 14};
        for (int lodger = 0; lodger < 4; lodger++) {
            due.is("days up, ill, of " + lodger, z.lodger(lodger, 5), ill[lodger]);
        }
        due.is("lodger(-1, 0)", x.lodger(-1, 0), UNKNOWN);
        due.is("lodger(4, 0)", x.lodger(4, 0), UNKNOWN);
        due.is("lodger(4, 6)", x.lodger(4, 6), UNKNOWN);
        due.is("lodger(0, 6)", x.lodger(0, 6), OUTSIDE);
        due.is("lodger(0, -1)", x.lodger(0, -1), OUTSIDE);
        due.is("lodger(min, max)", x.lodger(Integer.MIN_VALUE, Integer.MAX_VALUE), UNKNOWN);
    }

    private static void upOn(String who, String text, String days) {
        FourLodgers x = Due.sea(text);
        for (int day = 0; day < days.length(); day++) {
            due.is(who + " up on day " + day, x.lodger(0, 2), days.charAt(day) - '0');
            x.day();
        }
    }

    private static void looks() {
        FourLodgers x = Due.sea("l0l5l0l0;50;11");
        due.is("kinds, nothing seen", x.lodger(0, 3), 31);
        due.is("look, nothing seen", x.lodger(0, 4), 0);
        x.day();
        // all are up on day 1, so it tells nothing
        due.is("look, nothing seen, day 1", x.lodger(0, 4), 1);
        FourLodgers y = Due.sea("l0l5l0l0;50;11");
        y.see(0, 0, true);
        due.is("kinds up on day 0", y.lodger(0, 3), 25);
        due.is("look of these", y.lodger(0, 4), 2);
        due.is("kinds of another", y.lodger(1, 3), 31);
        y.see(0, 2, false);
        due.is("kinds, a ghost", y.lodger(0, 3), 16);
        due.is("look, a ghost", y.lodger(0, 4), 0);
        y.see(1, 4, true);
        due.is("kinds up while ill", y.lodger(1, 3), 24);
        due.is("look of these, ill", y.lodger(1, 4), 1);
        y.ail(1, 0);
        due.is("kinds up on day 4, well", y.lodger(1, 3), 1 + 4 + 8 + 16);
        y.see(1, 4, false);
        due.is("kinds, none", y.lodger(1, 3), 0);
        due.is("look, none", y.lodger(1, 4), NONE);
        FourLodgers z = Due.sea("l0l0l0l0;50;11");
        z.ail(0, 20);
        z.see(0, 0, false);
        due.is("kinds that stay in bed", z.lodger(0, 3), 1 + 2 + 4);
        due.is("look, on the last day", z.lodger(0, 4), 20);
        z.ail(0, 21);
        due.is("look, no day tells", z.lodger(0, 4), 0);
    }

    private static void kindsTaken() {
        String[] taken = {"1....", "11...", "1.1..", "1..1.", "11..1"};
        String letters = "lpsfg";
        for (int kind = 0; kind < 5; kind++) {
            FourLodgers x = Due.sea("l0l0" + letters.charAt(kind) + "0l0;50;11");
            for (int as = 0; as < 5; as++) {
                due.is("a " + letters.charAt(kind) + " as " + as, x.as(2, as), taken[kind].charAt(as) == '1' ? 2 : NONE);
            }
        }
        FourLodgers x = Due.sea("l0l0l0g0;50;11");
        due.is("as(3, 1)", x.as(3, 1), 3);
        due.is("as(-1, 0)", x.as(-1, 0), UNKNOWN);
        due.is("as(4, 0)", x.as(4, 0), UNKNOWN);
        due.is("as(4, 5)", x.as(4, 5), UNKNOWN);
        due.is("as(0, 5)", x.as(0, 5), OUTSIDE);
        due.is("as(0, -1)", x.as(0, -1), OUTSIDE);
    }

    private static void ships() {
        FourLodgers x = Due.sea("l0p0s0f0;22,00,54;21");
        due.is("cell of 0", x.ship(0, 0), 14);
        due.is("cell of 1", x.ship(1, 0), 0);
        due.is("cell of 2", x.ship(2, 0), 34);
        due.is("by whom 0 may, a rock in the west", x.ship(0, 2), 1);
        due.is("by whom 1 may, in the corner", x.ship(1, 2), 0);
        due.is("by whom 2 may", x.ship(2, 2), 9);
        due.is("sailed", x.ship(2, 1), 0);
        x.sail(2, 3);
        due.is("it sailed", x.ship(2, 1), 1);
        due.is("another did not", x.ship(1, 1), 0);
        due.is("where to", x.ship(2, 0), 33);
        due.is("by none any more", x.ship(2, 2), 0);
        x.day();
        due.is("sailed, the day after", x.ship(2, 1), 0);
        due.is("by whom, the day after", x.ship(2, 2), 1 + 2 + 8);
        due.is("by whom, the day after", x.ship(0, 2), 1 + 2 + 4);
        due.is("ship(3, 0)", x.ship(3, 0), UNKNOWN);
        due.is("ship(-1, 0)", x.ship(-1, 0), UNKNOWN);
        due.is("ship(3, 3)", x.ship(3, 3), UNKNOWN);
        due.is("ship(0, 3)", x.ship(0, 3), OUTSIDE);
        due.is("ship(0, -1)", x.ship(0, -1), OUTSIDE);
        FourLodgers y = Due.sea("f0f0f0f0;00,05,50;55");
        due.is("north west", y.ship(0, 2), 2 + 4);
        due.is("north east", y.ship(1, 2), 4 + 8);
        due.is("south west", y.ship(2, 2), 1 + 2);
        due.is("ship(2, 0)", y.ship(2, 0), 30);
    }

    private static void cells() {
        FourLodgers x = Due.sea("f0f0f0f0;22,22,00;55,01");
        for (int cell = 0; cell < 36; cell++) {
            due.is("rock in " + cell, x.cell(cell, 0), cell == 35 || cell == 1 ? 1 : 0);
            due.is("ships in " + cell, x.cell(cell, 1), cell == 14 ? 3 : cell == 0 ? 4 : 0);
        }
        x.sail(0, 2);
        due.is("one left", x.cell(14, 1), 2);
        due.is("one came", x.cell(20, 1), 1);
        due.is("cell(36, 0)", x.cell(36, 0), UNKNOWN);
        due.is("cell(-1, 0)", x.cell(-1, 0), UNKNOWN);
        due.is("cell(36, 2)", x.cell(36, 2), UNKNOWN);
        due.is("cell(0, 2)", x.cell(0, 2), OUTSIDE);
        due.is("cell(0, -1)", x.cell(0, -1), OUTSIDE);
        due.is("cell(64, 0)", x.cell(64, 0), UNKNOWN);
    }
}
