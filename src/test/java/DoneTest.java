/** Promises 10 to 14: what is done. */
public final class DoneTest {
    private static final int NONE = -1, UNKNOWN = -101, OUTSIDE = -102, STATE = -103, FULL = -104;
    private static final Due due = new Due("DoneTest");

    public static void main(String[] args) {
        sails();
        sailsByTheFifth();
        refusedSails();
        sailsToTheFull();
        days();
        ails();
        lets();
        hires();
        due.end();
    }

    private static void sails() {
        FourLodgers x = Due.sea("f0f0f0f0;22,33;55");
        due.is("north", x.sail(0, 0), 8);
        due.is("again on the day", x.sail(0, 0), STATE);
        due.is("another ship", x.sail(1, 1), 22);
        due.is("how often", x.count(7), 2);
        due.is("how many today", x.count(6), 2);
        x.day();
        due.is("how many today, the day after", x.count(6), 0);
        due.is("south", x.sail(0, 2), 14);
        due.is("west", x.sail(1, 3), 21);
        due.is("how often, the day after", x.count(7), 4);
    }

    private static void sailsByTheFifth() {
        FourLodgers x = Due.sea("l9l9l9l9;00,03,40;01,05,02", 3);
        due.is("not hired", x.sail(0, 4), STATE);
        x.hire();
        due.is("over rocks", x.sail(0, 4), 8);
        due.is("into the last column", x.sail(1, 4), 11);
        due.is("into the last row", x.sail(2, 4), 32);
        x.day();
        due.is("on another day", x.sail(0, 4), STATE);
        Due.pass(x, 6);
        due.is("a week later", x.sail(0, 4), 16);
        FourLodgers y = Due.sea("l9l9l9l9;04,50,00;12", 3);
        y.hire();
        due.is("out in the east", y.sail(0, 4), STATE);
        due.is("out in the south", y.sail(1, 4), STATE);
        due.is("a rock", y.sail(2, 4), STATE);
        due.is("by whom", y.ship(2, 2), 0);
    }

    private static void refusedSails() {
        FourLodgers x = Due.sea("f0f0l1f0;00,25,21;20,54");
        due.is("ship -1", x.sail(-1, 0), UNKNOWN);
        due.is("ship 3", x.sail(3, 0), UNKNOWN);
        due.is("by -1", x.sail(0, -1), UNKNOWN);
        due.is("by 5", x.sail(0, 5), UNKNOWN);
        due.is("out in the north", x.sail(0, 0), STATE);
        due.is("out in the west", x.sail(0, 3), STATE);
        due.is("out in the east", x.sail(1, 1), STATE);
        due.is("one who is ill", x.sail(1, 2), STATE);
        due.is("a rock", x.sail(2, 3), STATE);
        due.is("none sailed", x.count(7), 0);
        due.is("none sailed today", x.count(6), 0);
        due.is("it may yet", x.sail(2, 1), 14);
        due.is("by 5, when it sailed", x.sail(2, 5), UNKNOWN);
    }

    /** More calls than an object is made for: the document's limit stands all the same. */
    private static void sailsToTheFull() {
        FourLodgers x = Due.sea("f0f0f0f0;00,20,40;55");
        for (int day = 0; day < 333; day++) {
            for (int ship = 0; ship < 3; ship++) {
                x.sail(ship, day % 2 == 0 ? 1 : 3);
            }
            x.day();
        }
        due.is("sailed 999 times", x.count(7), 999);
        due.is("once more, wrong", x.sail(0, 0), STATE);
        due.is("once more", x.sail(0, 3), FULL);
        due.is("it stayed", x.ship(0, 0), 1);
        due.is("it did not sail", x.ship(0, 1), 0);
    }

    private static void days() {
        FourLodgers x = Due.sea("l3l0l0l0;22;55");
        for (int day = 1; day < 1000; day++) {
            due.is("day " + day, x.day(), day);
        }
        due.is("day 1000", x.day(), FULL);
        due.is("count(2)", x.count(2), 999);
    }

    private static void ails() {
        FourLodgers x = Due.sea("l3l0l0l0;22;55");
        due.is("ail(0, 5)", x.ail(0, 5), 3);
        due.is("ill now", x.lodger(0, 1), 5);
        x.day();
        due.is("ail(0, 40)", x.ail(0, 40), 4);
        due.is("ill now", x.lodger(0, 1), 40);
        due.is("ail(0, 0)", x.ail(0, 0), 40);
        due.is("well now", x.lodger(0, 1), 0);
        due.is("up now", x.lodger(0, 2), 1);
        due.is("ail(0, 2)", x.ail(0, 2), 0);
        due.is("not up now", x.lodger(0, 2), 0);
        x.day();
        due.is("nor the day after", x.lodger(0, 2), 0);
        x.day();
        due.is("but then", x.lodger(0, 2), 1);
        due.is("ail(0, 1), long well", x.ail(0, 1), 0);
        due.is("ail(4, 0)", x.ail(4, 0), UNKNOWN);
        due.is("ail(-1, 41)", x.ail(-1, 41), UNKNOWN);
        due.is("ail(0, 41)", x.ail(0, 41), OUTSIDE);
        due.is("ail(0, -1)", x.ail(0, -1), OUTSIDE);
        due.is("still ill", x.lodger(0, 1), 1);
        due.is("another", x.lodger(1, 1), 0);
    }

    private static void lets() {
        FourLodgers x = Due.sea("l3p0l0l0;22;55");
        x.see(0, 0, true);
        due.is("let(0, 3)", x.let(0, 3), 0);
        due.is("kind", x.lodger(0, 0), 3);
        due.is("ill as he was", x.lodger(0, 1), 3);
        due.is("up", x.lodger(0, 2), 1);
        due.is("what is seen stays", x.count(8), 1);
        due.is("let(0, 4)", x.let(0, 4), 3);
        due.is("let(1, 0)", x.let(1, 0), 1);
        due.is("let(1, 5)", x.let(1, 5), OUTSIDE);
        due.is("let(1, -1)", x.let(1, -1), OUTSIDE);
        due.is("let(4, 0)", x.let(4, 0), UNKNOWN);
        due.is("let(-1, 5)", x.let(-1, 5), UNKNOWN);
        due.is("kind, as it was", x.lodger(1, 0), 0);
    }

    private static void hires() {
        FourLodgers x = Due.sea("l0l0l0l0;22;55");
        due.is("hire()", x.hire(), 1);
        due.is("count(3)", x.count(3), 1);
        due.is("hire() again", x.hire(), 0);
        due.is("count(3)", x.count(3), 0);
        x.hire();
        String up = "000100000010000001";
        for (int day = 0; day < up.length(); day++) {
            due.is("the fifth on day " + day, x.ship(0, 2) >> 4, up.charAt(day) - '0');
            x.day();
        }
        due.is("the four alone are counted", x.count(4), 4);
    }
}
