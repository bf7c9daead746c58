/** The edges of section 1 and of promises 1 to 9: each at the boundary and on both sides of it. EDGES.md is the index. */
public final class SeaEdgesTest {
    private static final int NONE = -1, UNKNOWN = -101, OUTSIDE = -102, STATE = -103, FULL = -104;
    private static final String FOUR = "l0p1s2f3";
    private static final Due due = new Due("SeaEdgesTest");

    public static void main(String[] args) {
        codesOfLetters();
        lettersOfThePage();
        blankPages();
        kindsAndDaysOnThePage();
        shipsOnThePage();
        rocksOnThePage();
        rocksApart();
        faultsStayFaults();
        howManyShipsAndRocks();
        cellsOfTheText();
        everyBeginningIsNoSea();
        firstNoneThenDayZero();
        anotherSea();
        illForSoManyDays();
        upByKinds();
        theNext28Days();
        lodgerNumbers();
        kindsAndCasts();
        shipNumbers();
        cellNumbers();
        due.end();
    }

    /** "OUTSIDE: code (1 to 126)". */
    private static void codesOfLetters() {
        for (int code = -3; code <= 130; code++) {
            FourLodgers x = new FourLodgers();
            boolean inside = code >= 1 && code <= 126;
            due.is("letter(" + code + ")", x.letter(code), inside ? 1 : OUTSIDE);
            due.is("letters behind letter(" + code + ")", x.count(9), inside ? 1 : 0);
        }
        int[] wrapped = {256 + 'l', 65536 + 'l', Integer.MIN_VALUE + 'l', Integer.MIN_VALUE, Integer.MAX_VALUE};
        for (int code : wrapped) {
            due.is("letter(" + code + ")", new FourLodgers().letter(code), OUTSIDE);
        }
    }

    /** "how many THE PAGE has", "FULL: above 40". */
    private static void lettersOfThePage() {
        FourLodgers x = new FourLodgers();
        for (int n = 1; n <= 40; n++) {
            due.is("letter number " + n, x.letter(n), n);
        }
        long full = x.digest();
        due.is("letter number 41", x.letter(1), FULL);
        due.is("letter number 42", x.letter(126), FULL);
        due.is("letters", x.count(9), 40);
        due.is("the letters are as they were", x.digest(), full);
        due.is("blank()", x.blank(), 40);
        due.is("the first again", x.letter(1), 1);
    }

    /** "THE PAGE is empty: how many letters it had", from none to 40. */
    private static void blankPages() {
        FourLodgers x = new FourLodgers();
        int[] sizes = {0, 1, 2, 39, 40, 0};
        for (int size : sizes) {
            Due.write(x, "l".repeat(size));
            due.is("blank() of " + size, x.blank(), size);
            due.is("letters behind blank() of " + size, x.count(9), 0);
            due.is("fault() behind blank() of " + size, x.fault(), 0);
        }
    }

    /** Tries each code behind the letters ahead of it: those that a SEA may have there, and all others. */
    private static void behind(String ahead, String may) {
        for (int code = 1; code <= 126; code++) {
            boolean fits = may.indexOf(code) >= 0;
            String text = ahead + (char) code;
            due.is("fault() of " + text, Due.written(text).fault(), ahead.length() + (fits ? 1 : 0));
        }
        due.is("fault() of " + ahead, Due.written(ahead).fault(), ahead.length());
    }

    /** "four LODGERS one right behind the other, each a letter, the KIND, and a digit (0 to 9); ";"". */
    private static void kindsAndDaysOnThePage() {
        String digits = "0123456789";
        behind("", "lpsfg");
        behind("l", digits);
        behind("l0", "lpsfg");
        behind("l9p", digits);
        behind("l9p8", "lpsfg");
        behind("l9p8s", digits);
        behind("l9p8s7", "lpsfg");
        behind("l9p8s7f", digits);
        behind("l9p8s7f6", ";");
        behind("g0g9g0g9;", "012345");
    }

    /** "one to three SHIPS with "," between, each two digits, the row and the column; ";"". */
    private static void shipsOnThePage() {
        behind(FOUR + ";0", "012345");
        behind(FOUR + ";5", "012345");
        behind(FOUR + ";05", ",;");
        behind(FOUR + ";05,", "012345");
        behind(FOUR + ";05,0", "012345");
        behind(FOUR + ";05,05", ",;");
        behind(FOUR + ";05,05,", "012345");
        behind(FOUR + ";05,05,0", "012345");
        behind(FOUR + ";05,05,05", ";");
        behind(FOUR + ";05;", "012345");
        behind(FOUR + ";05,50;", "012345");
        behind(FOUR + ";05,05,05;", "012345");
    }

    /** "one to six ROCKS with "," between, each two digits likewise". */
    private static void rocksOnThePage() {
        String[] rocks = {"00", "01", "02", "03", "04", "05"};
        for (String ships : new String[] {";55", ";55,54", ";55,54,53"}) {
            String ahead = FOUR + ships + ";";
            for (int n = 1; n <= 6; n++) {
                ahead += rocks[n - 1];
                behind(ahead, n < 6 ? "," : "");
                ahead += ",";
                if (n < 6) {
                    behind(ahead, "012345");
                    behind(ahead + "1", "012345");
                }
            }
        }
    }

    /** "no ROCK in a CELL of a ship, or of a ROCK ahead of it: the second digit is the fault; ships may be in one CELL". */
    private static void rocksApart() {
        behind(FOUR + ";22;2", "01345");
        behind(FOUR + ";22;1", "012345");
        behind(FOUR + ";22;3", "012345");
        behind(FOUR + ";20,25;2", "1234");
        behind(FOUR + ";21,23,24;2", "025");
        behind(FOUR + ";22,22,22;2", "01345");
        behind(FOUR + ";22;20,2", "1345");
        behind(FOUR + ";22;20,21,2", "345");
        behind(FOUR + ";22;00,21,2", "0345");
        behind(FOUR + ";22;20,21,23,2", "45");
        behind(FOUR + ";22;20,21,23,24,2", "5");
        // the row has no CELL left: its second digit is the fault, whichever it is
        behind(FOUR + ";22;20,21,23,24,", "012345");
        behind(FOUR + ";22,25;20,21,23,24,2", "");
        behind(FOUR + ";22,25;20,21,23,24,", "012345");
        behind(FOUR + ";22;20,21,23,24,25,2", "");
        behind(FOUR + ";22;20,21,23,24,25,1", "012345");
        due.is("ships in one CELL", Due.written(FOUR + ";00,00,00;01").sea(), 3);
        due.is("ships in one CELL", Due.sea(FOUR + ";00,00,00;01").cell(0, 1), 7);
    }

    /** "the first letter .. that no SEA has there": what comes behind it changes nothing. */
    private static void faultsStayFaults() {
        String text = "l0p1s2f3;00;01";
        for (int place = 0; place < text.length(); place++) {
            String wrong = text.substring(0, place) + "x" + text.substring(place + 1);
            due.is("fault() of " + wrong, Due.written(wrong).fault(), place);
            due.is("fault() of " + wrong + wrong, Due.written(wrong + wrong).fault(), place);
            due.is("sea() of " + wrong, Due.written(wrong).sea(), STATE);
        }
        FourLodgers x = Due.written("l".repeat(40));
        due.is("fault() of a full page", x.fault(), 1);
        due.is("sea() of a full page", x.sea(), STATE);
        FourLodgers y = Due.written(text);
        due.is("fault(), a SEA", y.fault(), 14);
        due.is("fault() again", y.fault(), 14);
        y.letter(',');
        due.is("fault(), the beginning of one", y.fault(), 15);
        y.letter(',');
        due.is("fault(), no more", y.fault(), 15);
    }

    /** "one to three SHIPS", "one to six ROCKS", each number of them. */
    private static void howManyShipsAndRocks() {
        String[] ships = {"", "55", "55,54", "55,54,53", "55,54,53,52"};
        String[] rocks = {"", "00", "00,01", "00,01,02", "00,01,02,03", "00,01,02,03,04", "00,01,02,03,04,05",
            "00,01,02,03,04,05,10"};
        for (int s = 0; s < ships.length; s++) {
            for (int r = 0; r < rocks.length; r++) {
                boolean sea = s >= 1 && s <= 3 && r >= 1 && r <= 6;
                String text = FOUR + ";" + ships[s] + ";" + rocks[r];
                FourLodgers x = Due.written(text);
                due.is("sea() of " + text, x.sea(), sea ? s : STATE);
                due.is("ships of " + text, x.count(0), sea ? s : 0);
                due.is("rocks of " + text, x.count(1), sea ? r : 0);
                due.is("letters behind " + text, x.count(9), sea ? 0 : Math.min(text.length(), 40));
            }
        }
    }

    /** "36 CELLS, told as 6 times the row (0 to 5) and the column (0 to 5)". */
    private static void cellsOfTheText() {
        for (int row = 0; row < 6; row++) {
            for (int column = 0; column < 6; column++) {
                int cell = 6 * row + column;
                String here = "" + row + column;
                String other = cell == 35 ? "00" : "55";
                due.is("a ship in " + here, Due.sea(FOUR + ";" + here + ";" + other).ship(0, 0), cell);
                FourLodgers x = Due.sea(FOUR + ";" + other + ";" + here);
                for (int each = 0; each < 36; each++) {
                    due.is("a rock in " + here + ", asked for " + each, x.cell(each, 0), each == cell ? 1 : 0);
                }
            }
        }
    }

    /** "STATE: it is none": no beginning of a SEA is one, but where it ends behind a ROCK. */
    private static void everyBeginningIsNoSea() {
        String text = "s3p0f5g1;50,23,05;11,14,41,44,22,00";
        for (int n = 0; n <= text.length(); n++) {
            boolean sea = n >= 20 && (n - 20) % 3 == 0;
            FourLodgers x = Due.written(text.substring(0, n));
            due.is("fault() of " + n + " letters", x.fault(), n);
            due.is("sea() of " + n + " letters", x.sea(), sea ? 3 : STATE);
            due.is("letters behind sea() of " + n, x.count(9), sea ? 0 : n);
            due.is("seas read by " + n, x.count(10), sea ? 1 : 0);
        }
        for (int more = 1; more <= 5; more++) {
            due.is("sea() of " + more + " letters too many", Due.written(text + ",33,3".substring(0, more)).sea(), STATE);
        }
    }

    /** "At first there is none; then it is DAY 0, the FIFTH is not hired". */
    private static void firstNoneThenDayZero() {
        FourLodgers x = Due.written("l0l1l0l9;22;55");
        due.is("no SEA: lodger", x.lodger(0, 0), UNKNOWN);
        due.is("no SEA: ship", x.ship(0, 0), UNKNOWN);
        due.is("no SEA: cell", x.cell(0, 0), UNKNOWN);
        due.is("no SEA: none is up", x.count(4), 0);
        due.is("sea()", x.sea(), 1);
        due.is("DAY", x.count(2), 0);
        due.is("hired", x.count(3), 0);
        due.is("up", x.count(4), 2);
        due.is("ill", x.count(5), 2);
        due.is("sailed", x.count(6) + x.count(7), 0);
        due.is("seen", x.count(8), 0);
        due.is("the next", x.day(), 1);
    }

    /** "another one is gone, with all that was": of more ships and rocks, and of less. */
    private static void anotherSea() {
        FourLodgers x = Due.sea("l9l9l9l9;00,01,02;55,54,53,52,51,50", 3);
        x.hire();
        x.sail(0, 4);
        x.see(0, 0, true);
        x.image();
        Due.write(x, "f0f0f0f0;33;00");
        due.is("one of less", x.sea(), 1);
        due.is("as if it was the first", sight(x), sight(Due.sea("f0f0f0f0;33;00")));
        due.is("restore()", x.restore(), STATE);
        x.sail(0, 0);
        x.day();
        Due.write(x, "l9l9l9l9;00,01,02;55,54,53,52,51,50");
        due.is("one of more", x.sea(), 3);
        due.is("as if it was the first", sight(x), sight(Due.sea("l9l9l9l9;00,01,02;55,54,53,52,51,50")));
        due.is("how many were read", x.count(10), 3);
        FourLodgers y = Due.sea("s1p2g3f4;01,23;45", 2);
        y.sail(0, 2);
        y.see(1, 2, true);
        y.image();
        Due.write(y, "s1p2g3f4;01,23;4");
        long before = y.digest();
        due.is("none", y.sea(), STATE);
        due.is("nothing is gone", y.digest(), before);
        due.is("nor the IMAGE", y.restore(), 2);
        y.letter('5');
        due.is("the same one, read again", y.sea(), 2);
        due.is("is another", y.restore(), STATE);
        due.is("as if it was the first", sight(y), sight(Due.sea("s1p2g3f4;01,23;45")));
    }

    /** All that is told but count(10), which goes on. */
    private static long sight(FourLodgers x) {
        long h = 0;
        for (int lodger = 0; lodger < 4; lodger++) {
            for (int what = 0; what <= 5; what++) {
                h = 37 * h + x.lodger(lodger, what);
            }
        }
        for (int ship = 0; ship < 3; ship++) {
            for (int what = 0; what <= 2; what++) {
                h = 37 * h + x.ship(ship, what);
            }
        }
        for (int cell = 0; cell < 36; cell++) {
            h = 37 * (37 * h + x.cell(cell, 0)) + x.cell(cell, 1);
        }
        for (int what = 0; what <= 9; what++) {
            h = 37 * h + x.count(what);
        }
        return h;
    }

    /** "for how many DAYS from DAY 0 on he is ILL (0 to 9)", "for how many DAYS more he is ILL, today with it". */
    private static void illForSoManyDays() {
        for (int ill = 0; ill <= 9; ill++) {
            FourLodgers x = Due.sea("l" + ill + "l0l0l0;22;55");
            for (int day = 0; day <= 11; day++) {
                String when = "ill for " + ill + ", on day " + day;
                due.is(when + ", days more", x.lodger(0, 1), Math.max(0, ill - day));
                due.is(when + ", up", x.lodger(0, 2), day < ill ? 0 : 1);
                due.is(when + ", counted ill", x.count(5), day < ill ? 1 : 0);
                due.is(when + ", counted up", x.count(4), day < ill ? 3 : 4);
                x.day();
            }
        }
    }

    /** Who is UP when, of each KIND: well, ill for 4 DAYS and for 5. */
    private static void upByKinds() {
        up('l', 0, "1111111111111");
        up('l', 4, "0000111111111");
        up('l', 5, "0000011111111");
        up('p', 0, "0101010101010");
        up('p', 1, "0101010101010");
        up('p', 2, "0001010101010");
        up('p', 4, "0000010101010");
        up('p', 5, "0000010101010");
        up('s', 0, "0110110110110");
        up('s', 4, "0000110110110");
        up('s', 5, "0000010110110");
        up('f', 0, "1111111111111");
        up('f', 4, "1111111111111");
        up('f', 9, "1111111111111");
        up('g', 0, "1101110111011");
        up('g', 4, "1000110111011");
        up('g', 5, "1000110111011");
        up('g', 6, "1000100111011");
        up('g', 9, "1000100011011");
    }

    private static void up(char kind, int ill, String days) {
        FourLodgers x = Due.sea("l0l0l0" + kind + ill + ";22;55");
        for (int day = 0; day < days.length(); day++) {
            due.is(kind + " ill for " + ill + ", up on day " + day, x.lodger(3, 2), days.charAt(day) - '0');
            x.day();
        }
    }

    /** "on how many of the next 28 DAYS, today with it, he is UP". */
    private static void theNext28Days() {
        FourLodgers x = Due.sea("l0p0s0g0;22;55");
        for (int ill = 0; ill <= 40; ill++) {
            x.ail(0, ill);
            due.is("plain, ill for " + ill, x.lodger(0, 5), Math.max(0, 28 - ill));
        }
        FourLodgers y = Due.sea("g0p0s0f9;22;55");
        int[] ills = {26, 27, 28, 29, 40};
        // of DAYS 0 to 27: the even fourths are 7; DAY 27 is odd and divided by 3, DAY 26 is neither
        int[] ghost = {8, 8, 7, 7, 7};
        int[] poet = {1, 1, 0, 0, 0};
        int[] sailor = {1, 0, 0, 0, 0};
        for (int i = 0; i < ills.length; i++) {
            for (int lodger = 0; lodger < 3; lodger++) {
                y.ail(lodger, ills[i]);
            }
            due.is("ghost, ill for " + ills[i], y.lodger(0, 5), ghost[i]);
            due.is("poet, ill for " + ills[i], y.lodger(1, 5), poet[i]);
            due.is("sailor, ill for " + ills[i], y.lodger(2, 5), sailor[i]);
        }
        due.is("family", y.lodger(3, 5), 28);
        // a sailor stays in bed on DAYS 0, 3, .. 27: of 28 DAYS that is ten from DAY 0 or 3, and nine from the others
        FourLodgers z = Due.sea("l0p0s0g0;22;55");
        for (int day = 0; day < 7; day++) {
            due.is("sailor, from day " + day, z.lodger(2, 5), day % 3 == 0 ? 18 : 19);
            z.day();
        }
    }

    /** "UNKNOWN: lodger (0 to 3; also without a SEA); OUTSIDE", what = 0 to 5. */
    private static void lodgerNumbers() {
        FourLodgers x = Due.sea("s3p0f5g1;50;11");
        FourLodgers none = new FourLodgers();
        int[] lodgers = {Integer.MIN_VALUE, -32, -1, 0, 3, 4, 5, 32, Integer.MAX_VALUE};
        int[] whats = {Integer.MIN_VALUE, -1, 0, 5, 6, 7, Integer.MAX_VALUE};
        for (int lodger : lodgers) {
            for (int what : whats) {
                boolean known = lodger >= 0 && lodger <= 3;
                boolean inside = what >= 0 && what <= 5;
                int got = x.lodger(lodger, what);
                due.is("lodger(" + lodger + ", " + what + ")", got < -1 ? got : 0, !known ? UNKNOWN : inside ? 0 : OUTSIDE);
                due.is("no SEA: lodger(" + lodger + ", " + what + ")", none.lodger(lodger, what), UNKNOWN);
            }
        }
    }

    /** "KINDS are told by the letter", "All are LODGERS; a GHOST is a POET, too", kind = 0 to 4. */
    private static void kindsAndCasts() {
        int[] kinds = {Integer.MIN_VALUE, -1, 0, 1, 2, 3, 4, 5, 6, 32, Integer.MAX_VALUE};
        int[] lodgers = {Integer.MIN_VALUE, -1, 0, 1, 2, 3, 4, 32, Integer.MAX_VALUE};
        FourLodgers none = new FourLodgers();
        for (int own = 0; own < 5; own++) {
            String one = "lpsfg".charAt(own) + "0";
            FourLodgers x = Due.sea(one + one + one + one + ";22;55");
            for (int lodger : lodgers) {
                boolean known = lodger >= 0 && lodger <= 3;
                due.is("kind of " + lodger + " in " + one, x.lodger(lodger, 0), known ? own : UNKNOWN);
                for (int kind : kinds) {
                    boolean inside = kind >= 0 && kind <= 4;
                    boolean such = kind == 0 || kind == own || own == 4 && kind == 1;
                    int want = !known ? UNKNOWN : !inside ? OUTSIDE : such ? lodger : NONE;
                    due.is(one + " as(" + lodger + ", " + kind + ")", x.as(lodger, kind), want);
                    due.is("no SEA: as(" + lodger + ", " + kind + ")", none.as(lodger, kind), UNKNOWN);
                }
                none = new FourLodgers();
            }
        }
    }

    /** Ships are numbered from 0, one to three; what = 0 to 2. */
    private static void shipNumbers() {
        String[] ships = {"", "22", "22,23", "22,23,24"};
        int[] numbers = {Integer.MIN_VALUE, -1, 0, 1, 2, 3, 4, 32, Integer.MAX_VALUE};
        int[] whats = {Integer.MIN_VALUE, -1, 0, 1, 2, 3, 4, Integer.MAX_VALUE};
        for (int n = 0; n <= 3; n++) {
            FourLodgers x = n == 0 ? new FourLodgers() : Due.sea("f0f0f0f0;" + ships[n] + ";55");
            for (int ship : numbers) {
                for (int what : whats) {
                    boolean known = ship >= 0 && ship < n;
                    int told = what == 0 ? 14 + ship : what == 1 ? 0 : what == 2 ? 15 : OUTSIDE;
                    due.is(n + " ships: ship(" + ship + ", " + what + ")", x.ship(ship, what), known ? told : UNKNOWN);
                }
            }
        }
    }

    /** "UNKNOWN: cell (0 to 35; also without a SEA); OUTSIDE", what = 0 and 1. */
    private static void cellNumbers() {
        FourLodgers x = Due.sea("f0f0f0f0;00,55;05,50");
        FourLodgers none = new FourLodgers();
        int[] cells = {Integer.MIN_VALUE, -64, -1, 0, 35, 36, 37, 64, 64 + 5, Integer.MAX_VALUE};
        int[] whats = {Integer.MIN_VALUE, -1, 0, 1, 2, 3, Integer.MAX_VALUE};
        for (int cell : cells) {
            for (int what : whats) {
                boolean known = cell == 0 || cell == 35;
                int told = what == 0 ? 0 : what == 1 ? cell == 0 ? 1 : 2 : OUTSIDE;
                due.is("cell(" + cell + ", " + what + ")", x.cell(cell, what), known ? told : UNKNOWN);
                due.is("no SEA: cell(" + cell + ", " + what + ")", none.cell(cell, what), UNKNOWN);
            }
        }
        due.is("a rock in the north east", x.cell(5, 0), 1);
        due.is("a rock in the south west", x.cell(30, 0), 1);
        due.is("no ship there", x.cell(5, 1), 0);
    }
}
