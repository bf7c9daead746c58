/** The edges of SAIL in section 1 and of promises 10 to 14: each at the boundary and on both sides of it. */
public final class DoneEdgesTest {
    private static final int UNKNOWN = -101, OUTSIDE = -102, STATE = -103, FULL = -104;
    private static final int[] SOUTHWARD = {-1, 0, 1, 0, 1};
    private static final int[] EASTWARD = {0, 1, 0, -1, 2};
    private static final Due due = new Due("DoneEdgesTest");

    public static void main(String[] args) {
        fromEveryCellByEachOne();
        intoARock();
        overARock();
        onceADay();
        refusedIsNotSailed();
        onlyByOneWhoIsUp();
        theFifthOnHerDays();
        sailNumbers();
        sailedTimes();
        dayAfterDay();
        illFor0To40();
        illAgain();
        letToEachKind();
        hiredAndNot();
        due.end();
    }

    private static String text(int cell) {
        return "" + cell / 6 + cell % 6;
    }

    /** NONE as -1, if it leads out of the square: no CELL is come to round the edge. */
    private static int beside(int cell, int by) {
        int row = cell / 6 + SOUTHWARD[by];
        int column = cell % 6 + EASTWARD[by];
        return row < 0 || row > 5 || column < 0 || column > 5 ? -1 : 6 * row + column;
    }

    /** On DAY 3 all five are UP. */
    private static FourLodgers allUp(int ship, int rock) {
        FourLodgers x = Due.sea("f0f0f0f0;" + text(ship) + ";" + text(rock), 3);
        x.hire();
        return x;
    }

    /** A CELL that no one leads to from this one. */
    private static int farFrom(int cell) {
        return (cell + 18) % 36;
    }

    /** "by 0 a row north, by 1 a column east, by 2 south, by 3 west, by the FIFTH a row south and two columns east; into a CELL of the square". */
    private static void fromEveryCellByEachOne() {
        for (int cell = 0; cell < 36; cell++) {
            int bits = 0;
            for (int by = 0; by <= 4; by++) {
                FourLodgers x = allUp(cell, farFrom(cell));
                int to = beside(cell, by);
                String call = "from " + cell + " sail(0, " + by + ")";
                due.is(call, x.sail(0, by), to < 0 ? STATE : to);
                due.is(call + ", where it is", x.ship(0, 0), to < 0 ? cell : to);
                due.is(call + ", whether it sailed", x.ship(0, 1), to < 0 ? 0 : 1);
                due.is(call + ", how often", x.count(7), to < 0 ? 0 : 1);
                due.is(call + ", who is there", x.cell(to < 0 ? cell : to, 1), 1);
                bits |= to < 0 ? 0 : 1 << by;
            }
            due.is("by whom from " + cell, allUp(cell, farFrom(cell)).ship(0, 2), bits);
        }
    }

    /** "into a CELL .. without a ROCK". */
    private static void intoARock() {
        for (int cell = 0; cell < 36; cell++) {
            for (int by = 0; by <= 4; by++) {
                int rock = beside(cell, by);
                if (rock >= 0) {
                    FourLodgers x = allUp(cell, rock);
                    String call = "from " + cell + " into the rock in " + rock;
                    due.is(call, x.sail(0, by), STATE);
                    due.is(call + ", by whom", x.ship(0, 2) >> by & 1, 0);
                    due.is(call + ", where it is", x.ship(0, 0), cell);
                    due.is(call + ", how often", x.count(7), 0);
                    due.is(call + ", never there", x.can(0, rock, 40), 0);
                }
            }
        }
    }

    /** Of the FIFTH's way only the CELL at its end counts; ships may be in one CELL. */
    private static void overARock() {
        FourLodgers x = Due.sea("f0f0f0f0;00,12;01,02,10,11", 3);
        x.hire();
        due.is("by the fifth alone", x.ship(0, 2), 16);
        due.is("over rocks, to another ship", x.sail(0, 4), 8);
        due.is("both are there", x.cell(8, 1), 3);
        due.is("away from it", x.sail(1, 1), 9);
        due.is("one is there", x.cell(8, 1), 1);
    }

    /** "On each DAY a ship may SAIL once". */
    private static void onceADay() {
        FourLodgers x = Due.sea("f0f0f0f0;22,22;55");
        due.is("once", x.sail(0, 1), 15);
        for (int by = 0; by <= 4; by++) {
            due.is("twice, by " + by, x.sail(0, by), STATE);
        }
        due.is("it is where it was", x.ship(0, 0), 15);
        due.is("by none", x.ship(0, 2), 0);
        due.is("another, once", x.sail(1, 1), 15);
        due.is("another, twice", x.sail(1, 1), STATE);
        due.is("how many today", x.count(6), 2);
        due.is("how often", x.count(7), 2);
        due.is("the next day", x.day(), 1);
        due.is("how many today", x.count(6), 0);
        due.is("it did not yet", x.ship(0, 1), 0);
        due.is("once again", x.sail(0, 1), 16);
        due.is("how often", x.count(7), 3);
    }

    /** A refused SAIL is none: the ship may SAIL by another on that DAY. */
    private static void refusedIsNotSailed() {
        FourLodgers x = Due.sea("f0f0f0l1;00;01");
        due.is("out of the square", x.sail(0, 0), STATE);
        due.is("into a rock", x.sail(0, 1), STATE);
        due.is("by one who is ill", x.sail(0, 3), STATE);
        due.is("by one not hired", x.sail(0, 4), STATE);
        due.is("by none such", x.sail(0, 5), UNKNOWN);
        due.is("it did not sail", x.ship(0, 1), 0);
        due.is("nor did any", x.count(6), 0);
        due.is("so it may", x.ship(0, 2), 4);
        due.is("and does", x.sail(0, 2), 6);
    }

    /** "by one who is UP then": on the last DAY of an illness he is not, on the next he is. */
    private static void onlyByOneWhoIsUp() {
        for (int by = 0; by <= 3; by++) {
            FourLodgers x = Due.sea("l2l2l2l2;22,22,22;55");
            int to = beside(14, by);
            due.is("ill, by " + by, x.sail(0, by), STATE);
            x.day();
            due.is("ill for the last day, by " + by, x.sail(0, by), STATE);
            due.is("by none", x.ship(0, 2), 0);
            x.day();
            due.is("well, by " + by, x.sail(0, by), to);
            x.ail(by, 1);
            due.is("ill again, by " + by, x.sail(1, by), STATE);
            x.ail(by, 0);
            due.is("with the brick, by " + by, x.sail(1, by), to);
            x.let(by, 2);
            due.is("a sailor, on day 2, by " + by, x.sail(2, by), to);
            x.day();
            due.is("a sailor, on day 3, by " + by, x.sail(2, by), STATE);
        }
    }

    /** "The FIFTH (4) is UP, if she is hired, when the DAY by 7 leaves 3". */
    private static void theFifthOnHerDays() {
        FourLodgers x = Due.sea("l9l9l9l9;00;55");
        for (int day = 0; day <= 24; day++) {
            due.is("not hired, on day " + day, x.ship(0, 2) >> 4, 0);
            x.hire();
            due.is("hired, on day " + day, x.ship(0, 2) >> 4, day == 3 || day == 10 || day == 17 || day == 24 ? 1 : 0);
            x.hire();
            x.day();
        }
        int[] before = {2, 4, 9, 11};
        for (int day : before) {
            FourLodgers y = Due.sea("l9l9l9l9;00;55", day);
            y.hire();
            due.is("sail by her on day " + day, y.sail(0, 4), STATE);
        }
        int[] hers = {3, 10};
        for (int day : hers) {
            FourLodgers y = Due.sea("l9l9l9l9;00;55", day);
            due.is("sail by her, not hired, on day " + day, y.sail(0, 4), STATE);
            y.hire();
            due.is("sail by her on day " + day, y.sail(0, 4), 8);
        }
    }

    /** "UNKNOWN: ship, by (0 to 4)": of one to three ships. */
    private static void sailNumbers() {
        String[] ships = {"", "22", "22,22", "22,22,22"};
        int[] numbers = {Integer.MIN_VALUE, -32, -1, 0, 1, 2, 3, 4, 32, Integer.MAX_VALUE};
        int[] bys = {Integer.MIN_VALUE, -32, -1, 0, 1, 2, 3, 4, 5, 6, 32, Integer.MAX_VALUE};
        for (int n = 0; n <= 3; n++) {
            for (int ship : numbers) {
                for (int by : bys) {
                    FourLodgers x = n == 0 ? new FourLodgers() : Due.sea("f0f0f0f0;" + ships[n] + ";55", 3);
                    x.hire();
                    boolean known = ship >= 0 && ship < n && by >= 0 && by <= 4;
                    due.is(n + " ships: sail(" + ship + ", " + by + ")", x.sail(ship, by), known ? beside(14, by) : UNKNOWN);
                    due.is(n + " ships: how often behind it", x.count(7), known ? 1 : 0);
                }
            }
        }
    }

    /** "FULL: it was so 999 times": no object is used for so many calls, and the limit stands all the same. */
    private static void sailedTimes() {
        FourLodgers x = Due.sea("f0f0f0f0;00,20,40;55");
        for (int n = 1; n <= 999; n++) {
            int ship = (n - 1) % 3;
            if (n > 1 && ship == 0) {
                x.day();
            }
            boolean east = x.ship(ship, 0) % 6 == 0;
            due.is("sail number " + n, x.sail(ship, east ? 1 : 3), 12 * ship + (east ? 1 : 0));
        }
        x.image();
        x.day();
        long full = x.digest();
        due.is("number 1000", x.sail(1, 3), FULL);
        due.is("number 1000, out of the square", x.sail(0, 0), STATE);
        due.is("number 1000, by none such", x.sail(0, 5), UNKNOWN);
        due.is("nothing is changed", x.digest(), full);
        due.is("restore()", x.restore(), 332);
        due.is("how often, in the IMAGE", x.count(7), 999);
    }

    /** "It is the next DAY: which", "FULL: it would be DAY 1000": beyond the calls of an object, too. */
    private static void dayAfterDay() {
        due.is("day(), no SEA", new FourLodgers().day(), STATE);
        FourLodgers x = Due.sea("l9p0s0g0;22;55");
        for (int day = 1; day <= 999; day++) {
            due.is("day " + day, x.day(), day);
        }
        x.sail(0, 0);
        long last = x.digest();
        due.is("day 1000", x.day(), FULL);
        due.is("nothing is changed", x.digest(), last);
        due.is("it sailed today", x.ship(0, 1), 1);
        due.is("DAY", x.count(2), 999);
    }

    /** "A LODGER falls ILL for so many DAYS, today with it (0: he has the brick, and is well)", "days (0 to 40)". */
    private static void illFor0To40() {
        int[] all = {Integer.MIN_VALUE, -1, 0, 1, 2, 39, 40, 41, Integer.MAX_VALUE};
        for (int days : all) {
            FourLodgers x = Due.sea("l3l0l0l0;22;55", 1);
            boolean inside = days >= 0 && days <= 40;
            due.is("ail(0, " + days + ")", x.ail(0, days), inside ? 2 : OUTSIDE);
            int left = inside ? days : 2;
            for (int more = left; more >= 0; more--) {
                due.is("behind ail(0, " + days + "), days more", x.lodger(0, 1), more);
                due.is("behind ail(0, " + days + "), up", x.lodger(0, 2), more == 0 ? 1 : 0);
                x.day();
            }
            due.is("behind ail(0, " + days + "), long well", x.lodger(0, 1), 0);
        }
        int[] lodgers = {Integer.MIN_VALUE, -1, 0, 3, 4, 32, Integer.MAX_VALUE};
        for (int lodger : lodgers) {
            boolean known = lodger >= 0 && lodger <= 3;
            FourLodgers x = Due.sea("l0l0l0l0;22;55");
            due.is("ail(" + lodger + ", 41)", x.ail(lodger, 41), known ? OUTSIDE : UNKNOWN);
            due.is("ail(" + lodger + ", 40)", x.ail(lodger, 40), known ? 0 : UNKNOWN);
            due.is("how many are ill", x.count(5), known ? 1 : 0);
            due.is("no SEA: ail(" + lodger + ", 40)", new FourLodgers().ail(lodger, 40), UNKNOWN);
        }
    }

    /** "for how many he was": on the last DAY 1, then 0, and never less; what he is then does not add to it. */
    private static void illAgain() {
        FourLodgers x = Due.sea("l2l2l2f2;22;55");
        due.is("on day 0", x.ail(0, 2), 2);
        x.day();
        due.is("on the last day", x.ail(1, 2), 1);
        due.is("it is not added", x.lodger(1, 1), 2);
        x.day();
        due.is("when he is well", x.ail(2, 1), 0);
        due.is("shorter than he was", x.ail(1, 0), 1);
        due.is("so he is well", x.lodger(1, 2), 1);
        Due.pass(x, 5);
        due.is("long well", x.ail(0, 3), 0);
        due.is("from today on", x.lodger(0, 1), 3);
        due.is("a family, too", x.ail(3, 40), 0);
        due.is("is ill", x.lodger(3, 1), 40);
        due.is("and up", x.lodger(3, 2), 1);
    }

    /** "A LODGER leaves, another one has the room (ILL as he was)", "kind (0 to 4)". */
    private static void letToEachKind() {
        int[] kinds = {Integer.MIN_VALUE, -1, 0, 1, 2, 3, 4, 5, 32, Integer.MAX_VALUE};
        int[] lodgers = {Integer.MIN_VALUE, -1, 0, 3, 4, 32, Integer.MAX_VALUE};
        for (int kind : kinds) {
            for (int lodger : lodgers) {
                FourLodgers x = Due.sea("p3p3p3p3;22;55", 1);
                boolean known = lodger >= 0 && lodger <= 3;
                boolean inside = kind >= 0 && kind <= 4;
                String call = "let(" + lodger + ", " + kind + ")";
                due.is(call, x.let(lodger, kind), !known ? UNKNOWN : inside ? 1 : OUTSIDE);
                for (int each = 0; each <= 3; each++) {
                    due.is(call + ", kind of " + each, x.lodger(each, 0), known && inside && each == lodger ? kind : 1);
                    due.is(call + ", ill of " + each, x.lodger(each, 1), 2);
                }
                due.is("no SEA: " + call, new FourLodgers().let(lodger, kind), UNKNOWN);
            }
        }
        FourLodgers same = Due.sea("g3p3p3p3;22;55");
        due.is("to one of the same kind", same.let(0, 4), 4);
        due.is("to another, and back", same.let(0, 0) + same.let(0, 4), 4);
    }

    /** "The FIFTH is hired, or is not any more: 1 she is, 0". */
    private static void hiredAndNot() {
        FourLodgers none = new FourLodgers();
        due.is("hire(), no SEA", none.hire(), STATE);
        due.is("not hired", none.count(3), 0);
        Due.write(none, "l9l9l9l9;00;55");
        none.sea();
        due.is("nor by the SEA", none.count(3), 0);
        for (int n = 1; n <= 5; n++) {
            due.is("hire() number " + n, none.hire(), n % 2);
            due.is("hired by it", none.count(3), n % 2);
            none.day();
            due.is("the day after", none.count(3), n % 2);
        }
    }
}
