/** Promises 15 to 20: what would be. */
public final class WouldBeTest {
    private static final int NONE = -1, UNKNOWN = -101, OUTSIDE = -102;
    private static final Due due = new Due("WouldBeTest");

    public static void main(String[] args) {
        cans();
        soons();
        waits();
        theFarthest();
        meets();
        neededOnes();
        bricks();
        asides();
        nothingIsDone();
        due.end();
    }

    private static void way(FourLodgers x, int ship, int cell, int days, int... by) {
        String where = "soon(" + ship + ", " + cell + ", ";
        due.is(where + "0)", x.soon(ship, cell, 0), days);
        for (int i = 0; i < 8; i++) {
            due.is(where + (10 + i) + ")", x.soon(ship, cell, 10 + i), i < by.length ? by[i] : NONE);
        }
    }

    private static void cans() {
        FourLodgers x = Due.sea("l0l0l0l0;22,00;55");
        for (int cell = 0; cell < 36; cell++) {
            int far = Math.abs(cell / 6 - 2) + Math.abs(cell % 6 - 2);
            for (int day = 0; day < 7; day++) {
                due.is("can(0, " + cell + ", " + day + ")", x.can(0, cell, day), cell < 35 && far <= day + 1 ? 1 : 0);
            }
        }
        due.is("a rock", x.can(0, 35, 40), 0);
        x.sail(0, 0);
        due.is("it sailed, and stays", x.can(0, 8, 0), 1);
        due.is("it sailed, and cannot", x.can(0, 2, 0), 0);
        due.is("but tomorrow", x.can(0, 2, 1), 1);
        due.is("another did not", x.can(1, 1, 0), 1);
        due.is("ship 2", x.can(2, 0, 0), UNKNOWN);
        due.is("ship -1, day 41", x.can(-1, 0, 41), UNKNOWN);
        due.is("cell 36", x.can(0, 36, 0), UNKNOWN);
        due.is("cell -1", x.can(0, -1, 41), UNKNOWN);
        due.is("day 41", x.can(0, 0, 41), OUTSIDE);
        due.is("day -1", x.can(0, 0, -1), OUTSIDE);
        FourLodgers y = Due.sea("l9l9l9l9;00;55");
        y.hire();
        due.is("by the fifth, too early", y.can(0, 8, 2), 0);
        due.is("by the fifth", y.can(0, 8, 3), 1);
        y.hire();
        due.is("without her", y.can(0, 8, 3), 0);
    }

    private static void soons() {
        FourLodgers x = Due.sea("l0l0l0l0;00,22;55");
        way(x, 0, 0, 0);
        way(x, 0, 1, 1, 1);
        way(x, 0, 8, 3, 1, 1, 2);
        way(x, 0, 34, 9, 1, 1, 1, 1, 2, 2, 2, 2);
        way(x, 0, 35, NONE);
        way(x, 1, 0, 4, 0, 0, 3, 3);
        FourLodgers round = Due.sea("l0l0l0l0;00;01");
        way(round, 0, 2, 4, 2, 1, 1, 0);
        FourLodgers shut = Due.sea("l0l0l0l0;00;01,10");
        way(shut, 0, 2, NONE);
        shut.hire();
        way(shut, 0, 2, 5, 5, 5, 5, 4, 0);
        FourLodgers pocket = Due.sea("l0l0l0l0;00;01,11,20");
        way(pocket, 0, 14, NONE);
        pocket.hire();
        way(pocket, 0, 14, 4, 2, 0, 2, 4);
        FourLodgers x2 = Due.sea("l0l0l0l0;00,22;55");
        due.is("what 9", x2.soon(0, 1, 9), OUTSIDE);
        due.is("what 18", x2.soon(0, 1, 18), OUTSIDE);
        due.is("what 1", x2.soon(0, 1, 1), OUTSIDE);
        due.is("what -1", x2.soon(0, 1, -1), OUTSIDE);
        due.is("what 9, to a rock", x2.soon(0, 35, 9), OUTSIDE);
        due.is("ship 2", x2.soon(2, 1, 9), UNKNOWN);
        due.is("ship -1", x2.soon(-1, 1, 0), UNKNOWN);
        due.is("cell 36", x2.soon(0, 36, 9), UNKNOWN);
        due.is("cell -1", x2.soon(0, -1, 0), UNKNOWN);
    }

    private static void waits() {
        FourLodgers poets = Due.sea("p0p0p0p0;22;55");
        way(poets, 0, 8, 2, 5, 0);
        way(poets, 0, 2, 4, 5, 0, 5, 0);
        FourLodgers x = Due.sea("l0l0l0l0;22;55");
        x.sail(0, 0);
        way(x, 0, 8, 0);
        way(x, 0, 2, 2, 5, 0);
        x.day();
        way(x, 0, 2, 1, 0);
        FourLodgers ill = Due.sea("l0l4l0l0;00;55");
        // 1 is not up till day 4, and sailing to and fro comes ahead of staying
        way(ill, 0, 7, 5, 2, 0, 2, 5, 1);
        way(ill, 0, 14, 6, 2, 0, 2, 2, 1, 1);
    }

    private static void theFarthest() {
        FourLodgers x = Due.sea("l0l0l0l0;00,01,03;55");
        for (int lodger = 0; lodger < 4; lodger++) {
            x.ail(lodger, 40);
        }
        way(x, 0, 1, 41, 5, 5, 5, 5, 5, 5, 5, 5);
        way(x, 0, 2, NONE);
        due.is("can on day 39", x.can(0, 1, 39), 0);
        due.is("can on day 40", x.can(0, 1, 40), 1);
        due.is("meet in 41", x.meet(0, 1), 41);
        due.is("meet between", x.meet(1, 2), 41);
        due.is("never meet", x.meet(0, 2), NONE);
        x.day();
        due.is("meet, the day after", x.meet(0, 1), 40);
        due.is("meet, the day after", x.meet(0, 2), 41);
    }

    private static void meets() {
        FourLodgers x = Due.sea("l0l0l0l0;00,00,33;55");
        due.is("in one cell", x.meet(0, 1), 0);
        due.is("apart", x.meet(0, 2), 3);
        due.is("apart, told otherwise", x.meet(2, 0), 3);
        x.sail(2, 0);
        due.is("one sailed", x.meet(0, 2), 3);
        x.sail(0, 2);
        due.is("both sailed", x.meet(0, 2), 3);
        x.day();
        due.is("the day after", x.meet(0, 2), 2);
        due.is("the same", x.meet(1, 1), UNKNOWN);
        due.is("ship 3", x.meet(3, 0), UNKNOWN);
        due.is("ship -1", x.meet(0, -1), UNKNOWN);
        due.is("ships 3", x.meet(3, 3), UNKNOWN);
        FourLodgers y = Due.sea("l0l9l9l9;50,10;55");
        due.is("by the north alone", y.meet(0, 1), 4);
        FourLodgers shut = Due.sea("l0l0l0l0;00,22;01,10");
        due.is("behind rocks", shut.meet(0, 1), NONE);
    }

    private static void neededOnes() {
        FourLodgers x = Due.sea("l0l0l0l0;00,22;55");
        due.is("there", x.needed(0, 0), 0);
        due.is("east", x.needed(0, 1), 1);
        due.is("south", x.needed(0, 6), 2);
        due.is("west", x.needed(1, 13), 3);
        due.is("both, the less", x.needed(0, 7), 1);
        due.is("never, whoever is ill", x.needed(0, 35), 0);
        // ill for 6 days the poet alone, for 8 days the poet again would be waited for longer than the north
        FourLodgers seven = Due.sea("l0p0l0l0;10;55");
        due.is("7 days", seven.needed(0, 1), 0);
        FourLodgers longer = Due.sea("l9l0l0l0;10;55");
        due.is("not less than he is", longer.needed(0, 0), 0);
        FourLodgers family = Due.sea("l0f0l0l0;00;55");
        due.is("a family is up", family.needed(0, 7), 2);
        // of a ghost ill on days 0 to 6, days 0 and 4 are left
        FourLodgers ghost = Due.sea("l0g0l0l0;00;55");
        due.is("a ghost is up at times", ghost.needed(0, 8), 2);
        due.is("a ghost, two to the east", ghost.needed(0, 2), 1);
        // ill till day 8: then the south is up at once, and the poet a day later
        FourLodgers later = Due.sea("l0p0l0l0;00;55", 1);
        due.is("from today on", later.needed(0, 7), 1);
        FourLodgers far = Due.sea("l0l0l0l0;00;55");
        for (int lodger = 0; lodger < 4; lodger++) {
            far.ail(lodger, 36);
        }
        due.is("never, whoever is ill longer", far.needed(0, 34), 0);
        due.is("ship 1", far.needed(1, 0), UNKNOWN);
        due.is("ship -1", far.needed(-1, 0), UNKNOWN);
        due.is("cell 36", far.needed(0, 36), UNKNOWN);
        due.is("cell -1", far.needed(0, -1), UNKNOWN);
        noneIsGreatest();
    }

    /** Five rows south by the fifth alone, on the last five Thursdays there are: without the west the first is missed. */
    private static void noneIsGreatest() {
        FourLodgers x = Due.sea("l0p0p0l0;04;55", 4);
        x.ail(1, 40);
        x.ail(2, 40);
        x.hire();
        due.is("soon, by Thursdays", x.soon(0, 32, 0), 35);
        due.is("none is greatest", x.needed(0, 32), 3);
        x.ail(3, 7);
        due.is("soon, a Thursday missed", x.soon(0, 32, 0), NONE);
    }

    private static void bricks() {
        FourLodgers x = Due.sea("l9l5l5l0;10,00;55");
        due.is("north", x.brick(0, 0), 0);
        due.is("there", x.brick(1, 0), NONE);
        due.is("to a rock", x.brick(0, 35), NONE);
        due.is("a day less by either", x.brick(1, 7), 1);
        x.ail(2, 6);
        due.is("a day less by the one who is ill longer", x.brick(1, 7), 2);
        due.is("one who is well", x.brick(0, 7), 1);
        FourLodgers never = Due.sea("l0l0l0l0;20;55");
        never.ail(0, 40);
        due.is("never, without", never.soon(0, 0, 0), NONE);
        due.is("so by the brick", never.brick(0, 0), 0);
        FourLodgers poet = Due.sea("p9l0l0l0;20;55", 2);
        due.is("a poet", poet.brick(0, 8), 0);
        FourLodgers family = Due.sea("f9l0l0l0;20;55");
        due.is("a family needs none", family.brick(0, 0), NONE);
        FourLodgers like = Due.sea("l2l2l2l0;11,33;55");
        due.is("of like ones the least", like.brick(0, 2), 0);
        due.is("ship 2", like.brick(2, 0), UNKNOWN);
        due.is("ship -1", like.brick(-1, 0), UNKNOWN);
        due.is("cell 36", like.brick(0, 36), UNKNOWN);
        due.is("cell -1", like.brick(0, -1), UNKNOWN);
    }

    private static void asides() {
        FourLodgers x = Due.sea("l0l0l0l0;00,50;55");
        due.is("before she is up", x.aside(0, 2), 0);
        due.is("on her day", x.aside(0, 3), 7);
        due.is("where all is reached", x.aside(0, 10), 0);
        // a row south is a row back there, so she leads no farther than a column east would
        due.is("from the south", x.aside(1, 3), 0);
        x.hire();
        due.is("hired", x.aside(0, 3), 7);
        due.is("still hired", x.count(3), 1);
        FourLodgers ill = Due.sea("l0l0l0l0;00;55");
        for (int lodger = 0; lodger < 4; lodger++) {
            ill.ail(lodger, 40);
        }
        due.is("she alone", ill.aside(0, 9), 1);
        due.is("twice", ill.aside(0, 10), 2);
        due.is("no more, since she would be outside", ill.aside(0, 20), 2);
        due.is("day 21", ill.aside(0, 21), OUTSIDE);
        due.is("day -1", ill.aside(0, -1), OUTSIDE);
        due.is("ship 1", ill.aside(1, 21), UNKNOWN);
        due.is("ship -1", ill.aside(-1, 0), UNKNOWN);
        Due.pass(ill, 3);
        due.is("today", ill.aside(0, 0), 1);
        ill.hire();
        ill.sail(0, 4);
        due.is("not today, since it sailed", ill.aside(0, 0), 0);
    }

    private static void nothingIsDone() {
        FourLodgers x = Due.sea("s3p0f5g1;50,23,05;11,14,41,44,22", 3);
        x.sail(1, 2);
        x.see(0, 3, true);
        long before = x.digest();
        x.can(0, 0, 40);
        x.soon(0, 0, 0);
        x.soon(0, 0, 17);
        x.meet(0, 1);
        x.needed(0, 0);
        x.brick(0, 0);
        x.aside(0, 20);
        x.drifts(60, 7, 0);
        due.is("digest()", x.digest(), before);
    }
}
