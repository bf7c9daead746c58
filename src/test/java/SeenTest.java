/** Promises 21 to 23: what is seen. */
public final class SeenTest {
    private static final int NONE = -1, UNKNOWN = -101, OUTSIDE = -102, STATE = -103, FULL = -104;
    private static final Due due = new Due("SeenTest");

    public static void main(String[] args) {
        sees();
        seenFromTheDayWhenAsked();
        forgets();
        drifts();
        due.end();
    }

    private static void sees() {
        FourLodgers x = Due.sea("l0l0l0l0;22;55");
        due.is("lodger 4", x.see(4, 0, true), UNKNOWN);
        due.is("lodger -1", x.see(-1, 21, true), UNKNOWN);
        due.is("day 21", x.see(0, 21, true), OUTSIDE);
        due.is("day -1", x.see(0, -1, true), OUTSIDE);
        due.is("nothing yet", x.count(8), 0);
        for (int i = 1; i <= 6; i++) {
            due.is("seen number " + i, x.see(i % 4, 20, true), i);
        }
        due.is("seen number 7", x.see(0, 0, true), FULL);
        due.is("seen number 7, wrong day", x.see(0, 21, true), OUTSIDE);
        due.is("seen number 7, wrong lodger", x.see(4, 0, true), UNKNOWN);
        due.is("how much", x.count(8), 6);
        // on day 20 all are up but the poet
        due.is("kinds", x.lodger(3, 3), 31 - 2);
        FourLodgers y = Due.sea("l0l0l0l0;22;55");
        y.see(0, 3, false);
        due.is("a sailor", y.lodger(0, 3), 4);
        y.see(0, 3, false);
        due.is("seen twice", y.count(8), 2);
        due.is("still a sailor", y.lodger(0, 3), 4);
        due.is("whom he is stays untold", y.lodger(0, 0), 0);
        y.see(2, 2, false);
        due.is("a poet or a ghost", y.lodger(2, 3), 2 + 16);
        // they are told apart by day 0 itself
        due.is("when to look", y.lodger(2, 4), 0);
        y.see(2, 8, true);
        due.is("a ghost", y.lodger(2, 3), 16);
    }

    /** SEEN is told as a DAY from now, "counted from the DAY that it is when asked". */
    private static void seenFromTheDayWhenAsked() {
        FourLodgers x = Due.sea("l0l0l0l0;22;55");
        x.see(0, 0, true);
        due.is("asked on day 0", x.lodger(0, 3), 1 + 8 + 16);
        x.day();
        due.is("asked on day 1", x.lodger(0, 3), 31);
        x.day();
        due.is("asked on day 2", x.lodger(0, 3), 1 + 4 + 8);
        x.ail(0, 1);
        due.is("asked when he is ill", x.lodger(0, 3), 8);
    }

    private static void forgets() {
        FourLodgers x = Due.sea("l0l0l0l0;22;55");
        x.see(0, 0, false);
        x.see(0, 0, true);
        due.is("kinds", x.lodger(0, 3), 0);
        due.is("forget()", x.forget(), 2);
        due.is("forget() again", x.forget(), 0);
        due.is("count(8)", x.count(8), 0);
        due.is("kinds, forgotten", x.lodger(0, 3), 31);
        due.is("see, behind forget()", x.see(0, 0, true), 1);
    }

    private static void drifts() {
        FourLodgers x = Due.sea("f0f0f0f0;33,33;55");
        // seeds from 0: 12345, 1406932606, 654583775, 1449466924; draws by five: 0, 3, 3, 2
        due.is("one day, seed", x.drifts(1, 0, 2), 1406932606);
        due.is("one day, how often", x.drifts(1, 0, 0), 2);
        due.is("one day, north", x.drifts(1, 0, 1), 15);
        due.is("two days, seed", x.drifts(2, 0, 2), 1449466924);
        due.is("two days, how often", x.drifts(2, 0, 0), 4);
        due.is("two days, west", x.drifts(2, 0, 1), 14);
        due.is("nothing is done", x.ship(0, 0), 21);
        due.is("the greatest seed", x.drifts(1, Integer.MAX_VALUE, 2), 288979989);
        x.sail(0, 1);
        due.is("as if none sailed yet", x.drifts(1, 0, 1), 16);
        due.is("as if none sailed yet", x.drifts(1, 0, 0), 2);
        FourLodgers y = Due.sea("p0f0f0p0;33,33;55");
        due.is("poets on day 0", y.drifts(1, 0, 0), 0);
        due.is("by the third draw, on day 1", y.drifts(2, 0, 1), 20);
        FourLodgers corner = Due.sea("f0f0f0f0;00;55");
        due.is("it may not", corner.drifts(1, 0, 0), 0);
        due.is("the draw is made all the same", corner.drifts(1, 0, 2), 12345);
        fifthDrifts();
        due.is("0 days", x.drifts(0, 0, 0), OUTSIDE);
        due.is("61 days", x.drifts(61, 0, 0), OUTSIDE);
        due.is("seed -1", x.drifts(1, -1, 0), OUTSIDE);
        due.is("what 3", x.drifts(1, 0, 3), OUTSIDE);
        due.is("what -1", x.drifts(1, 0, -1), OUTSIDE);
        due.isTrue("60 days", x.drifts(60, 0, 0) >= 0);
        due.is("no sea", new FourLodgers().drifts(1, 0, 0), STATE);
        due.is("no sea, what 3", new FourLodgers().drifts(1, 0, 3), OUTSIDE);
    }

    private static void fifthDrifts() {
        int seed = 0;
        while ((1103515245L * seed + 12345) % 2147483648L / 65536 % 5 != 4) {
            seed++;
        }
        FourLodgers x = Due.sea("f0f0f0f0;00;55", 3);
        due.is("the fifth, not hired", x.drifts(1, seed, 0), 0);
        x.hire();
        due.is("the fifth, hired", x.drifts(1, seed, 1), 8);
        x.day();
        due.is("the fifth, another day", x.drifts(1, seed, 0), 0);
    }
}
