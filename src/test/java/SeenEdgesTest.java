/** The edges of SEEN, LOOK and DRIFTS in section 3 and of promises 21 to 23: each at the boundary and on both sides of it. */
public final class SeenEdgesTest {
    private static final int NONE = -1, UNKNOWN = -101, OUTSIDE = -102, STATE = -103, FULL = -104;
    /** Who is up on DAYS 0 to 11, by KIND, and so on from there; well and ill. */
    private static final String[] WELL = {"111111111111", "010101010101", "011011011011", "111111111111", "110111011101"};
    private static final String[] ILL = {"000000000000", "000000000000", "000000000000", "111111111111", "100010001000"};
    private static final Due due = new Due("SeenEdgesTest");

    public static void main(String[] args) {
        sixAtMost();
        daysFrom0To20();
        illAsHeIs();
        onlyOfHim();
        fromTheDayWhenAsked();
        whatIsSeenOutlasts();
        lookUpToDay20();
        lookOfLikeOnes();
        lookFewestAtWorst();
        lookNone();
        forgetAll();
        driftNumbers();
        driftSeeds();
        driftsAsTheyWouldBe();
        driftsAsIfNoneSailed();
        driftsOfWhoIsUp();
        due.end();
    }

    private static int kindsUp(int day, int illUntil) {
        int bits = 0;
        for (int kind = 0; kind < 5; kind++) {
            String[] days = day < illUntil ? ILL : WELL;
            bits |= (days[kind].charAt(day % 12) - '0') << kind;
        }
        return bits;
    }

    /** "SEEN (6 at most)": of all LODGERS together, and six again when all is forgotten. */
    private static void sixAtMost() {
        FourLodgers x = Due.sea("l0l0l0l0;22;55");
        for (int round = 0; round < 2; round++) {
            for (int n = 1; n <= 6; n++) {
                due.is("see number " + n, x.see(n % 4, n, true), n);
                due.is("how much is seen", x.count(8), n);
            }
            long full = x.digest();
            for (int lodger = 0; lodger < 4; lodger++) {
                due.is("see number 7, of " + lodger, x.see(lodger, 0, false), FULL);
                due.is("see number 7, seen already", x.see(lodger, lodger == 0 ? 4 : lodger, true), FULL);
            }
            due.is("nothing is changed", x.digest(), full);
            due.is("forget()", x.forget(), 6);
        }
        FourLodgers one = Due.sea("l0l0l0l0;22;55");
        for (int n = 1; n <= 6; n++) {
            due.is("see the same, number " + n, one.see(2, 20, true), n);
        }
        due.is("see the same, number 7", one.see(2, 20, true), FULL);
    }

    /** "on a DAY from now (0 today, to 20)": each DAY, up or not, and the DAYS beside them. */
    private static void daysFrom0To20() {
        for (int day = -2; day <= 22; day++) {
            boolean inside = day >= 0 && day <= 20;
            FourLodgers up = Due.sea("l0l0l0l0;22;55");
            due.is("see(0, " + day + ", true)", up.see(0, day, true), inside ? 1 : OUTSIDE);
            due.is("kinds then", up.lodger(0, 3), inside ? kindsUp(day, 0) : 31);
            FourLodgers not = Due.sea("l0l0l0l0;22;55");
            due.is("see(0, " + day + ", false)", not.see(0, day, false), inside ? 1 : OUTSIDE);
            due.is("kinds then", not.lodger(0, 3), inside ? 31 - kindsUp(day, 0) : 31);
            due.is("how much is seen", not.count(8), inside ? 1 : 0);
        }
        int[] lodgers = {Integer.MIN_VALUE, -1, 0, 3, 4, 32, Integer.MAX_VALUE};
        int[] days = {Integer.MIN_VALUE, -1, 0, 20, 21, Integer.MAX_VALUE};
        for (int lodger : lodgers) {
            for (int day : days) {
                boolean known = lodger == 0 || lodger == 3;
                int want = !known ? UNKNOWN : day == 0 || day == 20 ? 1 : OUTSIDE;
                due.is("see(" + lodger + ", " + day + ")", Due.sea("l0l0l0l0;22;55").see(lodger, day, true), want);
                due.is("no SEA: see(" + lodger + ", " + day + ")", new FourLodgers().see(lodger, day, true), UNKNOWN);
            }
        }
    }

    /** "KINDS he can be of, ILL as he is": on the last DAY of his illness, and on the next. */
    private static void illAsHeIs() {
        int[] ills = {0, 1, 4, 5, 8, 9};
        for (int ill : ills) {
            for (int day = Math.max(0, ill - 2); day <= ill + 2; day++) {
                FourLodgers x = Due.sea("f" + ill + "l0l0l0;22;55");
                x.see(0, day, true);
                due.is("ill for " + ill + ", up on day " + day, x.lodger(0, 3), kindsUp(day, ill));
                x.ail(0, day);
                due.is("ill for " + day + " now", x.lodger(0, 3), kindsUp(day, day));
                x.ail(0, day + 1);
                due.is("ill for " + (day + 1) + " now", x.lodger(0, 3), kindsUp(day, day + 1));
            }
        }
    }

    /** What is SEEN of one tells nothing of another, and not of which KIND he is. */
    private static void onlyOfHim() {
        FourLodgers x = Due.sea("l0p0s0f0;22;55");
        x.see(1, 2, true);
        int[] want = {31, kindsUp(2, 0), 31, 31};
        for (int lodger = 0; lodger < 4; lodger++) {
            due.is("kinds of " + lodger, x.lodger(lodger, 3), want[lodger]);
            due.is("kind of " + lodger, x.lodger(lodger, 0), lodger);
        }
        x.see(1, 3, false);
        due.is("both are so", x.lodger(1, 3), kindsUp(2, 0) & ~kindsUp(3, 0));
        x.see(1, 4, true);
        due.is("all three are so", x.lodger(1, 3), 4);
    }

    /** "counted from the DAY that it is when asked": each day() moves what was SEEN, and KINDS and LOOK with it. */
    private static void fromTheDayWhenAsked() {
        for (int fromNow = 0; fromNow <= 20; fromNow += 5) {
            FourLodgers x = Due.sea("l9l0l0l0;22;55");
            x.see(0, fromNow, true);
            for (int today = 0; today <= 13; today++) {
                due.is("seen for day " + fromNow + ", asked on day " + today, x.lodger(0, 3), kindsUp(today + fromNow, 9));
                x.day();
            }
        }
    }

    /** let() and ail() leave what is SEEN; another SEA does not. */
    private static void whatIsSeenOutlasts() {
        FourLodgers x = Due.sea("l0l0l0l0;22;55");
        x.see(0, 2, true);
        x.let(0, 1);
        due.is("another has the room", x.count(8), 1);
        due.is("and the kinds are as they were", x.lodger(0, 3), kindsUp(2, 0));
        x.ail(0, 40);
        due.is("he is ill", x.count(8), 1);
        Due.write(x, "l0l0l0l0;22;55");
        x.sea();
        due.is("another sea", x.count(8), 0);
        due.is("kinds there", x.lodger(0, 3), 31);
    }

    /** "LOOK .. on which DAY from now (0 to 20)": the first DAY that tells is 20, and then it is 21. */
    private static void lookUpToDay20() {
        FourLodgers x = Due.sea("l0l0l0l0;22;55");
        x.ail(0, 40);
        x.see(0, 3, false);
        x.see(0, 0, false);
        due.is("those that stay in bed", x.lodger(0, 3), 1 + 2 + 4);
        // all three are up on DAY 19, and the poet is not on DAY 20
        int[] ills = {18, 19, 20, 21, 22};
        int[] want = {18, 20, 20, 0, 0};
        for (int i = 0; i < ills.length; i++) {
            x.ail(0, ills[i]);
            due.is("ill for " + ills[i], x.lodger(0, 4), want[i]);
        }
        x.ail(0, 22);
        x.day();
        due.is("ill for 21, on day 1", x.lodger(0, 4), 0);
        x.day();
        // DAY 22 is 20 from now, and the poet is not up then
        due.is("ill for 20, on day 2", x.lodger(0, 4), 20);
    }

    /** "of like ones the least". */
    private static void lookOfLikeOnes() {
        FourLodgers x = Due.sea("f0l0l0l0;22;55");
        // three are up on DAYS 0 and 2, and two on DAY 6; on those between four or all are
        int[] want = {0, 1, 0, 3, 2, 1, 0};
        for (int day = 0; day < want.length; day++) {
            due.is("nothing is seen, on day " + day, x.lodger(0, 4), want[day]);
            x.day();
        }
        FourLodgers one = Due.sea("l0l0l0l0;22;55");
        one.see(0, 3, false);
        due.is("a sailor alone", one.lodger(0, 3), 4);
        due.is("any day is as good", one.lodger(0, 4), 0);
    }

    /** "so that fewest of these are left at worst, by whether he is UP". */
    private static void lookFewestAtWorst() {
        FourLodgers x = Due.sea("l0l0l0l0;22;55");
        x.see(0, 0, true);
        due.is("plain, family, ghost", x.lodger(0, 3), 1 + 8 + 16);
        due.is("the ghost is in bed on day 2", x.lodger(0, 4), 2);
        x.see(0, 2, true);
        due.is("plain, family", x.lodger(0, 3), 1 + 8);
        due.is("no day tells them apart", x.lodger(0, 4), 0);
        x.ail(0, 5);
        due.is("but when he is ill, by both he is a family", x.lodger(0, 3), 8);
        FourLodgers y = Due.sea("l0l0l0l0;22;55");
        y.ail(0, 1);
        y.see(0, 1, true);
        due.is("all", y.lodger(0, 3), 31);
        due.is("on day 0 three are in bed", y.lodger(0, 4), 0);
    }

    /** "none, if there are none". */
    private static void lookNone() {
        FourLodgers x = Due.sea("l0l0l0l0;22;55");
        x.see(0, 0, true);
        due.is("one thing seen", x.lodger(0, 4), 2);
        x.see(0, 0, false);
        due.is("and its contrary: kinds", x.lodger(0, 3), 0);
        due.is("and its contrary: look", x.lodger(0, 4), NONE);
        due.is("of another", x.lodger(1, 4), 0);
        FourLodgers y = Due.sea("l0l0l0l0;22;55");
        y.see(0, 1, false);
        due.is("all are up on day 1: kinds", y.lodger(0, 3), 0);
        due.is("all are up on day 1: look", y.lodger(0, 4), NONE);
        y.day();
        due.is("asked on day 1: kinds", y.lodger(0, 3), 31 - kindsUp(2, 0));
        due.is("asked on day 1: look, for a ghost on day 4", y.lodger(0, 4), 3);
    }

    /** "Nothing is SEEN any more: how much was": from none to six, and without a SEA. */
    private static void forgetAll() {
        due.is("no SEA", new FourLodgers().forget(), 0);
        for (int n = 0; n <= 6; n++) {
            FourLodgers x = Due.sea("l0l0l0l0;22;55");
            for (int i = 0; i < n; i++) {
                x.see(i % 4, 0, i < 4);
            }
            due.is("forget() of " + n, x.forget(), n);
            due.is("forget() again", x.forget(), 0);
            due.is("how much is seen", x.count(8), 0);
            due.is("kinds", x.lodger(0, 3), 31);
            due.is("look", x.lodger(0, 4), 0);
            due.is("the first again", x.see(0, 0, true), 1);
            due.is("kinds by it alone", x.lodger(0, 3), kindsUp(0, 0));
        }
    }

    /** "OUTSIDE: days (1 to 60), seed (0 at least), what; STATE: no SEA". */
    private static void driftNumbers() {
        int[] days = {Integer.MIN_VALUE, -1, 0, 1, 60, 61, Integer.MAX_VALUE};
        int[] seeds = {Integer.MIN_VALUE, -1, 0, 1, Integer.MAX_VALUE};
        int[] whats = {Integer.MIN_VALUE, -1, 0, 1, 2, 3, Integer.MAX_VALUE};
        for (int day : days) {
            for (int seed : seeds) {
                FourLodgers x = Due.sea("l0l0l0l0;00;01,10");
                for (int what : whats) {
                    boolean inside = (day == 1 || day == 60) && seed >= 0 && what >= 0 && what <= 2;
                    // between its rocks the ship stays where it is
                    long told = inside && what == 2 ? seedAfter(seed, day) : 0;
                    String call = "drifts(" + day + ", " + seed + ", " + what + ")";
                    due.is(call, x.drifts(day, seed, what), inside ? told : OUTSIDE);
                    due.is("no SEA: " + call, new FourLodgers().drifts(day, seed, what), inside ? STATE : OUTSIDE);
                }
            }
        }
    }

    private static long seedAfter(long seed, int draws) {
        long last = seed;
        for (int i = 0; i < draws; i++) {
            last = Math.floorMod(1103515245L * last + 12345L, 2147483648L);
        }
        return last;
    }

    /** "1103515245 times it and 12345, its rest by 2 to the 31": a draw for each ship on each DAY. */
    private static void driftSeeds() {
        String[] ships = {"", "22", "22,33", "22,33,44"};
        int[] seeds = {0, 1, 2, 65535, 65536, 1073741824, Integer.MAX_VALUE - 1, Integer.MAX_VALUE};
        for (int n = 1; n <= 3; n++) {
            FourLodgers x = Due.sea("l9p9s9g9;" + ships[n] + ";55");
            for (int seed : seeds) {
                for (int days : new int[] {1, 2, 59, 60}) {
                    String call = n + " ships: drifts(" + days + ", " + seed + ", 2)";
                    due.is(call, x.drifts(days, seed, 2), seedAfter(seed, days * n));
                }
            }
        }
        FourLodgers one = Due.sea("l9p9s9g9;22;55");
        due.is("from 0", one.drifts(1, 0, 2), 12345);
        due.is("from 1", one.drifts(1, 1, 2), 1103527590);
        due.is("from 2, beyond 2 to the 31", one.drifts(1, 2, 2), 59559187);
    }

    /** The same draws made by sail() and day(), a refused one left out. */
    private static void driftsAsTheyWouldBe() {
        String[] texts = {"s3p0f5g1;50,23,05;11,14,41,44,22", "l0l0l0l0;22,22;55", "g0g9p0s0;55;00", "f0f0f0f0;00,05,50;22"};
        int[] lengths = {1, 2, 7, 8, 28, 59, 60};
        for (String text : texts) {
            for (int days : lengths) {
                FourLodgers x = Due.sea(text, 2);
                x.hire();
                int seed = 77 * days;
                int often = x.drifts(days, seed, 0);
                int cell = x.drifts(days, seed, 1);
                int last = x.drifts(days, seed, 2);
                due.is(text + " is as it was", x.count(2) * 10 + x.count(7), 20);
                long now = seed;
                for (int day = 0; day < days; day++) {
                    for (int ship = 0; ship < x.count(0); ship++) {
                        now = seedAfter(now, 1);
                        x.sail(ship, (int) (now / 65536 % 5));
                    }
                    x.day();
                }
                due.is(text + " how often in " + days, often, x.count(7));
                due.is(text + " where in " + days, cell, x.ship(0, 0));
                due.is(text + " the seed in " + days, last, now);
            }
        }
    }

    /** "(as if none SAILED yet)": on the first DAY, too; how often does not count what was. */
    private static void driftsAsIfNoneSailed() {
        FourLodgers x = Due.sea("f0f0f0f0;22,33;55");
        // draws from 0: north, then west
        due.is("before", x.drifts(1, 0, 0), 2);
        due.is("before, where", x.drifts(1, 0, 1), 8);
        x.sail(0, 1);
        due.is("one sailed", x.drifts(1, 0, 0), 2);
        due.is("one sailed, where", x.drifts(1, 0, 1), 9);
        x.sail(1, 1);
        due.is("both sailed", x.drifts(1, 0, 0), 2);
        due.is("they sailed still", x.count(6), 2);
        due.is("so often still", x.count(7), 2);
        due.is("not again", x.sail(0, 0), STATE);
    }

    /** "SAILS by a DRAW of 5, if that one is UP, and it may": today's DAY is the first. */
    private static void driftsOfWhoIsUp() {
        for (int by = 0; by <= 4; by++) {
            int seed = 0;
            while (seedAfter(seed, 1) / 65536 % 5 != by) {
                seed++;
            }
            int[] to = {8, 15, 20, 13, 22};
            FourLodgers x = Due.sea("l2l2l2l2;22;55");
            x.hire();
            due.is("ill, by " + by, x.drifts(1, seed, 0), 0);
            x.day();
            due.is("ill for the last day, by " + by, x.drifts(1, seed, 0), 0);
            Due.pass(x, 2);
            due.is("on day 3, by " + by, x.drifts(1, seed, 0), 1);
            due.is("on day 3, where by " + by, x.drifts(1, seed, 1), to[by]);
            FourLodgers rock = Due.sea("f0f0f0f0;22;" + to[by] / 6 + to[by] % 6, 3);
            rock.hire();
            due.is("into a rock, by " + by, rock.drifts(1, seed, 0), 0);
            due.is("into a rock, where by " + by, rock.drifts(1, seed, 1), 14);
        }
    }
}
