/** The edges of section 2 and of promises 15 to 20: each at the boundary and on both sides of it. */
public final class WouldBeEdgesTest {
    private static final int NONE = -1, UNKNOWN = -101, OUTSIDE = -102;
    private static final int[] SHIPS = {Integer.MIN_VALUE, -1, 0, 1, 2, 3, 32, Integer.MAX_VALUE};
    private static final int[] CELLS = {Integer.MIN_VALUE, -64, -1, 0, 35, 36, 64, Integer.MAX_VALUE};
    private static final Due due = new Due("WouldBeEdgesTest");

    public static void main(String[] args) {
        atTheEndOfADay();
        todayNotIfItSailed();
        orStays();
        canNumbers();
        soonToday();
        soonOnDay40();
        soManiethDays();
        firstByNumbers();
        staysComesLast();
        soonNumbers();
        meetToday();
        meetOnDay40();
        meetOnTheWay();
        meetNumbers();
        neededFor7Days();
        neededNotLess();
        neededOfLikeOnes();
        neededNoneIsGreatest();
        brickOfLikeOnes();
        brickNoneIfNotLess();
        brickFromToday();
        brickNumbers();
        asideOnHerDay();
        asideFrom0To20();
        asideNumbers();
        due.end();
    }

    private static void ailAll(FourLodgers x, int days) {
        for (int lodger = 0; lodger < 4; lodger++) {
            x.ail(lodger, days);
        }
    }

    private static void way(FourLodgers x, int ship, int cell, String by) {
        String where = "soon(" + ship + ", " + cell + ", ";
        due.is(where + "0)", x.soon(ship, cell, 0), by.length());
        for (int i = 0; i < 8; i++) {
            due.is(where + (10 + i) + ")", x.soon(ship, cell, 10 + i), i < by.length() ? by.charAt(i) - '0' : NONE);
        }
    }

    private static void noWay(FourLodgers x, int ship, int cell) {
        due.is("soon(" + ship + ", " + cell + ", 0)", x.soon(ship, cell, 0), NONE);
        for (int what = 10; what <= 17; what++) {
            due.is("soon(" + ship + ", " + cell + ", " + what + ")", x.soon(ship, cell, what), NONE);
        }
    }

    /** "where a ship can be at the end of a DAY (0 today, 1 tomorrow, and so on)". */
    private static void atTheEndOfADay() {
        for (int from : new int[] {0, 5, 30, 35, 14}) {
            FourLodgers x = Due.sea("f0f0f0f0;" + from / 6 + from % 6 + ";" + (from == 14 ? "55" : "22"));
            for (int cell = 0; cell < 36; cell++) {
                // one rock lengthens only a straight way through it, and there is none to it from a corner
                int far = Math.abs(cell / 6 - from / 6) + Math.abs(cell % 6 - from % 6);
                boolean rock = cell == (from == 14 ? 35 : 14);
                for (int day = Math.max(0, far - 2); day <= far; day++) {
                    due.is("from " + from + " can(0, " + cell + ", " + day + ")", x.can(0, cell, day), !rock && far <= day + 1 ? 1 : 0);
                }
            }
        }
    }

    /** "on each DAY from today on (today not, if it SAILED)". */
    private static void todayNotIfItSailed() {
        FourLodgers x = Due.sea("f0f0f0f0;22,22;55");
        due.is("today", x.can(0, 15, 0), 1);
        x.sail(0, 0);
        due.is("it sailed: where it is", x.can(0, 8, 0), 1);
        due.is("it sailed: back, today", x.can(0, 14, 0), 0);
        due.is("it sailed: back, tomorrow", x.can(0, 14, 1), 1);
        due.is("it sailed: two away, tomorrow", x.can(0, 15, 1), 0);
        due.is("it sailed: two away, then", x.can(0, 15, 2), 1);
        due.is("another did not", x.can(1, 15, 0), 1);
        way(x, 0, 14, "52");
        way(x, 1, 15, "1");
        x.day();
        due.is("the day after", x.can(0, 14, 0), 1);
        way(x, 0, 14, "2");
    }

    /** "it SAILS, or stays": it can be where it is on each DAY, whoever is up. */
    private static void orStays() {
        FourLodgers up = Due.sea("f0f0f0f0;22;55");
        FourLodgers ill = Due.sea("l0l0l0l0;22;55");
        ailAll(ill, 40);
        for (int day = 0; day <= 40; day++) {
            due.is("all are up, day " + day, up.can(0, 14, day), 1);
            due.is("none is up, day " + day, ill.can(0, 14, day), 1);
            due.is("all are up, beside, day " + day, up.can(0, 15, day), 1);
            due.is("none is up, beside, day " + day, ill.can(0, 15, day), day == 40 ? 1 : 0);
        }
    }

    /** "UNKNOWN: ship, cell; OUTSIDE: day (0 to 40)". */
    private static void canNumbers() {
        int[] days = {Integer.MIN_VALUE, -1, 0, 1, 39, 40, 41, Integer.MAX_VALUE};
        FourLodgers none = new FourLodgers();
        for (int ship : SHIPS) {
            FourLodgers x = Due.sea("f0f0f0f0;00,00;22");
            for (int cell : CELLS) {
                for (int day : days) {
                    boolean known = (ship == 0 || ship == 1) && (cell == 0 || cell == 35);
                    boolean inside = day >= 0 && day <= 40;
                    int want = !known ? UNKNOWN : !inside ? OUTSIDE : cell == 0 || day >= 39 ? 1 : 0;
                    due.is("can(" + ship + ", " + cell + ", " + day + ")", x.can(ship, cell, day), want);
                }
            }
            due.is("no SEA: can(" + ship + ", 0, 0)", none.can(ship, 0, 0), UNKNOWN);
            due.is("no SEA: can(" + ship + ", 0, 41)", none.can(ship, 0, 41), UNKNOWN);
        }
    }

    /** "0, if it is there; else 1 more than the least DAY": there, beside it, two away. */
    private static void soonToday() {
        FourLodgers x = Due.sea("f0f0f0f0;22;55");
        way(x, 0, 14, "");
        way(x, 0, 8, "0");
        way(x, 0, 15, "1");
        way(x, 0, 20, "2");
        way(x, 0, 13, "3");
        way(x, 0, 2, "00");
        x.sail(0, 0);
        way(x, 0, 8, "");
        way(x, 0, 2, "50");
        FourLodgers ill = Due.sea("l0l0l0l0;22;55");
        ailAll(ill, 40);
        way(ill, 0, 14, "");
        noWay(ill, 0, 35);
    }

    /** "the least DAY (0 to 40)": on DAY 39 it is 40, on DAY 40 it is 41, on DAY 41 it is none. */
    private static void soonOnDay40() {
        FourLodgers x = Due.sea("l0l0l0l0;22;55");
        ailAll(x, 39);
        way(x, 0, 15, "5".repeat(39) + "1");
        way(x, 0, 16, "5".repeat(39) + "11");
        noWay(x, 0, 17);
        ailAll(x, 40);
        way(x, 0, 15, "5".repeat(40) + "1");
        noWay(x, 0, 16);
        x.day();
        way(x, 0, 15, "5".repeat(39) + "1");
        way(x, 0, 16, "5".repeat(39) + "11");
    }

    /** "10 to 17 by whom on the so-manieth DAY (5: it stays; NONE: there are not so many)": ways of 0 to 10 DAYS. */
    private static void soManiethDays() {
        FourLodgers x = Due.sea("f0f0f0f0;00;50");
        String along = "1111122222";
        int[] cells = {0, 1, 2, 3, 4, 5, 11, 17, 23, 29, 35};
        for (int days = 0; days <= 10; days++) {
            way(x, 0, cells[days], along.substring(0, days));
        }
    }

    /** "of like ones the first by numbers (today's first)". */
    private static void firstByNumbers() {
        FourLodgers x = Due.sea("f0f0f0f0;33;55");
        way(x, 0, 14, "03");
        way(x, 0, 16, "01");
        way(x, 0, 28, "12");
        way(x, 0, 26, "23");
        way(x, 0, 0, "000333");
        // going there and back comes ahead of staying, where a DAY has to be waited for
        FourLodgers wait = Due.sea("f0p0f0f0;33;55");
        way(wait, 0, 22, "51");
        way(wait, 0, 23, "0121");
        way(wait, 0, 16, "01");
        FourLodgers late = Due.sea("f0l2f0f0;33;55");
        way(late, 0, 22, "021");
        FourLodgers later = Due.sea("f0l3f0f0;33;55");
        way(later, 0, 22, "0251");
    }

    /** "(5: it stays)", and 4 comes ahead of it. */
    private static void staysComesLast() {
        FourLodgers x = Due.sea("l9l9l9l9;00;55", 2);
        x.hire();
        way(x, 0, 8, "54");
        x.day();
        way(x, 0, 8, "4");
        way(x, 0, 16, "45555554");
        x.sail(0, 4);
        way(x, 0, 16, "55555554");
        FourLodgers y = Due.sea("f0f0f0f0;00;55", 3);
        y.hire();
        // 14 is the FIFTH's way and one south: whoever is first by numbers goes first
        way(y, 0, 8, "4");
        way(y, 0, 14, "42");
        y.ail(1, 40);
        way(y, 0, 9, "41");
    }

    /** "UNKNOWN: ship, cell; OUTSIDE": what = 0, 10 to 17. */
    private static void soonNumbers() {
        int[] whats = {Integer.MIN_VALUE, -10, -1, 0, 1, 2, 9, 10, 11, 16, 17, 18, 19, 32, Integer.MAX_VALUE};
        FourLodgers none = new FourLodgers();
        for (int ship : SHIPS) {
            for (int cell : CELLS) {
                FourLodgers x = Due.sea("f0f0f0f0;00,00;22");
                for (int what : whats) {
                    boolean known = (ship == 0 || ship == 1) && (cell == 0 || cell == 35);
                    boolean inside = what == 0 || what >= 10 && what <= 17;
                    int told = what == 0 ? cell == 0 ? 0 : 10 : cell == 0 ? NONE : what < 15 ? 1 : 2;
                    int want = !known ? UNKNOWN : !inside ? OUTSIDE : told;
                    due.is("soon(" + ship + ", " + cell + ", " + what + ")", x.soon(ship, cell, what), want);
                }
            }
            due.is("no SEA: soon(" + ship + ", 0, 0)", none.soon(ship, 0, 0), UNKNOWN);
            due.is("no SEA: soon(" + ship + ", 0, 18)", none.soon(ship, 0, 18), UNKNOWN);
        }
    }

    /** "0, if they are in one CELL; else 1 more than the least DAY": in one, beside, two and three apart. */
    private static void meetToday() {
        int[] want = {0, 1, 1, 2, 2, 3};
        for (int column = 0; column <= 5; column++) {
            FourLodgers x = Due.sea("f0f0f0f0;00,0" + column + ";55");
            due.is("apart by " + column, x.meet(0, 1), want[column]);
            due.is("apart by " + column + ", the other way", x.meet(1, 0), want[column]);
        }
        FourLodgers x = Due.sea("f0f0f0f0;00,02;55");
        x.sail(0, 1);
        due.is("one sailed, beside: by the other", x.meet(0, 1), 1);
        x.sail(1, 2);
        due.is("both sailed", x.meet(0, 1), 2);
        x.day();
        due.is("the day after", x.meet(0, 1), 1);
        FourLodgers y = Due.sea("f0f0f0f0;00,01;55");
        y.sail(0, 1);
        due.is("both in one, one sailed", y.meet(0, 1), 0);
    }

    /** "the least DAY (0 to 40)": 40, 41, none. */
    private static void meetOnDay40() {
        FourLodgers x = Due.sea("l0l0l0l0;00,02,05;55");
        ailAll(x, 38);
        due.is("ill for 38, two apart", x.meet(0, 1), 39);
        due.is("ill for 38, five apart", x.meet(0, 2), 41);
        ailAll(x, 39);
        due.is("ill for 39, two apart", x.meet(0, 1), 40);
        due.is("ill for 39, three apart", x.meet(1, 2), 41);
        due.is("ill for 39, five apart", x.meet(0, 2), NONE);
        ailAll(x, 40);
        due.is("ill for 40, two apart", x.meet(0, 1), 41);
        due.is("ill for 40, three apart", x.meet(1, 2), NONE);
    }

    /** "at the end of which both can be in one": passing by each other is no meeting. */
    private static void meetOnTheWay() {
        FourLodgers east = Due.sea("l0l0l0l0;00,05;10,11,12,13,14,15");
        due.is("on one row", east.meet(0, 1), 3);
        FourLodgers alone = Due.sea("l9f0l9l9;00,05;55");
        due.is("the east alone", alone.meet(0, 1), 5);
        FourLodgers shut = Due.sea("f0f0f0f0;00,55;01,10");
        due.is("behind rocks", shut.meet(0, 1), NONE);
        // by her from the corner to 8 on DAY 3, and the other is there by then
        shut.hire();
        due.is("by the fifth", shut.meet(0, 1), 6);
    }

    /** "UNKNOWN: a, b, or they are the same". */
    private static void meetNumbers() {
        FourLodgers x = Due.sea("f0f0f0f0;00,00;22");
        FourLodgers none = new FourLodgers();
        for (int a : SHIPS) {
            for (int b : SHIPS) {
                boolean known = a >= 0 && a <= 1 && b >= 0 && b <= 1 && a != b;
                due.is("meet(" + a + ", " + b + ")", x.meet(a, b), known ? 0 : UNKNOWN);
                due.is("no SEA: meet(" + a + ", " + b + ")", none.meet(a, b), UNKNOWN);
            }
        }
        FourLodgers one = Due.sea("f0f0f0f0;00;22");
        due.is("one ship: meet(0, 1)", one.meet(0, 1), UNKNOWN);
        FourLodgers three = Due.sea("f0f0f0f0;00,00,00;22");
        due.is("three ships: meet(1, 2)", three.meet(1, 2), 0);
        due.is("three ships: meet(2, 2)", three.meet(2, 2), UNKNOWN);
        due.is("three ships: meet(2, 3)", three.meet(2, 3), UNKNOWN);
    }

    /** "if he was ILL for 7 DAYS from today on": not for 6, and not for 8. */
    private static void neededFor7Days() {
        // from 6 to 1 by north and east; ill for 7 the plain one is up on DAY 7 as the poet is; for 6 or 8 the poet is later
        FourLodgers x = Due.sea("l0p0f0f0;10;55");
        due.is("as late by either", x.needed(0, 1), 0);
        x.ail(0, 7);
        due.is("he for 7", x.soon(0, 1, 0), 8);
        x.ail(0, 0);
        x.ail(1, 7);
        due.is("the poet for 7", x.soon(0, 1, 0), 8);
        x.ail(1, 6);
        due.is("the poet for 6", x.soon(0, 1, 0), 8);
        x.ail(1, 8);
        due.is("the poet for 8", x.soon(0, 1, 0), 10);
        // a day later the poet is up again on DAY 9, and the plain one on DAY 8
        FourLodgers later = Due.sea("l0p0f0f0;10;55", 1);
        due.is("from today on", later.needed(0, 1), 1);
        FourLodgers day2 = Due.sea("l0p0f0f0;10;55", 2);
        due.is("from day 2 on", day2.needed(0, 1), 0);
    }

    /** "(and not less than he is)": ill for 6, 7, 8 and 40. */
    private static void neededNotLess() {
        int[] ills = {0, 6, 7, 8, 40};
        // to 1 by north and east: ill for 7 both are up on one DAY, and have to sail one behind the other
        int[] both = {0, 0, 1, 0, 0};
        for (int i = 0; i < ills.length; i++) {
            FourLodgers x = Due.sea("l0l0f0f0;10;55");
            x.ail(0, ills[i]);
            due.is("the north, ill for " + ills[i], x.needed(0, 0), 0);
            due.is("the north, ill for " + ills[i] + ", by north and east", x.needed(0, 1), both[i]);
        }
        // ill for 8: if he was ill for 7 only, all others would make it later than he
        FourLodgers eight = Due.sea("l8f0f0f0;10;55");
        due.is("ill for 8", eight.needed(0, 0), 0);
        FourLodgers last = Due.sea("f0f0f0l8;01;55");
        due.is("ill for 8, the last", last.needed(0, 0), 0);
        FourLodgers west = Due.sea("f0f0f0l6;01;55");
        due.is("ill for 6, the last: longer by him", west.needed(0, 0), 3);
        FourLodgers seven = Due.sea("f0f0f0l7;01;55");
        due.is("ill for 7, the last: as long by each", seven.needed(0, 0), 0);
    }

    /** "of like ones the least". */
    private static void neededOfLikeOnes() {
        FourLodgers x = Due.sea("l0l0l0l0;22;55");
        due.is("it is there", x.needed(0, 14), 0);
        due.is("north", x.needed(0, 8), 0);
        due.is("east", x.needed(0, 15), 1);
        due.is("south", x.needed(0, 20), 2);
        due.is("west", x.needed(0, 13), 3);
        due.is("north and east", x.needed(0, 9), 0);
        due.is("south and west", x.needed(0, 19), 2);
        due.is("east and south", x.needed(0, 21), 1);
        due.is("a rock, by none", x.needed(0, 35), 0);
        FourLodgers families = Due.sea("f0f0f0f0;22;55");
        due.is("families are up, ill or not", families.needed(0, 20), 0);
    }

    /** "(none is greatest of all)": greater than 41. */
    private static void neededNoneIsGreatest() {
        // five rows by the FIFTH alone, on her DAYS 6 to 34 from now; then by the east on DAY 40
        FourLodgers x = Due.sea("l0l0l0l0;04;43,45", 4);
        x.ail(1, 40);
        x.ail(2, 40);
        x.hire();
        due.is("on day 40", x.soon(0, 35, 0), 41);
        due.is("without the west her first day is missed", x.needed(0, 35), 3);
        due.is("and less than 41 is less", x.needed(0, 34), 3);
        x.ail(3, 7);
        due.is("so it is none", x.soon(0, 35, 0), NONE);
        FourLodgers each = Due.sea("l0l0l0l0;00;55");
        each.ail(2, 40);
        due.is("the south on day 40", each.soon(0, 6, 0), 41);
        due.is("he makes it 41, as each does", each.needed(0, 6), 0);
        due.is("one more row is none, by each", each.needed(0, 12), 0);
        FourLodgers none = new FourLodgers();
        for (int ship : SHIPS) {
            for (int cell : CELLS) {
                boolean known = ship == 0 && (cell == 0 || cell == 35);
                due.is("needed(" + ship + ", " + cell + ")", each.needed(ship, cell), known ? 0 : UNKNOWN);
                due.is("no SEA: needed(" + ship + ", " + cell + ")", none.needed(ship, cell), UNKNOWN);
            }
        }
    }

    /** "makes SOON least: of like ones the least". */
    private static void brickOfLikeOnes() {
        FourLodgers x = Due.sea("l5l5l5l5;22;55");
        due.is("north", x.brick(0, 8), 0);
        due.is("east", x.brick(0, 15), 1);
        due.is("south", x.brick(0, 20), 2);
        due.is("west", x.brick(0, 13), 3);
        // by either it is a DAY less, since one can go ahead of the other
        due.is("south and west", x.brick(0, 19), 2);
        due.is("north and west", x.brick(0, 7), 0);
        due.is("east and south", x.brick(0, 21), 1);
        x.ail(3, 7);
        due.is("south and west, who is ill longer", x.brick(0, 19), 3);
    }

    /** "none, if by none it is less than now": as long is not less, a DAY less is. */
    private static void brickNoneIfNotLess() {
        FourLodgers there = Due.sea("l5l5l5l5;22;55");
        due.is("it is there", there.brick(0, 14), NONE);
        due.is("a rock", there.brick(0, 35), NONE);
        FourLodgers well = Due.sea("l0l0l0l0;22;55");
        due.is("all are well", well.brick(0, 8), NONE);
        FourLodgers elsewhere = Due.sea("l0l5l5l5;22;55");
        due.is("who is needed is well", elsewhere.brick(0, 8), NONE);
        FourLodgers one = Due.sea("l1l0l0l0;22;55");
        due.is("ill for today", one.brick(0, 8), 0);
        FourLodgers poet = Due.sea("p1l0l0l0;22;55");
        due.is("a poet, ill for today, when he is not up", poet.brick(0, 8), NONE);
        FourLodgers poet2 = Due.sea("p2l0l0l0;22;55");
        due.is("a poet, ill for tomorrow, too", poet2.brick(0, 8), 0);
        FourLodgers family = Due.sea("f9l0l0l0;22;55");
        due.is("a family", family.brick(0, 8), NONE);
        // two rows by the north, ill: a DAY less than never
        FourLodgers never = Due.sea("l0l0l0l0;22;55");
        never.ail(0, 40);
        due.is("never", never.soon(0, 2, 0), NONE);
        due.is("so by him", never.brick(0, 2), 0);
        never.ail(1, 40);
        due.is("never, but by either on day 40", never.brick(0, 9), 0);
        due.is("never, whoever has it", never.brick(0, 4), NONE);
    }

    /** "if he was not ILL at all from today on". */
    private static void brickFromToday() {
        FourLodgers x = Due.sea("l9l0l0l0;22;55");
        for (int day = 0; day <= 10; day++) {
            due.is("on day " + day, x.brick(0, 8), day < 9 ? 0 : NONE);
            due.is("he is ill as he was", x.lodger(0, 1), Math.max(0, 9 - day));
            x.day();
        }
        FourLodgers y = Due.sea("l9l0l0l0;22;55");
        y.sail(0, 1);
        due.is("it sailed: tomorrow", y.brick(0, 9), 0);
    }

    private static void brickNumbers() {
        FourLodgers x = Due.sea("l0l0l0l0;00,00;22");
        FourLodgers none = new FourLodgers();
        for (int ship : SHIPS) {
            for (int cell : CELLS) {
                boolean known = (ship == 0 || ship == 1) && (cell == 0 || cell == 35);
                due.is("brick(" + ship + ", " + cell + ")", x.brick(ship, cell), known ? NONE : UNKNOWN);
                due.is("no SEA: brick(" + ship + ", " + cell + ")", none.brick(ship, cell), UNKNOWN);
            }
        }
    }

    /** "in how many CELLS it can be at its end, if the FIFTH was hired, in which it cannot, if she was not". */
    private static void asideOnHerDay() {
        FourLodgers x = Due.sea("l0l0l0l0;00;55");
        ailAll(x, 40);
        int[] want = {0, 0, 0, 1, 1, 1, 1, 1, 1, 1, 2, 2, 2, 2, 2, 2, 2, 2, 2, 2, 2};
        for (int day = 0; day <= 20; day++) {
            due.is("she alone, day " + day, x.aside(0, day), want[day]);
        }
        x.hire();
        due.is("whether she is hired or not", x.aside(0, 3), 1);
        due.is("day 2", x.aside(0, 2), 0);
        due.is("hired still", x.count(3), 1);
        Due.pass(x, 3);
        due.is("today", x.aside(0, 0), 1);
        x.sail(0, 4);
        due.is("it sailed today", x.aside(0, 0), 0);
        due.is("it sailed today, the day before the next", x.aside(0, 6), 0);
        due.is("the next", x.aside(0, 7), 1);
        x.day();
        due.is("she led two columns from the edge, and does once more", x.aside(0, 6), 1);
    }

    /** "a DAY (0 to 20)": on DAY 20 from now it may be her DAY, on DAY 21 it is not asked. */
    private static void asideFrom0To20() {
        FourLodgers x = Due.sea("l0l0l0l0;00;12", 4);
        ailAll(x, 40);
        // on DAYS 10, 17 and 24, and the rock is where she leads to: none
        due.is("a rock", x.aside(0, 20), 0);
        FourLodgers y = Due.sea("l0l0l0l0;04,00;55", 4);
        ailAll(y, 40);
        due.is("out of the square", y.aside(0, 20), 0);
        due.is("on day 9", y.aside(1, 5), 0);
        due.is("on day 10", y.aside(1, 6), 1);
        due.is("on day 16", y.aside(1, 12), 1);
        due.is("on day 17", y.aside(1, 13), 2);
        // three of her DAYS, the last on DAY 20 from now: the third leads out of the square, but for the west
        FourLodgers z = Due.sea("l0l0l0p0;00;55", 4);
        ailAll(z, 40);
        due.is("on day 23", z.aside(0, 19), 2);
        due.is("on day 24", z.aside(0, 20), 2);
        z.let(3, 3);
        due.is("with the west, on day 23", z.aside(0, 19), 8);
        due.is("with the west, on day 24", z.aside(0, 20), 12);
    }

    private static void asideNumbers() {
        int[] days = {Integer.MIN_VALUE, -1, 0, 20, 21, 22, 40, Integer.MAX_VALUE};
        FourLodgers x = Due.sea("f0f0f0f0;00,00;55");
        FourLodgers none = new FourLodgers();
        for (int ship : SHIPS) {
            for (int day : days) {
                boolean inside = day == 0 || day == 20;
                int want = ship < 0 || ship > 1 ? UNKNOWN : inside ? 0 : OUTSIDE;
                due.is("aside(" + ship + ", " + day + ")", x.aside(ship, day), want);
                due.is("no SEA: aside(" + ship + ", " + day + ")", none.aside(ship, day), UNKNOWN);
            }
        }
    }
}
