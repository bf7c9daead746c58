/**
 * The last paragraph of section 3: every refusal of every call, which of several comes first, and that it changes nothing.
 * What is told after a refused call is compared with what a twin tells that was made by the same calls without it.
 */
public final class RefusedTest {
    private static final int UNKNOWN = -101, OUTSIDE = -102, STATE = -103, FULL = -104;
    private static final int MIN = Integer.MIN_VALUE, MAX = Integer.MAX_VALUE;
    private static final Due due = new Due("RefusedTest");

    private interface Call {
        long on(FourLodgers x);
    }

    private interface Made {
        FourLodgers anew();
    }

    public static void main(String[] args) {
        withoutASea();
        unknownNumbers();
        outsideNumbers();
        unknownComesFirst();
        outsideComesAheadOfFullAndState();
        sailsInState();
        pagesInState();
        imagesInState();
        fullOnes();
        due.end();
    }

    /** Refused as told, also when asked again, and what is told of all is as the twin tells it, the IMAGE with it. */
    private static void refused(String name, Made made, Call call, int why) {
        FourLodgers x = made.anew();
        due.is(name, call.on(x), why);
        due.is(name + " again", call.on(x), why);
        FourLodgers twin = made.anew();
        due.is(name + ", all behind it", x.digest(), twin.digest());
        due.is(name + ", fault() behind it", x.fault(), twin.fault());
        due.is(name + ", drifts() behind it", x.drifts(9, 5, 1), twin.drifts(9, 5, 1));
        due.is(name + ", restore() behind it", x.restore(), twin.restore());
        due.is(name + ", all behind restore()", x.digest(), twin.digest());
    }

    private static FourLodgers none() {
        return Due.written("l0p1s2f3;");
    }

    /** Two ships, one of which sailed; things seen, an IMAGE of another DAY, letters on THE PAGE. */
    private static FourLodgers rich() {
        FourLodgers x = Due.sea("f3l0p2g1;22,00;55,01,44", 2);
        x.see(1, 3, true);
        x.sail(0, 1);
        x.image();
        x.day();
        x.hire();
        x.sail(0, 0);
        x.see(0, 2, false);
        x.ail(3, 4);
        Due.write(x, "l0p1s2f3;0");
        return x;
    }

    /** "At first there is none": UNKNOWN or STATE, as told by each call, whatever the numbers are. */
    private static void withoutASea() {
        int[] numbers = {MIN, -1, 0, 1, 3, 99, MAX};
        for (int a : numbers) {
            for (int b : numbers) {
                String of = "(" + a + ", " + b + "), no SEA";
                refused("lodger" + of, RefusedTest::none, x -> x.lodger(a, b), UNKNOWN);
                refused("as" + of, RefusedTest::none, x -> x.as(a, b), UNKNOWN);
                refused("ship" + of, RefusedTest::none, x -> x.ship(a, b), UNKNOWN);
                refused("cell" + of, RefusedTest::none, x -> x.cell(a, b), UNKNOWN);
                refused("sail" + of, RefusedTest::none, x -> x.sail(a, b), UNKNOWN);
                refused("ail" + of, RefusedTest::none, x -> x.ail(a, b), UNKNOWN);
                refused("let" + of, RefusedTest::none, x -> x.let(a, b), UNKNOWN);
                refused("can" + of, RefusedTest::none, x -> x.can(a, b, 0), UNKNOWN);
                refused("soon" + of, RefusedTest::none, x -> x.soon(a, b, 0), UNKNOWN);
                refused("meet" + of, RefusedTest::none, x -> x.meet(a, b), UNKNOWN);
                refused("needed" + of, RefusedTest::none, x -> x.needed(a, b), UNKNOWN);
                refused("brick" + of, RefusedTest::none, x -> x.brick(a, b), UNKNOWN);
                refused("aside" + of, RefusedTest::none, x -> x.aside(a, b), UNKNOWN);
                refused("see" + of, RefusedTest::none, x -> x.see(a, b, true), UNKNOWN);
            }
        }
        refused("sea(), no SEA", RefusedTest::none, x -> x.sea(), STATE);
        refused("day(), no SEA", RefusedTest::none, x -> x.day(), STATE);
        refused("hire(), no SEA", RefusedTest::none, x -> x.hire(), STATE);
        refused("image(), no SEA", RefusedTest::none, x -> x.image(), STATE);
        refused("restore(), no SEA", RefusedTest::none, x -> x.restore(), STATE);
        refused("drifts(1, 0, 0), no SEA", RefusedTest::none, x -> x.drifts(1, 0, 0), STATE);
        refused("drifts(60, max, 2), no SEA", RefusedTest::none, x -> x.drifts(60, MAX, 2), STATE);
    }

    /** "UNKNOWN (a number names nothing)": LODGERS 0 to 3, ships 0 and 1, CELLS 0 to 35, by 0 to 4. */
    private static void unknownNumbers() {
        for (int n : new int[] {MIN, -64, -32, -1, 4, 5, 32, 64, MAX}) {
            String of = "(" + n + ", ..)";
            refused("lodger" + of, RefusedTest::rich, x -> x.lodger(n, 0), UNKNOWN);
            refused("as" + of, RefusedTest::rich, x -> x.as(n, 0), UNKNOWN);
            refused("ail" + of, RefusedTest::rich, x -> x.ail(n, 0), UNKNOWN);
            refused("let" + of, RefusedTest::rich, x -> x.let(n, 0), UNKNOWN);
            refused("see" + of, RefusedTest::rich, x -> x.see(n, 0, true), UNKNOWN);
        }
        for (int n : new int[] {MIN, -64, -32, -1, 2, 3, 32, 64, MAX}) {
            String of = "(" + n + ", ..)";
            refused("ship" + of, RefusedTest::rich, x -> x.ship(n, 0), UNKNOWN);
            refused("sail" + of, RefusedTest::rich, x -> x.sail(n, 2), UNKNOWN);
            refused("can" + of, RefusedTest::rich, x -> x.can(n, 0, 0), UNKNOWN);
            refused("soon" + of, RefusedTest::rich, x -> x.soon(n, 0, 0), UNKNOWN);
            refused("meet" + of, RefusedTest::rich, x -> x.meet(n, 0), UNKNOWN);
            refused("meet(0, " + n + ")", RefusedTest::rich, x -> x.meet(0, n), UNKNOWN);
            refused("meet(" + n + ", " + n + ")", RefusedTest::rich, x -> x.meet(n, n), UNKNOWN);
            refused("needed" + of, RefusedTest::rich, x -> x.needed(n, 0), UNKNOWN);
            refused("brick" + of, RefusedTest::rich, x -> x.brick(n, 0), UNKNOWN);
            refused("aside" + of, RefusedTest::rich, x -> x.aside(n, 0), UNKNOWN);
        }
        for (int n : new int[] {MIN, -64, -1, 36, 37, 64, MAX}) {
            refused("cell(" + n + ", 0)", RefusedTest::rich, x -> x.cell(n, 0), UNKNOWN);
            refused("can(0, " + n + ", 0)", RefusedTest::rich, x -> x.can(0, n, 0), UNKNOWN);
            refused("soon(0, " + n + ", 0)", RefusedTest::rich, x -> x.soon(0, n, 0), UNKNOWN);
            refused("needed(0, " + n + ")", RefusedTest::rich, x -> x.needed(0, n), UNKNOWN);
            refused("brick(0, " + n + ")", RefusedTest::rich, x -> x.brick(0, n), UNKNOWN);
        }
        for (int n : new int[] {MIN, -32, -1, 5, 6, 32, MAX}) {
            refused("sail(1, " + n + ")", RefusedTest::rich, x -> x.sail(1, n), UNKNOWN);
        }
        refused("meet(0, 0)", RefusedTest::rich, x -> x.meet(0, 0), UNKNOWN);
        refused("meet(1, 1)", RefusedTest::rich, x -> x.meet(1, 1), UNKNOWN);
    }

    /** "OUTSIDE (it is not as told)". */
    private static void outsideNumbers() {
        outside("letter", new int[] {MIN, -1, 0, 127, 128, 256 + 'l', MAX}, (x, n) -> x.letter(n));
        outside("lodger(0, ..)", new int[] {MIN, -1, 6, 7, MAX}, (x, n) -> x.lodger(0, n));
        outside("as(0, ..)", new int[] {MIN, -1, 5, 6, MAX}, (x, n) -> x.as(0, n));
        outside("ship(0, ..)", new int[] {MIN, -1, 3, 4, MAX}, (x, n) -> x.ship(0, n));
        outside("cell(0, ..)", new int[] {MIN, -1, 2, 3, MAX}, (x, n) -> x.cell(0, n));
        outside("ail(0, ..)", new int[] {MIN, -1, 41, 42, MAX}, (x, n) -> x.ail(0, n));
        outside("let(0, ..)", new int[] {MIN, -1, 5, 6, MAX}, (x, n) -> x.let(0, n));
        outside("can(0, 0, ..)", new int[] {MIN, -1, 41, 42, MAX}, (x, n) -> x.can(0, 0, n));
        outside("soon(0, 0, ..)", new int[] {MIN, -1, 1, 9, 18, MAX}, (x, n) -> x.soon(0, 0, n));
        outside("aside(0, ..)", new int[] {MIN, -1, 21, 22, MAX}, (x, n) -> x.aside(0, n));
        outside("see(0, ..)", new int[] {MIN, -1, 21, 22, MAX}, (x, n) -> x.see(0, n, false));
        outside("drifts(.., 0, 0)", new int[] {MIN, -1, 0, 61, MAX}, (x, n) -> x.drifts(n, 0, 0));
        outside("drifts(1, .., 0)", new int[] {MIN, -2, -1}, (x, n) -> x.drifts(1, n, 0));
        outside("drifts(1, 0, ..)", new int[] {MIN, -1, 3, MAX}, (x, n) -> x.drifts(1, 0, n));
        outside("count", new int[] {MIN, -1, 11, 12, MAX}, (x, n) -> x.count(n));
    }

    private interface CallWith {
        long on(FourLodgers x, int n);
    }

    private static void outside(String name, int[] numbers, CallWith call) {
        for (int n : numbers) {
            refused(name + " with " + n, RefusedTest::rich, x -> call.on(x, n), OUTSIDE);
        }
    }

    /** "of several the first as told by each call": UNKNOWN ahead of OUTSIDE and STATE. */
    private static void unknownComesFirst() {
        refused("lodger(4, 6)", RefusedTest::rich, x -> x.lodger(4, 6), UNKNOWN);
        refused("as(4, 5)", RefusedTest::rich, x -> x.as(4, 5), UNKNOWN);
        refused("ship(2, 3)", RefusedTest::rich, x -> x.ship(2, 3), UNKNOWN);
        refused("cell(36, 2)", RefusedTest::rich, x -> x.cell(36, 2), UNKNOWN);
        refused("ail(4, 41)", RefusedTest::rich, x -> x.ail(4, 41), UNKNOWN);
        refused("let(4, 5)", RefusedTest::rich, x -> x.let(4, 5), UNKNOWN);
        refused("can(2, 0, 41)", RefusedTest::rich, x -> x.can(2, 0, 41), UNKNOWN);
        refused("can(0, 36, 41)", RefusedTest::rich, x -> x.can(0, 36, 41), UNKNOWN);
        refused("soon(2, 0, 18)", RefusedTest::rich, x -> x.soon(2, 0, 18), UNKNOWN);
        refused("soon(0, 36, 9)", RefusedTest::rich, x -> x.soon(0, 36, 9), UNKNOWN);
        refused("aside(2, 21)", RefusedTest::rich, x -> x.aside(2, 21), UNKNOWN);
        refused("see(4, 21, true)", RefusedTest::rich, x -> x.see(4, 21, true), UNKNOWN);
        // ship 0 sailed today
        refused("sail(0, 5), it sailed", RefusedTest::rich, x -> x.sail(0, 5), UNKNOWN);
        refused("sail(0, -1), it sailed", RefusedTest::rich, x -> x.sail(0, -1), UNKNOWN);
        refused("sail(2, 5)", RefusedTest::rich, x -> x.sail(2, 5), UNKNOWN);
    }

    /** OUTSIDE ahead of FULL, for letter() and see(), and ahead of STATE, for drifts(). */
    private static void outsideComesAheadOfFullAndState() {
        refused("letter(0), full", RefusedTest::fullPage, x -> x.letter(0), OUTSIDE);
        refused("letter(127), full", RefusedTest::fullPage, x -> x.letter(127), OUTSIDE);
        refused("see(0, 21, true), full", RefusedTest::allSeen, x -> x.see(0, 21, true), OUTSIDE);
        refused("see(0, -1, false), full", RefusedTest::allSeen, x -> x.see(0, -1, false), OUTSIDE);
        refused("see(4, 0, true), full", RefusedTest::allSeen, x -> x.see(4, 0, true), UNKNOWN);
        refused("see(4, 21, true), full", RefusedTest::allSeen, x -> x.see(4, 21, true), UNKNOWN);
        refused("drifts(0, 0, 0), no SEA", RefusedTest::none, x -> x.drifts(0, 0, 0), OUTSIDE);
        refused("drifts(61, 0, 0), no SEA", RefusedTest::none, x -> x.drifts(61, 0, 0), OUTSIDE);
        refused("drifts(1, -1, 0), no SEA", RefusedTest::none, x -> x.drifts(1, -1, 0), OUTSIDE);
        refused("drifts(1, 0, 3), no SEA", RefusedTest::none, x -> x.drifts(1, 0, 3), OUTSIDE);
        refused("drifts(1, 0, -1), no SEA", RefusedTest::none, x -> x.drifts(1, 0, -1), OUTSIDE);
    }

    /** "STATE: it SAILED today, or that one is not UP, or it may not". */
    private static void sailsInState() {
        // it is DAY 3: ship 0 sailed, the ghost is ill, the others and the FIFTH are up
        for (int by = 0; by <= 4; by++) {
            int with = by;
            refused("sail(0, " + by + "), it sailed", RefusedTest::rich, x -> x.sail(0, with), STATE);
        }
        refused("sail(1, 0), out of the square", RefusedTest::rich, x -> x.sail(1, 0), STATE);
        refused("sail(1, 1), a rock", RefusedTest::rich, x -> x.sail(1, 1), STATE);
        refused("sail(1, 3), ill and out of the square", RefusedTest::rich, x -> x.sail(1, 3), STATE);
        due.is("sail(1, 2)", rich().sail(1, 2), 6);
        due.is("sail(1, 4)", rich().sail(1, 4), 8);
        refused("sail(1, 4), not hired", () -> hiredNoMore(rich()), x -> x.sail(1, 4), STATE);
        refused("sail(1, 4), another day", () -> dayAfter(rich()), x -> x.sail(1, 4), STATE);
        refused("sail(1, 2), a poet on an even day", () -> dayAfter(rich()), x -> x.sail(1, 2), STATE);
    }

    private static FourLodgers hiredNoMore(FourLodgers x) {
        x.hire();
        return x;
    }

    private static FourLodgers dayAfter(FourLodgers x) {
        x.day();
        return x;
    }

    /** sea() "STATE: it is none": THE PAGE stays, and the SEA with all that is. */
    private static void pagesInState() {
        String[] pages = {"", "l", "l0p1s2f3", "l0p1s2f3;", "l0p1s2f3;00", "l0p1s2f3;00;", "l0p1s2f3;00;0", "l0p1s2f3;00;00",
            "l0p1s2f3;00;01,", "l0p1s2f3;00;01,0", "l0p1s2f3;00;01,01", "l0p1s2f3;00;01;", "l0p1s2f3;00;06", "l0p1s2f3;60;01",
            "l0p1s2;00;01", "l0p1s2f3l4;00;01", "l0p1s2f3;;01", "l0p1s2f3;00,01,02,03;10", "k0p1s2f3;00;01", " l0p1s2f3;00;01",
            "l0p1s2f3;00;01,02,03,04,05,10,11", "L0p1s2f3;00;01", "l0p1s2f3;00;01 ", "l".repeat(40)};
        for (String page : pages) {
            refused("sea() of " + page, () -> withPage(rich(), page), x -> x.sea(), STATE);
            refused("sea() of " + page + ", no SEA", () -> Due.written(page), x -> x.sea(), STATE);
        }
    }

    private static FourLodgers withPage(FourLodgers x, String page) {
        x.blank();
        Due.write(x, page);
        return x;
    }

    private static void imagesInState() {
        refused("restore(), none kept", () -> Due.sea("l0p1s2f3;00;01", 2), x -> x.restore(), STATE);
        refused("restore(), another SEA", RefusedTest::another, x -> x.restore(), STATE);
    }

    private static FourLodgers another() {
        FourLodgers x = withPage(rich(), "l0p1s2f3;00;01");
        x.sea();
        x.day();
        return x;
    }

    /** "FULL": at 40 letters, at six things SEEN; one less of each is taken. */
    private static void fullOnes() {
        refused("letter(l), full", RefusedTest::fullPage, x -> x.letter('l'), FULL);
        refused("letter(1), full", RefusedTest::fullPage, x -> x.letter(1), FULL);
        refused("letter(126), full", RefusedTest::fullPage, x -> x.letter(126), FULL);
        refused("see(0, 0, true), full", RefusedTest::allSeen, x -> x.see(0, 0, true), FULL);
        refused("see(3, 20, false), full", RefusedTest::allSeen, x -> x.see(3, 20, false), FULL);
        FourLodgers page = withPage(rich(), "l".repeat(39));
        due.is("the letter number 40", page.letter('l'), 40);
        FourLodgers seen = rich();
        for (int n = 3; n <= 6; n++) {
            due.is("the thing seen number " + n, seen.see(2, n, true), n);
        }
        due.is("the thing seen number 7", seen.see(2, 7, true), FULL);
    }

    private static FourLodgers fullPage() {
        return withPage(rich(), "l0p1s2f3;00;01,02,03,04,05,10,11,12,13,1");
    }

    private static FourLodgers allSeen() {
        FourLodgers x = rich();
        for (int i = 0; i < 4; i++) {
            x.see(i, 3 * i, i < 2);
        }
        return x;
    }
}
