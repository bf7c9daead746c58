import java.math.BigInteger;
import java.util.ArrayList;
import java.util.List;

/** The edges of IMAGE in section 3 and of promises 24 to 27: each at the boundary and on both sides of it. */
public final class AllEdgesTest {
    private static final int OUTSIDE = -102, STATE = -103;
    private static final String TEXT = "s3p0f5g1;50,23,05;11,14,41,44,22";
    private static final Due due = new Due("AllEdgesTest");

    private interface Change {
        void on(FourLodgers x);
    }

    public static void main(String[] args) {
        noneKept();
        eachThingKept();
        illTillWhen();
        seenInTheImage();
        theLatest();
        keptIsApart();
        anotherSeaSince();
        whatIsNotKept();
        countNumbers();
        countsWithoutASea();
        countsOfLodgers();
        digestWraps();
        digestOfThePage();
        digestOfEachPart();
        due.end();
    }

    /** "STATE: no SEA", "STATE: none was kept". */
    private static void noneKept() {
        FourLodgers x = new FourLodgers();
        due.is("image(), no SEA", x.image(), STATE);
        due.is("restore(), no SEA", x.restore(), STATE);
        Due.write(x, TEXT);
        x.sea();
        due.is("restore(), the refused image() is none", x.restore(), STATE);
        x.day();
        due.is("restore(), none kept", x.restore(), STATE);
        due.is("it is the day that it was", x.count(2), 1);
        due.is("image()", x.image(), 1);
        due.is("restore(), one kept", x.restore(), 1);
    }

    private static FourLodgers rich() {
        FourLodgers x = Due.sea(TEXT, 4);
        x.sail(0, 0);
        x.hire();
        x.see(0, 1, true);
        x.ail(1, 9);
        return x;
    }

    private static void kept(String what, Change change) {
        FourLodgers x = rich();
        long before = x.digest();
        due.is(what + ": image()", x.image(), 4);
        due.is(what + ": is as it was", x.digest(), before);
        change.on(x);
        due.isTrue(what + ": is another", x.digest() != before);
        due.is(what + ": restore()", x.restore(), 4);
        due.is(what + ": is as it was again", x.digest(), before);
        due.is(what + ": restore() once more", x.restore(), 4);
        due.is(what + ": is as it was once more", x.digest(), before);
    }

    /** "An IMAGE keeps KINDS, till when each is ILL, CELLS, who SAILED today, the DAY, whether the FIFTH is hired, how often any SAILED, SEEN". */
    private static void eachThingKept() {
        for (int n = 0; n < 4; n++) {
            int lodger = n;
            kept("kind of " + n, x -> x.let(lodger, 0));
            kept("illness of " + n, x -> x.ail(lodger, 30));
            kept("brick for all, then " + n, x -> { x.ail(1, 0); x.ail(lodger, 2); });
        }
        kept("cell of ship 2", x -> x.sail(2, 2));
        kept("cell of ship 1", x -> x.sail(1, 2));
        kept("cell of ship 0, the days after", x -> { x.day(); x.sail(0, 2); x.day(); });
        kept("who sailed", x -> { x.day(); });
        kept("the day", x -> { x.day(); x.day(); x.day(); });
        kept("hired", x -> x.hire());
        kept("seen, forgotten", x -> x.forget());
        kept("seen, more", x -> { x.see(3, 2, false); x.see(0, 2, false); });
        kept("seen, other", x -> { x.forget(); x.see(0, 2, false); });
        FourLodgers x = rich();
        x.image();
        x.day();
        due.is("ship 0 sails on", x.sail(0, 2), 30);
        x.day();
        x.restore();
        int[] counts = {3, 5, 4, 1, 3, 2, 1, 1, 1, 0, 1};
        for (int what = 0; what <= 10; what++) {
            due.is("count(" + what + ")", x.count(what), counts[what]);
        }
        due.is("ship 0 sailed today", x.ship(0, 1), 1);
        due.is("ship 0 is there", x.ship(0, 0), 24);
        due.is("ship 0 may not", x.sail(0, 2), STATE);
        due.is("ship 1 did not", x.ship(1, 1), 0);
    }

    /** "till when each is ILL": not for how many DAYS more. */
    private static void illTillWhen() {
        FourLodgers x = Due.sea("l5l0l0l0;22;55", 2);
        x.image();
        Due.pass(x, 4);
        due.is("long well", x.lodger(0, 1), 0);
        due.is("restore()", x.restore(), 2);
        due.is("for three days more", x.lodger(0, 1), 3);
        Due.pass(x, 2);
        due.is("for the last day", x.lodger(0, 1), 1);
        x.day();
        due.is("well", x.lodger(0, 1), 0);
    }

    /** SEEN at none, five and six of six. */
    private static void seenInTheImage() {
        for (int n = 0; n <= 6; n++) {
            FourLodgers x = Due.sea("l0l0l0l0;22;55");
            for (int i = 0; i < n; i++) {
                x.see(i % 4, i, i % 2 == 1);
            }
            long before = x.digest();
            x.image();
            x.forget();
            for (int i = 0; i < 6; i++) {
                x.see(3 - i % 4, 20 - i, true);
            }
            x.restore();
            due.is("seen " + n + ", restored", x.digest(), before);
            due.is("one more than " + n, x.see(0, 0, true), n < 6 ? n + 1 : -104);
        }
    }

    /** "An IMAGE is kept (one; the latest)". */
    private static void theLatest() {
        FourLodgers x = Due.sea("l0l0l0l0;22;55");
        for (int day = 0; day <= 5; day++) {
            due.is("image() on day " + day, x.image(), day);
            x.day();
        }
        for (int n = 0; n < 3; n++) {
            due.is("the latest", x.restore(), 5);
            x.day();
        }
        due.is("an earlier one is gone", x.restore(), 5);
        due.is("image() of what goes on from it", x.image(), 5);
    }

    /** What is done behind restore() does not touch the IMAGE. */
    private static void keptIsApart() {
        FourLodgers x = rich();
        x.image();
        long before = x.digest();
        for (int n = 0; n < 3; n++) {
            x.restore();
            due.is("restored, time " + n, x.digest(), before);
            x.let(n, 4 - n);
            x.ail(n, 11);
            x.day();
            x.sail(n, 0);
            x.see(n, n, false);
            x.hire();
            x.needed(0, 0);
            x.drifts(60, n, 1);
            x.aside(1, 20);
        }
        x.restore();
        due.is("restored at last", x.digest(), before);
    }

    /** "STATE: .. or there is another SEA since": a page that is none is no other SEA. */
    private static void anotherSeaSince() {
        FourLodgers x = Due.sea(TEXT, 3);
        x.image();
        Due.write(x, TEXT.substring(0, 19));
        due.is("sea() of a part", x.sea(), STATE);
        due.is("restore(), the SEA is the same", x.restore(), 3);
        Due.write(x, TEXT.substring(19));
        due.is("sea() of the same text", x.sea(), 3);
        due.is("restore(), there is another", x.restore(), STATE);
        due.is("it is day 0 still", x.count(2), 0);
        x.day();
        due.is("image() of it", x.image(), 1);
        x.day();
        due.is("restore() of it", x.restore(), 1);
    }

    /** THE PAGE and how often a SEA was read are not in an IMAGE. */
    private static void whatIsNotKept() {
        FourLodgers x = Due.sea(TEXT);
        Due.write(x, "abc");
        x.image();
        x.letter('d');
        x.restore();
        due.is("a letter more", x.count(9), 4);
        x.blank();
        x.restore();
        due.is("blank", x.count(9), 0);
        due.is("how often a SEA was read", x.count(10), 1);
    }

    /** "OUTSIDE": what = 0 to 10. */
    private static void countNumbers() {
        FourLodgers x = Due.sea(TEXT);
        FourLodgers none = new FourLodgers();
        int[] whats = {Integer.MIN_VALUE, -32, -2, -1, 0, 1, 9, 10, 11, 12, 32, Integer.MAX_VALUE};
        int[] told = {OUTSIDE, OUTSIDE, OUTSIDE, OUTSIDE, 3, 5, 0, 1, OUTSIDE, OUTSIDE, OUTSIDE, OUTSIDE};
        for (int i = 0; i < whats.length; i++) {
            due.is("count(" + whats[i] + ")", x.count(whats[i]), told[i]);
            due.is("no SEA: count(" + whats[i] + ")", none.count(whats[i]), told[i] == OUTSIDE ? OUTSIDE : 0);
        }
    }

    private static void countsWithoutASea() {
        FourLodgers x = Due.written("l0l0");
        x.sea();
        x.day();
        x.hire();
        for (int what = 0; what <= 10; what++) {
            due.is("no SEA, a page: count(" + what + ")", x.count(what), what == 9 ? 4 : 0);
        }
    }

    /** "LODGERS of the four who are UP today", "who are ILL today": none, some and all, and never the FIFTH. */
    private static void countsOfLodgers() {
        FourLodgers x = Due.sea("l0l0l0l0;22;55", 3);
        x.hire();
        for (int n = 0; n < 4; n++) {
            due.is(n + " are ill: up", x.count(4), 4 - n);
            due.is(n + " are ill: ill", x.count(5), n);
            x.ail(n, 1);
        }
        due.is("all are ill: up", x.count(4), 0);
        due.is("all are ill: ill", x.count(5), 4);
        x.let(0, 3);
        due.is("a family is ill and up: up", x.count(4), 1);
        due.is("a family is ill and up: ill", x.count(5), 4);
        x.day();
        due.is("tomorrow all are up", x.count(4), 4);
        due.is("tomorrow none is ill", x.count(5), 0);
        x.let(1, 1);
        due.is("a poet is in bed and well: up", x.count(4), 3);
        due.is("a poet is in bed and well: ill", x.count(5), 0);
    }

    private static List<Integer> told(FourLodgers x, String page) {
        List<Integer> all = new ArrayList<>();
        int ships = x.count(0);
        for (int lodger = 0; lodger < 4 && ships > 0; lodger++) {
            for (int what = 0; what <= 5; what++) {
                all.add(x.lodger(lodger, what));
            }
        }
        for (int ship = 0; ship < ships; ship++) {
            all.addAll(List.of(x.ship(ship, 0), x.ship(ship, 1), x.ship(ship, 2)));
            all.addAll(List.of(x.soon(ship, 0, 0), x.soon(ship, 0, 10), x.soon(ship, 35, 0), x.soon(ship, 35, 10)));
            all.addAll(List.of(x.needed(ship, 14), x.brick(ship, 14), x.aside(ship, 9)));
        }
        for (int cell = 0; cell < 36 && ships > 0; cell++) {
            all.add(x.cell(cell, 0));
        }
        page.chars().forEach(all::add);
        for (int what = 0; what <= 10; what++) {
            all.add(x.count(what));
        }
        return all;
    }

    /** "31 times h, and it (as longs, wrapping)": the whole number, cut to 64 bits at the end. */
    private static long cut(List<Integer> numbers) {
        BigInteger h = BigInteger.valueOf(1229);
        for (int number : numbers) {
            h = h.multiply(BigInteger.valueOf(31)).add(BigInteger.valueOf(number));
        }
        return h.longValue();
    }

    /** Of one to three ships, behind each of many DAYS; NONE is -1 in it, too. */
    private static void digestWraps() {
        String[] texts = {TEXT, "l0l0l0l0;22;55", "p1p2p3p4;00,55;01,10", "g9g9s9s9;22,23;24,25"};
        for (String text : texts) {
            for (int day = 0; day <= 12; day++) {
                FourLodgers x = Due.sea(text, day);
                x.hire();
                x.ail(day % 4, 3 * day);
                x.see(day % 4, day, day % 2 == 0);
                due.is("digest() of " + text + " on day " + day, x.digest(), cut(told(x, "")));
            }
        }
    }

    /** "letters of THE PAGE": none, one, and 40; with a SEA and without. */
    private static void digestOfThePage() {
        String[] pages = {"", "l", "0", "l0", "0l", "~".repeat(39), "~".repeat(40), "" + (char) 1};
        for (String page : pages) {
            FourLodgers none = Due.written(page);
            due.is("digest(), no SEA, " + page.length() + " letters", none.digest(), cut(told(none, page)));
            FourLodgers x = Due.sea(TEXT);
            Due.write(x, page);
            due.is("digest(), a SEA, " + page.length() + " letters", x.digest(), cut(told(x, page)));
            x.blank();
            due.is("digest(), blank again", x.digest(), Due.sea(TEXT).digest());
        }
    }

    /** Each thing that is told of moves the digest, and asking does not. */
    private static void digestOfEachPart() {
        long before = rich().digest();
        Change[] changes = {x -> x.letter(1), x -> x.sail(1, 2), x -> x.day(), x -> x.ail(2, 3), x -> x.let(3, 3),
            x -> x.hire(), x -> x.see(2, 0, true), x -> x.forget()};
        for (int i = 0; i < changes.length; i++) {
            FourLodgers x = rich();
            changes[i].on(x);
            due.isTrue("change " + i + " is told", x.digest() != before);
        }
        FourLodgers x = rich();
        due.is("digest() again", x.digest(), x.digest());
        x.image();
        x.fault();
        x.can(0, 35, 40);
        x.meet(0, 1);
        due.is("digest() behind what is asked", x.digest(), before);
    }
}
