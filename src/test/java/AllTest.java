/** Promises 24 to 27: what is told of all. */
public final class AllTest {
    private static final int OUTSIDE = -102, STATE = -103;
    private static final Due due = new Due("AllTest");

    public static void main(String[] args) {
        images();
        imagesOfSeas();
        counts();
        digests();
        due.end();
    }

    private static void images() {
        FourLodgers x = Due.sea("s3p0f5g1;50,23,05;11,14,41,44,22", 3);
        due.is("restore(), none kept", x.restore(), STATE);
        x.sail(1, 2);
        x.hire();
        x.see(0, 3, true);
        long first = x.digest();
        due.is("image()", x.image(), 3);
        due.is("image() changes nothing", x.digest(), first);
        x.let(0, 4);
        x.ail(1, 30);
        x.sail(2, 2);
        x.day();
        x.sail(1, 3);
        x.hire();
        x.forget();
        x.see(1, 1, false);
        x.see(2, 2, false);
        due.isTrue("it is another now", x.digest() != first);
        due.is("restore()", x.restore(), 3);
        due.is("all is as it was", x.digest(), first);
        due.is("kind", x.lodger(0, 0), 2);
        due.is("ill", x.lodger(1, 1), 0);
        due.is("cell", x.ship(2, 0), 5);
        due.is("one sailed today", x.count(6), 1);
        due.is("sailed today", x.ship(1, 1), 1);
        due.is("how often", x.count(7), 1);
        due.is("hired", x.count(3), 1);
        due.is("seen", x.count(8), 1);
        // well on day 6: a plain one and a family alone are up then
        due.is("seen of him", x.lodger(0, 3), 1 + 8);
        Due.pass(x, 5);
        due.is("restore() again", x.restore(), 3);
        due.is("as it was again", x.digest(), first);
        x.day();
        due.is("a later image", x.image(), 4);
        x.day();
        due.is("the latest", x.restore(), 4);
        Due.write(x, "abc");
        x.restore();
        due.is("the page is not in it", x.count(9), 3);
    }

    private static void imagesOfSeas() {
        String text = "l0l0l0l0;22;55";
        FourLodgers x = Due.sea(text);
        x.image();
        Due.write(x, text);
        due.is("another sea", x.sea(), 1);
        due.is("restore(), another sea", x.restore(), STATE);
        due.is("image() of it", x.image(), 0);
        due.is("restore() of it", x.restore(), 0);
        due.is("how often a sea was read", x.count(10), 2);
        Due.write(x, "l");
        due.is("no sea", x.sea(), STATE);
        due.is("restore(), still the same sea", x.restore(), 0);
        due.is("restore(), new", new FourLodgers().restore(), STATE);
        due.is("image(), new", new FourLodgers().image(), STATE);
    }

    private static void counts() {
        FourLodgers x = Due.sea("l3p0f5g1;50,23;11,14,41,44", 1);
        x.hire();
        x.sail(0, 1);
        x.day();
        x.sail(1, 2);
        x.see(0, 0, true);
        x.see(0, 0, true);
        x.letter('l');
        // on day 2 the plain one and the family are ill, and of the four the family alone is up
        int[] want = {2, 4, 2, 1, 1, 2, 1, 2, 2, 1, 1};
        for (int what = 0; what <= 10; what++) {
            due.is("count(" + what + ")", x.count(what), want[what]);
        }
        due.is("count(11)", x.count(11), OUTSIDE);
        due.is("count(-1)", x.count(-1), OUTSIDE);
        due.is("count(min)", x.count(Integer.MIN_VALUE), OUTSIDE);
        due.is("count(max), new", new FourLodgers().count(Integer.MAX_VALUE), OUTSIDE);
    }

    private static long hash(long... numbers) {
        long h = 1229;
        for (long number : numbers) {
            h = 31 * h + number;
        }
        return h;
    }

    private static void digests() {
        due.is("new", new FourLodgers().digest(), hash(0, 0, 0, 0, 0, 0, 0, 0, 0, 0, 0));
        due.is("a page", Due.written("l0;").digest(), hash('l', '0', ';', 0, 0, 0, 0, 0, 0, 0, 0, 0, 3, 0));
        FourLodgers x = Due.sea("s3p0f5g1;50,23,05;11,14,41,44,22", 3);
        x.sail(1, 2);
        x.see(0, 3, true);
        Due.write(x, "xyz");
        due.is("by calls", x.digest(), byCalls(x, "xyz"));
        String[] texts = {"l0l9p0s9;00;55", "s0s0g7g7;05,50;22,33", "p0l9l9p0;55,01,10;00,54", "l7l0l6l5;33,20;31,05"};
        for (String text : texts) {
            FourLodgers each = Due.sea(text);
            for (int day = 0; day < 9; day++) {
                due.is("by calls, " + text + " on day " + day, each.digest(), byCalls(each, ""));
                each.day();
            }
        }
        // the lodgers, the ship, the cells, the counts, all told by hand
        FourLodgers y = Due.sea("f0f0f0f0;00;55");
        long[] told = {3, 0, 1, 31, 0, 28, 3, 0, 1, 31, 0, 28, 3, 0, 1, 31, 0, 28, 3, 0, 1, 31, 0, 28,
            0, 0, 6, 0, -1, -1, -1, 0, -1, 0,
            0, 0, 0, 0, 0, 0, 0, 0, 0, 0, 0, 0, 0, 0, 0, 0, 0, 0, 0, 0, 0, 0, 0, 0, 0, 0, 0, 0, 0, 0, 0, 0, 0, 0, 0, 1,
            1, 1, 0, 0, 4, 0, 0, 0, 0, 0, 1};
        due.is("by hand", y.digest(), hash(told));
    }

    private static long byCalls(FourLodgers x, String page) {
        long h = 1229;
        for (int lodger = 0; lodger < 4; lodger++) {
            for (int what = 0; what < 6; what++) {
                h = 31 * h + x.lodger(lodger, what);
            }
        }
        for (int ship = 0; ship < x.count(0); ship++) {
            long[] told = {x.ship(ship, 0), x.ship(ship, 1), x.ship(ship, 2), x.soon(ship, 0, 0), x.soon(ship, 0, 10),
                x.soon(ship, 35, 0), x.soon(ship, 35, 10), x.needed(ship, 14), x.brick(ship, 14), x.aside(ship, 9)};
            for (long number : told) {
                h = 31 * h + number;
            }
        }
        for (int cell = 0; cell < 36; cell++) {
            h = 31 * h + x.cell(cell, 0);
        }
        for (char letter : page.toCharArray()) {
            h = 31 * h + letter;
        }
        for (int what = 0; what <= 10; what++) {
            h = 31 * h + x.count(what);
        }
        return h;
    }
}
