import java.util.Random;

/** All promises: runs of calls by a fixed seed, each answer compared with that of PlainLodgers. */
public final class ModelTest {
    private static final int RUNS = 400;
    private static final int CALLS = 512;
    private static final String[] NAMES = {"letter", "blank", "fault", "sea", "lodger", "as", "ship", "cell", "sail",
        "day", "ail", "let", "hire", "can", "soon", "meet", "needed", "brick", "aside", "see", "forget", "drifts",
        "image", "restore", "count", "digest"};
    /** How often each is called; digest() seldom, since the plain one is slow. */
    private static final int[] WEIGHTS = {6, 1, 4, 2, 14, 5, 8, 4, 30, 14, 6, 5, 3, 10, 16, 6, 5, 5, 5, 8, 1, 5, 2, 2, 6, 1};
    private static final int[] ODD = {-1, Integer.MIN_VALUE, Integer.MAX_VALUE, 36, 41, 5, 64, 127, 61};
    private static final Due due = new Due("ModelTest");

    private final Random random;
    private final FourLodgers x = new FourLodgers();
    private final PlainLodgers plain = new PlainLodgers();
    private final int run;
    private int calls = 0;

    private ModelTest(int run) {
        this.run = run;
        random = new Random(7919L * run);
    }

    public static void main(String[] args) {
        for (int run = 0; run < RUNS; run++) {
            new ModelTest(run).go();
        }
        due.end();
    }

    private void go() {
        while (calls < CALLS) {
            String name = pick();
            if (name.equals("sea") || calls == 3) {
                write(text());
                call("fault", 0, 0, 0);
                call("sea", 0, 0, 0);
            } else {
                call(name, first(name), second(name), third(name));
            }
        }
    }

    private void write(String text) {
        call("blank", 0, 0, 0);
        for (char letter : text.toCharArray()) {
            call("letter", letter, 0, 0);
        }
    }

    private void call(String name, int a, int b, int c) {
        calls++;
        due.is("run " + run + ", call " + calls + ": " + name + "(" + a + ", " + b + ", " + c + ")",
            ask(name, a, b, c), plain.answer(name, a, b, c));
    }

    private long ask(String name, int a, int b, int c) {
        switch (name) {
            case "letter": return x.letter(a);
            case "blank": return x.blank();
            case "fault": return x.fault();
            case "sea": return x.sea();
            case "lodger": return x.lodger(a, b);
            case "as": return x.as(a, b);
            case "ship": return x.ship(a, b);
            case "cell": return x.cell(a, b);
            case "sail": return x.sail(a, b);
            case "day": return x.day();
            case "ail": return x.ail(a, b);
            case "let": return x.let(a, b);
            case "hire": return x.hire();
            case "can": return x.can(a, b, c);
            case "soon": return x.soon(a, b, c);
            case "meet": return x.meet(a, b);
            case "needed": return x.needed(a, b);
            case "brick": return x.brick(a, b);
            case "aside": return x.aside(a, b);
            case "see": return x.see(a, b, c == 1);
            case "forget": return x.forget();
            case "drifts": return x.drifts(a, b, c);
            case "image": return x.image();
            case "restore": return x.restore();
            case "count": return x.count(a);
            case "digest": return x.digest();
            default: throw new IllegalArgumentException(name);
        }
    }

    private String pick() {
        int sum = 0;
        for (int weight : WEIGHTS) {
            sum += weight;
        }
        int at = random.nextInt(sum);
        int i = 0;
        while (at >= WEIGHTS[i]) {
            at -= WEIGHTS[i];
            i++;
        }
        return NAMES[i];
    }

    /** A SEA mostly; else one with a letter changed, put in or left out. */
    private String text() {
        StringBuilder text = new StringBuilder();
        for (int lodger = 0; lodger < 4; lodger++) {
            text.append("lpsfg".charAt(random.nextInt(5))).append(random.nextInt(3) == 0 ? random.nextInt(10) : 0);
        }
        cells(text, 1 + random.nextInt(3));
        cells(text, 1 + random.nextInt(6));
        int at = random.nextInt(text.length());
        char letter = "lpsfg0123456789,;x".charAt(random.nextInt(18));
        switch (random.nextInt(10)) {
            case 0: text.setCharAt(at, letter); break;
            case 1: text.insert(at, letter); break;
            case 2: text.deleteCharAt(at); break;
            case 3: text.setLength(at); break;
            default: break;
        }
        return text.toString();
    }

    private void cells(StringBuilder text, int count) {
        int rows = 2 + random.nextInt(5);
        for (int i = 0; i < count; i++) {
            text.append(i == 0 ? ';' : ',').append(random.nextInt(rows)).append(random.nextInt(6));
        }
    }

    private int below(int bound) {
        return random.nextInt(25) == 0 ? ODD[random.nextInt(ODD.length)] : random.nextInt(bound);
    }

    private int first(String name) {
        switch (name) {
            case "letter": return below(128);
            case "lodger": case "as": case "ail": case "let": case "see": return below(4);
            case "cell": return below(36);
            case "drifts": return below(61);
            case "count": return below(12);
            default: return random.nextInt(3) == 0 ? below(3) : random.nextInt(8) == 0 ? 1 : 0;
        }
    }

    private int second(String name) {
        switch (name) {
            case "lodger": return below(6);
            case "as": case "let": case "sail": return below(5);
            case "ship": case "meet": return below(3);
            case "cell": return below(2);
            case "ail": return random.nextBoolean() ? below(41) : below(8);
            case "aside": case "see": return below(21);
            case "drifts": return random.nextInt() & (random.nextInt(20) == 0 ? -1 : Integer.MAX_VALUE);
            default: return below(36);
        }
    }

    private int third(String name) {
        switch (name) {
            case "soon": return random.nextInt(3) == 0 ? 0 : random.nextInt(10) == 0 ? below(20) : 10 + random.nextInt(8);
            case "see": return random.nextInt(2);
            case "drifts": return below(3);
            default: return random.nextBoolean() ? below(41) : below(10);
        }
    }
}
