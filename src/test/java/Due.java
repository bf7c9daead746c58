/** What the tests share: they compare answers with what is due, and end with exit code 1 if one differs. */
final class Due {
    private final String name;
    private int right = 0;
    private int wrong = 0;

    Due(String name) {
        this.name = name;
    }

    void is(String call, long got, long want) {
        if (got == want) {
            right++;
            return;
        }
        wrong++;
        System.out.println(name + ": " + call + " answered " + got + ", due is " + want);
    }

    void isTrue(String what, boolean holds) {
        is(what, holds ? 1 : 0, 1);
    }

    void end() {
        System.out.println(name + ": " + right + " answers as due, " + wrong + " not");
        if (wrong != 0 || right == 0) {
            System.exit(1);
        }
    }

    static FourLodgers written(String text) {
        FourLodgers x = new FourLodgers();
        write(x, text);
        return x;
    }

    static void write(FourLodgers x, String text) {
        for (int i = 0; i < text.length(); i++) {
            x.letter(text.charAt(i));
        }
    }

    /** A new object with this SEA, after so many calls of day(). */
    static FourLodgers sea(String text, int days) {
        FourLodgers x = written(text);
        if (x.sea() < 1) {
            throw new IllegalStateException("no SEA: " + text);
        }
        pass(x, days);
        return x;
    }

    static FourLodgers sea(String text) {
        return sea(text, 0);
    }

    static void pass(FourLodgers x, int days) {
        for (int i = 0; i < days; i++) {
            x.day();
        }
    }
}
