/** Compares answers with those that are due; a test ends with exit code 1 if one was not. */
final class Due {
    static final int BAD = -2000000001, NO = -2000000002, FULL = -2000000003;
    static final int SPENT = -2000000004, NONE = -2000000005, ENDLESS = -2000000006;

    private static final int MOST_SHOWN = 40;

    private final String test;
    private int asked = 0;
    private int wrong = 0;
    private String part = "";

    Due(String test) {
        this.test = test;
    }

    /** Names what the next comparisons belong to. */
    void part(String name) {
        part = name;
    }

    void is(String call, long got, long want) {
        asked++;
        if (got != want) {
            wrong++;
            if (wrong <= MOST_SHOWN) {
                System.out.println(test + ", " + part + ": " + call + " answered " + got + ", due is " + want);
            }
        }
    }

    void holds(String what, boolean so) {
        is(what, so ? 1 : 0, 1);
    }

    void end() {
        System.out.println(test + ": " + asked + " answers, " + wrong + " not as due");
        if (wrong != 0) {
            System.exit(1);
        }
    }
}
