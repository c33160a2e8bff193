/** Counts the answers of one test that are not as due. */
final class Check {
    static final int BAD = -1, NO = -2, FULL = -3, NONE = -4;
    static final int[] WILD = {Integer.MIN_VALUE, -65536, -5, -1, 100000, Integer.MAX_VALUE};

    private final String test;
    private int calls;
    private int wrong;

    Check(String test) {
        this.test = test;
    }

    void due(String call, long got, long want) {
        calls++;
        if (got != want) {
            wrong++;
            System.out.println(test + ": " + call + " answered " + got + ", due is " + want);
        }
    }

    void end() {
        System.out.println(test + ": " + calls + " answers, " + wrong + " not as due");
        if (wrong != 0 || calls == 0) {
            System.exit(1);
        }
    }

    static void write(NumberEleven x, String text) {
        for (int i = 0; i < text.length(); i++) {
            x.write(text.charAt(i));
        }
    }

    static NumberEleven laid(String text) {
        NumberEleven x = new NumberEleven();
        write(x, text);
        x.lay();
        return x;
    }
}
