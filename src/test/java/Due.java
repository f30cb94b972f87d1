import java.nio.charset.StandardCharsets;

/** What the tests share: answers held against those that are due, and texts for the tape. */
final class Due {
    static final int BEYOND = -1000000001;
    static final int FULL = -1000000002;
    static final int KIND = -1000000003;
    static final int NONE = -1000000004;
    static final int STATE = -1000000005;
    static final int MISSING = -1000000006;
    static final int SIZE = -1000000007;

    /** Ints that overflow, wrap or come near a bound where they are not looked at. */
    static final int[] WILD = {Integer.MIN_VALUE, Integer.MIN_VALUE + 1, -65536, -10, -2, -1,
        1 << 16, 1 << 30, Integer.MAX_VALUE - 1, Integer.MAX_VALUE};

    private static int wrong = 0;
    private static int asked = 0;

    private Due() {
    }

    static void is(String what, long got, long want) {
        asked++;
        if (got == want) return;
        wrong++;
        System.out.println(what + " answered " + got + ", due is " + want);
    }

    /** The answers in a row. */
    static void are(String what, long[] got, long... want) {
        is(what + ": how many", got.length, want.length);
        for (int i = 0; i < got.length && i < want.length; i++) is(what + ", row " + i, got[i], want[i]);
    }

    static void end() {
        System.out.println(wrong == 0 ? asked + " answers are as due" : wrong + " answers are not as due");
        if (wrong != 0) System.exit(1);
    }

    static SootTalk withFlues(int... kinds) {
        SootTalk x = new SootTalk();
        for (int kind : kinds) x.flue(kind);
        return x;
    }

    static void feed(SootTalk x, String text) {
        for (byte b : text.getBytes(StandardCharsets.ISO_8859_1)) x.feed(b, 1);
    }

    static int house(SootTalk x, String text) {
        feed(x, text);
        return x.house();
    }

    /** A set of words, flues or bends. */
    static int set(int... members) {
        int set = 0;
        for (int m : members) set |= 1 << m;
        return set;
    }
}
