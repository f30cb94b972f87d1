import java.util.function.Supplier;
import java.util.function.ToLongFunction;

/** What the tests of edges share: the sentence that is tested, calls that must be refused, and bounds of arguments. */
final class Edges {
    private static final Doc DOC = new Doc();
    private static String sentence = "";
    private static int asked = 1;

    /** A call whose argument v is looked at. */
    interface Asking {
        long of(SootTalk x, int v);
    }

    private Edges() {
    }

    /** What follows tests these words of a section of the document (0: Terms). */
    static void sentence(int section, String words) {
        endSentence();
        sentence = section + ", '" + words + "'";
        Due.is(sentence + " stands in the document", DOC.quote(section, words) ? 1 : 0, 1);
    }

    private static void endSentence() {
        Due.is(sentence + " is tested", asked > 0 ? 1 : 0, 1);
        asked = 0;
    }

    static void end() {
        endSentence();
        DOC.tellUnquoted();
        Due.end();
    }

    static void is(String what, long got, long want) {
        asked++;
        Due.is(sentence + ": " + what, got, want);
    }

    /** A refused call changes nothing but status(): all that can be told of the object is as in a twin without it. */
    static void refused(String what, int finding, Supplier<SootTalk> made, ToLongFunction<SootTalk> call) {
        SootTalk x = made.get();
        SootTalk twin = made.get();
        is(what, call.applyAsLong(x), finding);
        for (int which = 0; which < 7; which++) {
            int more = which == Due.BEYOND - finding ? 1 : 0;
            is(what + ", status " + which, x.status(which), twin.status(which) + more);
        }
        is(what + ", status of all", x.status(-1), twin.status(-1) + 1);
        same(what, x, twin);
    }

    static void refused(String what, int finding, ToLongFunction<SootTalk> call) {
        refused(what, finding, Edges::furnished, call);
    }

    /** A call that tells something changes nothing, status() neither. */
    static void changesNothing(String what, Supplier<SootTalk> made, ToLongFunction<SootTalk> call) {
        SootTalk x = made.get();
        SootTalk twin = made.get();
        call.applyAsLong(x);
        is(what + ", findings", x.status(-1), twin.status(-1));
        same(what, x, twin);
    }

    private static void same(String what, SootTalk x, SootTalk twin) {
        asked++;
        String got = State.of(x);
        String want = State.of(twin);
        Due.is(sentence + ": " + what + " left " + got + ", due is " + want, got.equals(want) ? 1 : 0, 1);
    }

    /** An argument may be from .. to: both ends are taken; what is too small or too large, or wraps around, is not. */
    static void bounds(String what, int from, int to, Supplier<SootTalk> made, Asking call) {
        int[] tried = {from - 1, to + 1, Integer.MIN_VALUE, Integer.MAX_VALUE, from + (1 << 8), from + (1 << 16),
            from + (1 << 24), from - (1 << 8), from - (1 << 16), from + Integer.MIN_VALUE, ~from, -to - 1};
        for (int v : tried) {
            if (v >= from && v <= to) continue;
            refused(what + " " + v, Due.BEYOND, made, x -> call.of(x, v));
        }
        for (int end : new int[] {from, to}) {
            SootTalk x = made.get();
            int before = x.status(0);
            is(what + " " + end + " is BEYOND", call.of(x, end) == Due.BEYOND ? 1 : 0, 0);
            is(what + " " + end + " adds to status", x.status(0), before);
        }
    }

    static void bounds(String what, int from, int to, Asking call) {
        bounds(what, from, to, Edges::furnished, call);
    }

    /** Flues 0 (plain), 1 (crooked) and 2 (jackdaw), with all that an object can have; sheet 3 is missing. */
    static SootTalk furnished() {
        SootTalk x = Due.withFlues(0, 4);
        x.say(0, 9, 2);
        x.image();
        x.turn(1, 1);
        x.flue(5);
        int[][] said = {{0, 1, 7}, {0, 2, 7}, {0, 3, 0}, {1, 12, 0}, {2, 5, 1}};
        for (int[] s : said) x.say(s[0], s[1], s[2]);
        x.cake(0, 0, 1, 6);
        x.damp(4);
        x.days(3);
        x.sheet(0, 8, 3);
        x.write(0, 0, 1);
        x.write(0, 2, -1);
        x.sheet(1, 16, 2);
        x.write(1, 1, 300);
        x.sheet(2, 64, 4);
        x.write(2, 3, 1L << 40);
        Due.feed(x, "shut;say 0 1");
        x.as(0, 5);
        return x;
    }

    /** As furnished(), with all six flues. */
    static SootTalk withSixFlues() {
        SootTalk x = furnished();
        for (int kind = 2; kind < 5; kind++) x.flue(kind);
        return x;
    }

    /** As furnished(), but on another day. */
    static SootTalk onDay(int day) {
        SootTalk x = furnished();
        passTo(x, day);
        return x;
    }

    static void passTo(SootTalk x, int day) {
        for (int left = day - x.now(0); left > 0; left -= 60) x.days(Math.min(60, left));
    }

    /**
     * One plain flue with its 48 layers, all loose: words 0, 1, .. 15, 0, .. as they were said, from bend 7 down. In
     * damp 9 a brush that is put up a day late brings less.
     */
    static SootTalk full() {
        SootTalk x = Due.withFlues(0);
        for (int i = 0; i < 48; i++) x.say(0, i % 16, 0);
        x.damp(9);
        return x;
    }
}
