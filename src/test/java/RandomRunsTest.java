import java.lang.reflect.InvocationTargetException;
import java.lang.reflect.Method;
import java.util.Arrays;
import java.util.Random;

/** Promises 1 to 41: runs of 512 calls, the same ones each time, on SootTalk and on Model. */
final class RandomRunsTest {
    private static final int RUNS = 1500;
    private static final int CALLS = 512;

    /** What each argument of a call is; the letters are told by ordinary(). */
    private static final String[] CALLS_AND_ARGUMENTS = {
        "flue k", "of f5", "bend fb3", "layer fbL2", "turn fk", "as fk", "damp d", "rises fwv", "say fwv", "cake fbLd",
        "days n", "now 5", "sweep fbs", "brought fbs", "order fbsO", "on fbsN", "reach fWs", "strength fbW", "secret fWW",
        "fewest Ws", "where w", "lost fws", "covers fww", "kind fVv", "best Vv", "richest f", "feed ?c", "wipe ", "house ",
        "sheet SBi", "write Sil", "copy SiSii", "lays Sf", "book Sf", "read Sf", "image ", "undo ", "tear ", "count 4",
        "status t"};

    private static final String[] PIECES = {"flue", "crooked", "wide", "shut", "queens", "jackdaw", "say", "layer", "damp",
        "voice", "cake", ";", " ", "0", "1", "2", "7", "8", "9", "10", "15", "16", "999", "1000", "00", "x", "$", "A"};

    private final Random random;
    private final Method[] methods;
    private boolean rarelyGone;

    private RandomRunsTest(int seed, Method[] methods) {
        this.random = new Random(seed);
        this.methods = methods;
    }

    public static void main(String[] args) throws IllegalAccessException, InvocationTargetException {
        Method[] methods = new Method[CALLS_AND_ARGUMENTS.length];
        for (int i = 0; i < methods.length; i++) {
            String name = CALLS_AND_ARGUMENTS[i].substring(0, CALLS_AND_ARGUMENTS[i].indexOf(' '));
            for (Method m : SootTalk.class.getDeclaredMethods()) if (m.getName().equals(name)) methods[i] = m;
        }
        for (int run = 0; run < RUNS; run++) new RandomRunsTest(run, methods).run(run);
        Due.end();
    }

    private void run(int run) throws IllegalAccessException, InvocationTargetException {
        SootTalk x = new SootTalk();
        Model model = new Model();
        rarelyGone = run % 2 == 0;
        for (int i = 0; i < CALLS; i++) {
            int which = random.nextInt(methods.length);
            // half of the runs lay much and sweep little, so that bends fill up
            if (rarelyGone && random.nextInt(3) == 0) which = random.nextInt(5) == 0 ? 32 : 8;
            if (i < 12 && random.nextInt(2) == 0) which = 0;
            if (CALLS_AND_ARGUMENTS[which].startsWith("sweep") && rarelyGone && random.nextInt(4) > 0) which = 13;
            if (CALLS_AND_ARGUMENTS[which].startsWith("house") && i + 50 < CALLS) i += tell(x, model, run, i);
            callBoth(x, model, run, i, which);
        }
    }

    private void callBoth(SootTalk x, Model model, int run, int i, int which)
            throws IllegalAccessException, InvocationTargetException {
        String call = CALLS_AND_ARGUMENTS[which];
        String name = call.substring(0, call.indexOf(' '));
        String letters = call.substring(name.length() + 1);
        int[] ints = new int[letters.length()];
        Object[] all = new Object[letters.length()];
        long wide = wideNumber();
        for (int k = 0; k < letters.length(); k++) {
            ints[k] = argument(letters.charAt(k));
            all[k] = letters.charAt(k) == 'l' ? (Object) wide : (Object) ints[k];
        }
        long got = ((Number) methods[which].invoke(x, all)).longValue();
        Due.is("run " + run + ", call " + i + ": " + name + Arrays.toString(all), got, model.call(name, ints, wide));
    }

    /** A text that is likely to be right comes to the tape: how many calls that took. */
    private int tell(SootTalk x, Model model, int run, int i) {
        String text = text();
        int calls = 0;
        if (random.nextInt(8) > 0) {
            Due.is("run " + run + ": wipe()", x.wipe(), model.call("wipe", new int[0], 0));
            calls++;
        }
        for (int at = 0; at < text.length(); at += 4) {
            String part = text.substring(at, Math.min(text.length(), at + 4));
            int bytes = 0;
            for (char c : part.toCharArray()) bytes = bytes << 8 | c;
            int[] a = {bytes, part.length()};
            Due.is("run " + run + ": feed of " + part, x.feed(a[0], a[1]), model.call("feed", a, 0));
            calls++;
        }
        return calls;
    }

    private String text() {
        StringBuilder text = new StringBuilder();
        int items = 1 + random.nextInt(6);
        for (int i = 0; i < items; i++) {
            if (i > 0) text.append(random.nextBoolean() ? ";" : " ; ");
            text.append(item());
        }
        if (random.nextInt(3) == 0) {
            int at = random.nextInt(text.length() + 1);
            text.insert(at, PIECES[random.nextInt(PIECES.length)]);
        }
        if (random.nextInt(6) == 0) text.setLength(random.nextInt(text.length() + 1));
        return text.toString();
    }

    private String item() {
        int flue = random.nextInt(4);
        int word = random.nextInt(random.nextInt(20) == 0 ? 18 : 16);
        switch (random.nextInt(4)) {
            case 0: return PIECES[random.nextInt(6)];
            case 1: return "say " + flue + " " + word + (random.nextBoolean() ? "" : "voice " + random.nextInt(10));
            case 2: return "layer " + flue + " " + random.nextInt(8) + " " + word
                + (random.nextBoolean() ? "" : " cake" + random.nextInt(10));
            default: return "damp " + random.nextInt(10);
        }
    }

    private long wideNumber() {
        switch (random.nextInt(4)) {
            case 0: return random.nextLong();
            case 1: return random.nextInt(600) - 300;
            default: return random.nextInt(18) - 1;
        }
    }

    private int argument(char letter) {
        if (random.nextInt(150) == 0) return Due.WILD[random.nextInt(Due.WILD.length)];
        return ordinary(letter);
    }

    /** Arguments that may be, and the ones next to them. */
    private int ordinary(char letter) {
        boolean edge = random.nextInt(40) == 0;
        switch (letter) {
            case 'k': return edge ? random.nextInt(8) - 1 : random.nextInt(6);
            case 'f': return edge ? random.nextInt(8) - 1 : random.nextInt(4);
            case 'b': return edge ? random.nextInt(10) - 1 : random.nextInt(8);
            case 'w': return edge ? random.nextInt(18) - 1 : random.nextInt(rarelyGone ? 6 : 16);
            case 'v': return edge ? random.nextInt(12) - 1 : random.nextInt(10);
            case 'd': return edge ? random.nextInt(12) - 1 : random.nextInt(10);
            case 's': return edge ? random.nextInt(12) - 1 : 1 + random.nextInt(9);
            case 'L': return random.nextInt(8) - 1;
            case 'O': return random.nextInt(14) - 1;
            case 'n': return edge ? random.nextInt(63) - 1 : 1 + random.nextInt(3);
            case 'N': return edge ? random.nextInt(63) - 1 : random.nextInt(5);
            case 'W': return edge ? random.nextInt(65538) - 1 : fewBits();
            case 'V': return random.nextInt(65538) - 1;
            case 'S': return edge ? random.nextInt(6) - 1 : random.nextInt(4);
            case 'B': return edge ? random.nextInt(70) - 2 : new int[] {0, 8, 8, 16, 16, 64, 64}[random.nextInt(7)];
            case 'i': return edge ? random.nextInt(44) - 2 : random.nextInt(6);
            case 'c': return random.nextInt(6);
            case 't': return random.nextInt(10) - 2;
            case '?': return random.nextInt();
            default: return random.nextInt(letter - '0' + 2) - 1;
        }
    }

    private int fewBits() {
        int set = 0;
        for (int i = random.nextInt(4); i > 0; i--) set |= 1 << random.nextInt(rarelyGone ? 6 : 16);
        return set;
    }
}
