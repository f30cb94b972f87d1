/**
 * A house's flues and what has been said in them: see ../shared/DOC.md, whose promises the methods bear by name.
 *
 * All rows are made once, with the object: no call makes another one, because all calls of a run share one room.
 */
public final class SootTalk {
    private static final int BEYOND = -1000000001;
    private static final int FULL = -1000000002;
    private static final int KIND = -1000000003;
    private static final int NONE = -1000000004;
    private static final int STATE = -1000000005;
    private static final int MISSING = -1000000006;
    private static final int SIZE = -1000000007;
    private static final int FINDINGS = 7;
    /** Answered by tests of arguments that found nothing; no finding is 0. */
    private static final int FINE = 0;

    private static final int KINDS = 6;
    private static final int FLUES = 6;
    private static final int BENDS = 8;
    private static final int TOP_BEND = 7;
    private static final int LAYERS = 6;
    private static final int WORDS = 16;
    private static final int VOICES = 10;
    private static final int PLAIN_VOICE = 5;
    private static final int DAMPS = 10;
    private static final int MOST_CAKE = 9;
    private static final int MOST_STRENGTH = 9;
    private static final int LAST_DAY = 9999;
    private static final int MOST_DAYS = 60;
    private static final int GONE = -1;

    private final Stack stack = new Stack();
    private final Stack kept = new Stack();
    private boolean isKept = false;
    private final Brush brush = new Brush();
    private final Trial trial = new Trial();
    private final Tape tape = new Tape();
    private final Text text = new Text();
    private final Sheets sheets = new Sheets();
    private final int[] findings = new int[FINDINGS];
    private final int[] sets = new int[FLUES];

    public SootTalk() {
    }

    // ---- flues

    public int flue(int kind) {
        if (!isKind(kind)) return found(BEYOND);
        if (stack.flues >= FLUES) return found(FULL);
        return stack.addFlue(kind);
    }

    public int of(int flue, int what) {
        if (!stack.hasFlue(flue)) return found(BEYOND);
        switch (what) {
            case 0: return stack.kindOf(flue);
            case 1: return stack.layersIn(flue);
            case 2: return stack.wordsIn(flue);
            case 3: return stack.bareBends(flue);
            case 4: return Kinds.cakes(stack.kindOf(flue), stack.damp);
            default: return found(BEYOND);
        }
    }

    public int bend(int flue, int bend, int what) {
        if (!isPlace(flue, bend)) return found(BEYOND);
        switch (what) {
            case 0: return stack.height(flue, bend);
            case 1: return Kinds.holds(stack.kindOf(flue), bend);
            case 2: return stack.wordsOn(flue, bend);
            default: return found(BEYOND);
        }
    }

    public int layer(int flue, int bend, int k, int what) {
        if (!isPlace(flue, bend) || !isBelow(what, 2)) return found(BEYOND);
        if (!stack.hasLayer(flue, bend, k)) return found(NONE);
        return what == 0 ? stack.wordAt(flue, bend, k) : stack.cakeAt(flue, bend, k);
    }

    public int turn(int flue, int kind) {
        if (!stack.hasFlue(flue) || !isKind(kind)) return found(BEYOND);
        int was = stack.kindOf(flue);
        stack.setKind(flue, kind);
        return was;
    }

    public int as(int flue, int kind) {
        if (!stack.hasFlue(flue) || !isKind(kind)) return found(BEYOND);
        if (!Kinds.isOrIsUnder(stack.kindOf(flue), kind)) return found(KIND);
        return stack.layersIn(flue);
    }

    public int damp(int v) {
        if (!isBelow(v, DAMPS)) return found(BEYOND);
        int was = stack.damp;
        stack.damp = v;
        return was;
    }

    // ---- what is said

    public int rises(int flue, int word, int voice) {
        if (!stack.hasFlue(flue) || !isWord(word) || !isVoice(voice)) return found(BEYOND);
        int to = Kinds.rise(stack.kindOf(flue), word, voice, stack.day);
        return to == GONE ? found(NONE) : to;
    }

    public int say(int flue, int word, int voice) {
        if (!stack.hasFlue(flue) || !isWord(word) || !isVoice(voice)) return found(BEYOND);
        return stack.speak(flue, word, voice);
    }

    public int cake(int flue, int bend, int k, int v) {
        if (!isPlace(flue, bend) || !isBelow(v, MOST_CAKE + 1)) return found(BEYOND);
        if (!stack.hasLayer(flue, bend, k)) return found(NONE);
        int was = stack.cakeAt(flue, bend, k);
        stack.setCake(flue, bend, k, v);
        return was;
    }

    public int days(int n) {
        if (n < 1 || n > MOST_DAYS) return found(BEYOND);
        if (stack.day + n > LAST_DAY) return found(STATE);
        stack.passDays(n);
        return stack.layersOfCake(MOST_CAKE);
    }

    public int now(int what) {
        switch (what) {
            case 0: return stack.day;
            case 1: return stack.damp;
            case 2: return stack.allLayers();
            case 3: return stack.allWords();
            case 4: return stack.allCake();
            default: return found(BEYOND);
        }
    }

    // ---- brushes

    public int sweep(int flue, int bend, int strength) {
        if (!isPlace(flue, bend) || !isStrength(strength)) return found(BEYOND);
        return stack.takeDown(flue, bend, strength);
    }

    public int brought(int flue, int bend, int strength) {
        if (!isPlace(flue, bend) || !isStrength(strength)) return found(BEYOND);
        brush.putUp(stack, flue, bend, strength, 0);
        return brush.set;
    }

    public int order(int flue, int bend, int strength, int k) {
        if (!isPlace(flue, bend) || !isStrength(strength) || k < 0) return found(BEYOND);
        brush.putUp(stack, flue, bend, strength, 0);
        return k < brush.number ? brush.word(k) : found(NONE);
    }

    public int on(int flue, int bend, int strength, int n) {
        if (!isPlace(flue, bend) || !isStrength(strength) || !isBelow(n, MOST_DAYS + 1)) return found(BEYOND);
        brush.putUp(stack, flue, bend, strength, n);
        return brush.number;
    }

    // ---- what is best

    public int reach(int flue, int words, int strength) {
        if (!stack.hasFlue(flue) || !isSet(words) || !isStrength(strength)) return found(BEYOND);
        for (int b = 0; b < BENDS; b++) {
            brush.putUp(stack, flue, b, strength, 0);
            if (brush.brings(words)) return b;
        }
        return found(NONE);
    }

    public int strength(int flue, int bend, int words) {
        if (!isPlace(flue, bend) || !isSet(words)) return found(BEYOND);
        for (int s = 1; s <= MOST_STRENGTH; s++) {
            brush.putUp(stack, flue, bend, s, 0);
            if (brush.brings(words)) return s;
        }
        return found(NONE);
    }

    public int secret(int flue, int words, int others) {
        if (!stack.hasFlue(flue) || !isSet(words) || !isSet(others)) return found(BEYOND);
        for (int b = 0; b < BENDS; b++) {
            for (int s = 1; s <= MOST_STRENGTH; s++) {
                brush.putUp(stack, flue, b, s, 0);
                if (brush.brings(words) && (brush.set & others) == 0) return 10 * b + s;
            }
        }
        return found(NONE);
    }

    public int fewest(int words, int s) {
        if (!isSet(words) || !isStrength(s)) return found(BEYOND);
        for (int f = 0; f < stack.flues && f < FLUES; f++) {
            brush.putUp(stack, f, TOP_BEND, s, 0);
            sets[f] = brush.set;
        }
        int best = GONE;
        for (int flues = 0; flues < 1 << stack.flues; flues++) {
            boolean isFewer = best == GONE || Integer.bitCount(flues) < Integer.bitCount(best);
            if (isFewer && (words & ~joined(flues)) == 0) best = flues;
        }
        return best == GONE ? found(NONE) : best;
    }

    public int where(int word) {
        if (!isWord(word)) return found(BEYOND);
        int flues = 0;
        for (int f = 0; f < stack.flues; f++) {
            if (hasBit(stack.wordsIn(f), word)) flues |= 1 << f;
        }
        return flues;
    }

    public int lost(int flue, int word, int strength) {
        if (!stack.hasFlue(flue) || !isWord(word) || !isStrength(strength)) return found(BEYOND);
        for (int n = 0; n <= MOST_DAYS; n++) {
            brush.putUp(stack, flue, TOP_BEND, strength, n);
            if (!hasBit(brush.set, word)) return n;
        }
        return found(NONE);
    }

    public int covers(int flue, int word, int other) {
        if (!stack.hasFlue(flue) || !isWord(word) || !isWord(other)) return found(BEYOND);
        int lowest = stack.lowestWith(flue, other);
        if (lowest == GONE) return found(NONE);
        for (int v = 0; v < VOICES; v++) {
            if (stack.landing(flue, word, v) == lowest) return v;
        }
        return found(NONE);
    }

    public int kind(int flue, int words, int voice) {
        if (!stack.hasFlue(flue) || !isSet(words) || !isVoice(voice)) return found(BEYOND);
        int best = 0;
        int most = GONE;
        for (int k = 0; k < KINDS; k++) {
            trial.speakAll(stack, flue, k, words, voice);
            if (trial.laid > most) {
                most = trial.laid;
                best = k;
            }
        }
        return best;
    }

    public int best(int words, int voice) {
        if (!isSet(words) || !isVoice(voice)) return found(BEYOND);
        if (stack.flues == 0) return found(NONE);
        int best = 0;
        int highest = 0;
        for (int f = 0; f < stack.flues; f++) {
            trial.speakAll(stack, f, stack.kindOf(f), words, voice);
            if (f == 0 || trial.bendsAdded > highest) {
                highest = trial.bendsAdded;
                best = f;
            }
        }
        return best;
    }

    public int richest(int flue) {
        if (!stack.hasFlue(flue)) return found(BEYOND);
        int best = 0;
        int most = 0;
        for (int b = 0; b < BENDS; b++) {
            int unlike = Integer.bitCount(stack.wordsOn(flue, b));
            if (unlike > most) {
                most = unlike;
                best = b;
            }
        }
        return most == 0 ? found(NONE) : best;
    }

    // ---- the text

    public int feed(int bytes, int n) {
        if (n < 1 || n > 4) return found(BEYOND);
        if (!tape.hasRoom(n)) return found(FULL);
        for (int i = n - 1; i >= 0; i--) tape.add(bytes >> 8 * i & 255);
        return tape.length;
    }

    public int wipe() {
        int had = tape.length;
        tape.length = 0;
        return had;
    }

    public int house() {
        // judged as a whole first, so that a text with a fault has changed nothing
        int answer = text.goThrough(tape, stack, false);
        if (answer >= 0) answer = text.goThrough(tape, stack, true);
        tape.length = 0;
        return answer;
    }

    // ---- sheets

    public int sheet(int s, int bits, int n) {
        if (!Sheets.isSheet(s) || !Sheets.isWidth(bits)) return found(BEYOND);
        if (n < 0) return found(SIZE);
        if (n > Sheets.LONGEST) return found(BEYOND);
        return sheets.layOut(s, bits, n);
    }

    public long write(int s, int i, long v) {
        int finding = sheetFinding(s);
        if (finding != FINE) return finding;
        if (!isBelow(i, sheets.length(s))) return found(BEYOND);
        long was = sheets.number(s, i);
        sheets.put(s, i, v);
        return was;
    }

    public int copy(int s, int from, int t, int to, int n) {
        if (!Sheets.isSheet(s) || !Sheets.isSheet(t)) return found(BEYOND);
        if (sheets.isMissing(s) || sheets.isMissing(t)) return found(MISSING);
        if (sheets.width(s) != sheets.width(t)) return found(KIND);
        if (!sheets.hasRange(s, from, n) || !sheets.hasRange(t, to, n)) return found(BEYOND);
        sheets.move(s, from, t, to, n);
        return n;
    }

    public int lays(int s, int flue) {
        int finding = sheetAndFlueFinding(s, flue);
        if (finding != FINE) return finding;
        int laid = 0;
        for (int i = 0; i < sheets.length(s); i++) {
            long word = sheets.number(s, i);
            if (word < 0 || word >= WORDS) continue;
            if (stack.speak(flue, (int) word, PLAIN_VOICE) != GONE) laid++;
        }
        return laid;
    }

    public int book(int s, int flue) {
        int finding = sheetAndFlueFinding(s, flue);
        if (finding != FINE) return finding;
        brush.putUp(stack, flue, TOP_BEND, MOST_STRENGTH, 0);
        for (int i = 0; i < sheets.length(s); i++) {
            sheets.put(s, i, i < brush.number ? brush.word(i) : -1);
        }
        return brush.number;
    }

    public int read(int s, int flue) {
        int finding = sheetAndFlueFinding(s, flue);
        if (finding != FINE) return finding;
        int pairs = 0;
        for (int b = 0; b < BENDS; b++) {
            for (int strength = 1; strength <= MOST_STRENGTH; strength++) {
                brush.putUp(stack, flue, b, strength, 0);
                if (isJustBrought(s)) pairs++;
            }
        }
        return pairs;
    }

    // ---- images

    public int image() {
        kept.become(stack);
        isKept = true;
        return 1;
    }

    public int undo() {
        if (!isKept) return found(NONE);
        stack.become(kept);
        return stack.flues;
    }

    public int tear() {
        int was = isKept ? 1 : 0;
        isKept = false;
        return was;
    }

    public int count(int what) {
        switch (what) {
            case 0: return stack.flues;
            case 1: return tape.length;
            case 2: return stack.layersOfCake(0);
            case 3: return stack.fullBends();
            default: return found(BEYOND);
        }
    }

    public int status(int which) {
        if (which < -1 || which >= FINDINGS) return found(BEYOND);
        if (which >= 0) return findings[which];
        int all = 0;
        for (int i = 0; i < FINDINGS; i++) all += findings[i];
        return all;
    }

    // ---- what the acts share

    /** Every finding is answered through here, so that status() misses none. */
    private int found(int finding) {
        int which = BEYOND - finding;
        if (which >= 0 && which < FINDINGS) findings[which]++;
        return finding;
    }

    private int sheetFinding(int s) {
        if (!Sheets.isSheet(s)) return found(BEYOND);
        return sheets.isMissing(s) ? found(MISSING) : FINE;
    }

    private int sheetAndFlueFinding(int s, int flue) {
        int finding = sheetFinding(s);
        if (finding != FINE) return finding;
        return stack.hasFlue(flue) ? FINE : found(BEYOND);
    }

    private boolean isPlace(int flue, int bend) {
        return stack.hasFlue(flue) && isBend(bend);
    }

    /** What is in the rows of fewest() for a set of flues, taken together. */
    private int joined(int flues) {
        int words = 0;
        for (int f = 0; f < FLUES; f++) {
            if (hasBit(flues, f)) words |= sets[f];
        }
        return words;
    }

    private boolean isJustBrought(int s) {
        if (sheets.length(s) != brush.number) return false;
        for (int i = 0; i < brush.number; i++) {
            if (sheets.number(s, i) != brush.word(i)) return false;
        }
        return true;
    }

    private static boolean isBelow(int n, int bound) {
        return n >= 0 && n < bound;
    }

    private static boolean isKind(int kind) {
        return isBelow(kind, KINDS);
    }

    private static boolean isBend(int bend) {
        return bend >= 0 && bend < BENDS;
    }

    private static boolean isWord(int word) {
        return isBelow(word, WORDS);
    }

    private static boolean isSet(int words) {
        return isBelow(words, 1 << WORDS);
    }

    private static boolean isVoice(int voice) {
        return isBelow(voice, VOICES);
    }

    private static boolean isStrength(int strength) {
        return strength >= 1 && strength <= MOST_STRENGTH;
    }

    private static boolean hasBit(int set, int bit) {
        return (set >> bit & 1) == 1;
    }

    /** What flues of each kind do. A kind says only what it does unlike the kind above it. */
    private static final class Kinds {
        private static final int CROOKED = 1;
        private static final int WIDE = 2;
        private static final int SHUT = 3;
        private static final int QUEENS = 4;
        private static final int JACKDAW = 5;
        private static final int PLOT = 15;
        private static final int[] ABOVE = {-1, 0, 0, 0, 1, 2};

        static boolean isOrIsUnder(int kind, int other) {
            int k = kind;
            for (int i = 0; i < KINDS && k >= 0 && k < ABOVE.length; i++) {
                if (k == other) return true;
                k = ABOVE[k];
            }
            return false;
        }

        /** The bend, or GONE. */
        static int rise(int kind, int word, int voice, int day) {
            int plain = Math.max(0, TOP_BEND - voice);
            int crooked = Math.min(plain, word % BENDS);
            int wide = Math.max(0, plain - 2);
            switch (kind) {
                case CROOKED: return crooked;
                case WIDE: return wide;
                case SHUT: return 0;
                case QUEENS: return word == PLOT ? TOP_BEND : crooked;
                case JACKDAW: return day % 4 == 2 ? GONE : wide;
                default: return plain;
            }
        }

        static int holds(int kind, int bend) {
            int crooked = bend % 2 == 1 ? LAYERS - 2 : LAYERS;
            int wide = LAYERS / 2;
            switch (kind) {
                case CROOKED: return crooked;
                case WIDE: return wide;
                case QUEENS: return crooked < LAYERS ? crooked + 1 : LAYERS;
                case JACKDAW: return bend == TOP_BEND ? wide + 2 : wide;
                default: return LAYERS;
            }
        }

        static int cakes(int kind, int damp) {
            int plain = damp / 3;
            int crooked = damp > 5 ? plain + 1 : plain;
            switch (kind) {
                case CROOKED: return crooked;
                case SHUT: return 2 * plain;
                case QUEENS: return crooked;
                case JACKDAW: return Math.max(0, plain - 1);
                default: return plain;
            }
        }

        /** The name in the text of a house. */
        static String name(int kind) {
            switch (kind) {
                case CROOKED: return "crooked";
                case WIDE: return "wide";
                case SHUT: return "shut";
                case QUEENS: return "queens";
                case JACKDAW: return "jackdaw";
                default: return "flue";
            }
        }

        /** Where a word that rises to a bend finds room, with the heights of the flue's bends from a place of a row on. */
        static int settle(int kind, int bend, int[] heights, int from) {
            for (int b = Math.min(bend, TOP_BEND); b >= 0; b--) {
                int at = from + b;
                if (at >= 0 && at < heights.length && heights[at] < holds(kind, b)) return b;
            }
            return GONE;
        }
    }

    /** All that section 1 of the terms tells but the tape. Callers have tested flues and bends. */
    private static final class Stack {
        int day = 0;
        int damp = 0;
        int flues = 0;
        private final int[] kinds = new int[FLUES];
        private final int[] heights = new int[FLUES * BENDS];
        // the layers of a bend stand side by side from the lowest on: to lay and to sweep moves none
        private final int[] words = new int[FLUES * BENDS * LAYERS];
        private final int[] cakes = new int[FLUES * BENDS * LAYERS];

        void become(Stack other) {
            day = other.day;
            damp = other.damp;
            flues = other.flues;
            System.arraycopy(other.kinds, 0, kinds, 0, kinds.length);
            System.arraycopy(other.heights, 0, heights, 0, heights.length);
            System.arraycopy(other.words, 0, words, 0, words.length);
            System.arraycopy(other.cakes, 0, cakes, 0, cakes.length);
        }

        boolean hasFlue(int flue) {
            return flue >= 0 && flue < flues && flue < FLUES;
        }

        int addFlue(int kind) {
            if (flues >= FLUES) return GONE;
            kinds[flues] = kind;
            for (int b = 0; b < BENDS; b++) heights[flues * BENDS + b] = 0;
            flues++;
            return flues - 1;
        }

        int kindOf(int flue) {
            return hasFlue(flue) ? kinds[flue] : 0;
        }

        void setKind(int flue, int kind) {
            if (hasFlue(flue)) kinds[flue] = kind;
        }

        int height(int flue, int bend) {
            return hasFlue(flue) && isBend(bend) ? heights[flue * BENDS + bend] : 0;
        }

        boolean hasLayer(int flue, int bend, int k) {
            return k >= 0 && k < height(flue, bend);
        }

        /** The place of a layer in the rows; it is one only if there is such a layer. */
        private int place(int flue, int bend, int k) {
            return (flue * BENDS + bend) * LAYERS + height(flue, bend) - 1 - k;
        }

        int wordAt(int flue, int bend, int k) {
            return hasLayer(flue, bend, k) ? words[place(flue, bend, k)] : 0;
        }

        int cakeAt(int flue, int bend, int k) {
            return hasLayer(flue, bend, k) ? cakes[place(flue, bend, k)] : 0;
        }

        void setCake(int flue, int bend, int k, int cake) {
            if (hasLayer(flue, bend, k)) cakes[place(flue, bend, k)] = cake;
        }

        /** A layer on top, if the bend holds it. */
        void lay(int flue, int bend, int word, int cake) {
            if (!hasFlue(flue) || !isBend(bend)) return;
            int height = height(flue, bend);
            if (height >= LAYERS || height >= Kinds.holds(kindOf(flue), bend)) return;
            int at = (flue * BENDS + bend) * LAYERS + height;
            words[at] = word;
            cakes[at] = cake;
            heights[flue * BENDS + bend] = height + 1;
        }

        /** The bend to which a word said now would come, or GONE. */
        int landing(int flue, int word, int voice) {
            int kind = kindOf(flue);
            return Kinds.settle(kind, Kinds.rise(kind, word, voice, day), heights, flue * BENDS);
        }

        int speak(int flue, int word, int voice) {
            int bend = landing(flue, word, voice);
            if (bend != GONE) lay(flue, bend, word, 0);
            return bend;
        }

        void passDays(int n) {
            for (int f = 0; f < flues; f++) {
                int more = n * Kinds.cakes(kindOf(f), damp);
                for (int b = 0; b < BENDS; b++) {
                    for (int k = 0; k < height(f, b); k++) {
                        setCake(f, b, k, Math.min(MOST_CAKE, cakeAt(f, b, k) + more));
                    }
                }
            }
            day += n;
        }

        /** How many layers of a bend a brush brings, if each had so much more cake: none is stronger than 9, so none is cut. */
        int loose(int flue, int bend, int strength, int more) {
            int height = height(flue, bend);
            int top = place(flue, bend, 0);
            for (int k = 0; k < height; k++) {
                if (cakes[top - k] + more >= strength) return k;
            }
            return height;
        }

        int takeDown(int flue, int bend, int strength) {
            int taken = 0;
            for (int b = 0; b <= bend && b < BENDS; b++) {
                int loose = loose(flue, b, strength, 0);
                if (hasFlue(flue)) heights[flue * BENDS + b] -= loose;
                taken += loose;
            }
            return taken;
        }

        int layersIn(int flue) {
            int layers = 0;
            for (int b = 0; b < BENDS; b++) layers += height(flue, b);
            return layers;
        }

        int wordsOn(int flue, int bend) {
            int set = 0;
            int height = height(flue, bend);
            int top = place(flue, bend, 0);
            for (int k = 0; k < height; k++) set |= 1 << words[top - k];
            return set;
        }

        int wordsIn(int flue) {
            int set = 0;
            for (int b = 0; b < BENDS; b++) set |= wordsOn(flue, b);
            return set;
        }

        int bareBends(int flue) {
            int bends = 0;
            for (int b = 0; b < BENDS; b++) {
                if (height(flue, b) == 0) bends |= 1 << b;
            }
            return bends;
        }

        int lowestWith(int flue, int word) {
            for (int b = 0; b < BENDS; b++) {
                if (hasBit(wordsOn(flue, b), word)) return b;
            }
            return GONE;
        }

        int allLayers() {
            int layers = 0;
            for (int f = 0; f < flues; f++) layers += layersIn(f);
            return layers;
        }

        int allWords() {
            int set = 0;
            for (int f = 0; f < flues; f++) set |= wordsIn(f);
            return set;
        }

        int allCake() {
            int sum = 0;
            for (int f = 0; f < flues; f++) {
                for (int b = 0; b < BENDS; b++) {
                    for (int k = 0; k < height(f, b); k++) sum += cakeAt(f, b, k);
                }
            }
            return sum;
        }

        int layersOfCake(int cake) {
            int layers = 0;
            for (int f = 0; f < flues; f++) {
                for (int b = 0; b < BENDS; b++) {
                    for (int k = 0; k < height(f, b); k++) {
                        if (cakeAt(f, b, k) == cake) layers++;
                    }
                }
            }
            return layers;
        }

        int fullBends() {
            int full = 0;
            for (int f = 0; f < flues; f++) {
                for (int b = 0; b < BENDS; b++) {
                    if (height(f, b) >= Kinds.holds(kindOf(f), b)) full++;
                }
            }
            return full;
        }
    }

    /** What one brush would bring; its rows are used again by the next. */
    private static final class Brush {
        int number = 0;
        int set = 0;
        private final int[] words = new int[BENDS * LAYERS];

        /** Put up some days on, with all as it is. */
        void putUp(Stack stack, int flue, int bend, int strength, int days) {
            int more = days * Kinds.cakes(stack.kindOf(flue), stack.damp);
            number = 0;
            set = 0;
            for (int b = 0; b <= bend && b < BENDS; b++) {
                int loose = stack.loose(flue, b, strength, more);
                for (int k = 0; k < loose; k++) take(stack.wordAt(flue, b, k));
            }
        }

        private void take(int word) {
            if (number >= words.length) return;
            words[number] = word;
            number++;
            set |= 1 << word;
        }

        int word(int k) {
            return k >= 0 && k < number ? words[k] : GONE;
        }

        boolean brings(int wanted) {
            return (wanted & ~set) == 0;
        }
    }

    /** Words said for trial. Where a word comes to hangs on heights alone, so no layers are made. */
    private static final class Trial {
        int laid = 0;
        int bendsAdded = 0;
        private final int[] heights = new int[BENDS];

        /** All words of a set, the least first, in a flue as if it were of a kind. */
        void speakAll(Stack stack, int flue, int kind, int words, int voice) {
            laid = 0;
            bendsAdded = 0;
            for (int b = 0; b < BENDS; b++) heights[b] = stack.height(flue, b);
            for (int w = 0; w < WORDS; w++) {
                if (hasBit(words, w)) settleOne(kind, Kinds.rise(kind, w, voice, stack.day));
            }
        }

        private void settleOne(int kind, int risen) {
            int bend = Kinds.settle(kind, risen, heights, 0);
            bendsAdded += bend;
            if (!isBend(bend)) return;
            heights[bend]++;
            laid++;
        }
    }

    /** The bytes, and the token of them that is at hand. */
    private static final class Tape {
        private static final int LONGEST = 120;
        private static final int LARGEST = 999;
        static final int END = 0;
        static final int NAME = 1;
        static final int NUMBER = 2;
        static final int SIGN = 3;
        static final int STRANGE = 4;

        int length = 0;
        int token = END;
        int from = 0;
        private int to = 0;
        private int value = 0;
        private final int[] bytes = new int[LONGEST];

        boolean hasRoom(int n) {
            return n <= LONGEST - length;
        }

        void add(int b) {
            if (length < 0 || length >= LONGEST) return;
            bytes[length] = b;
            length++;
        }

        private int at(int i) {
            return i >= 0 && i < length && i < LONGEST ? bytes[i] : 0;
        }

        /** The first token is at hand. */
        void begin() {
            to = 0;
            step();
        }

        /** The next token is at hand. */
        void step() {
            from = to;
            while (from < length && at(from) == ' ') from++;
            to = from;
            value = 0;
            if (from >= length) {
                token = END;
            } else if (isLetter(at(from))) {
                token = NAME;
                while (to < length && isLetter(at(to))) to++;
            } else if (isDigit(at(from))) {
                token = NUMBER;
                // held just above what may be, so that no row of digits can wrap around to a number that may
                for (; to < length && isDigit(at(to)); to++) value = Math.min(LARGEST + 1, 10 * value + at(to) - '0');
            } else {
                token = at(from) == ';' ? SIGN : STRANGE;
                to++;
            }
        }

        /** Whether a name is at hand, which is passed then. */
        boolean pass(String name) {
            if (token != NAME || to - from != name.length()) return false;
            for (int i = 0; i < name.length(); i++) {
                if (at(from + i) != name.charAt(i)) return false;
            }
            step();
            return true;
        }

        /** The number at hand, which is passed then; or -1 if there is none that may be, and it stays at hand. */
        int passNumber(int bound) {
            if (token != NUMBER || value >= bound) return -1;
            int number = value;
            step();
            return number;
        }

        private static boolean isLetter(int b) {
            return b >= 'a' && b <= 'z';
        }

        private static boolean isDigit(int b) {
            return b >= '0' && b <= '9';
        }
    }

    /** The text of a house. Wherever it stops, the token at hand is the one that can't stand there. */
    private static final class Text {
        private static final int NEW_FLUE = 0;
        private static final int SAYING = 1;
        private static final int NEW_LAYER = 2;
        private static final int NEW_DAMP = 3;

        private int flues = 0;
        // the item that was passed last
        private int item = NEW_FLUE;
        private int kind = 0;
        private int flue = 0;
        private int bend = 0;
        private int word = 0;
        private int voice = 0;
        private int cake = 0;
        private int damp = 0;

        /** How many items there are, or -1 less the place of the fault; they come to what there is only if that is asked. */
        int goThrough(Tape tape, Stack stack, boolean isDone) {
            flues = stack.flues;
            tape.begin();
            for (int items = 1; items <= Tape.LONGEST; items++) {
                if (!passItem(tape)) break;
                if (isDone) perform(stack);
                if (tape.token == Tape.END) return items;
                if (tape.token != Tape.SIGN) break;
                tape.step();
            }
            return -1 - tape.from;
        }

        private boolean passItem(Tape tape) {
            if (tape.pass("say")) return passSaying(tape);
            if (tape.pass("layer")) return passLayer(tape);
            if (tape.pass("damp")) return passDamp(tape);
            // a name of a kind is the fault itself where no flue may come: it isn't passed then
            for (int k = 0; k < KINDS && flues < FLUES; k++) {
                if (tape.pass(Kinds.name(k))) return passFlue(k);
            }
            return false;
        }

        private boolean passFlue(int named) {
            item = NEW_FLUE;
            kind = named;
            flues++;
            return true;
        }

        private boolean passSaying(Tape tape) {
            item = SAYING;
            flue = tape.passNumber(flues);
            if (flue < 0) return false;
            word = tape.passNumber(WORDS);
            if (word < 0) return false;
            voice = tape.pass("voice") ? tape.passNumber(VOICES) : PLAIN_VOICE;
            return voice >= 0;
        }

        private boolean passLayer(Tape tape) {
            item = NEW_LAYER;
            flue = tape.passNumber(flues);
            if (flue < 0) return false;
            bend = tape.passNumber(BENDS);
            if (bend < 0) return false;
            word = tape.passNumber(WORDS);
            if (word < 0) return false;
            cake = tape.pass("cake") ? tape.passNumber(MOST_CAKE + 1) : 0;
            return cake >= 0;
        }

        private boolean passDamp(Tape tape) {
            item = NEW_DAMP;
            damp = tape.passNumber(DAMPS);
            return damp >= 0;
        }

        private void perform(Stack stack) {
            switch (item) {
                case SAYING:
                    stack.speak(flue, word, voice);
                    break;
                case NEW_LAYER:
                    stack.lay(flue, bend, word, cake);
                    break;
                case NEW_DAMP:
                    stack.damp = damp;
                    break;
                default:
                    stack.addFlue(kind);
            }
        }
    }

    /** Callers have tested the sheet and the number; numbers are held as they read, with their sign. */
    private static final class Sheets {
        private static final int NUMBER = 4;
        private static final int LONGEST = 40;
        // width 0: the sheet is missing
        private final int[] widths = new int[NUMBER];
        private final int[] lengths = new int[NUMBER];
        private final long[] numbers = new long[NUMBER * LONGEST];

        static boolean isSheet(int s) {
            return s >= 0 && s < NUMBER;
        }

        static boolean isWidth(int bits) {
            return bits == 0 || bits == 8 || bits == 16 || bits == 64;
        }

        int layOut(int s, int bits, int n) {
            if (!isSheet(s) || n < 0 || n > LONGEST) return 0;
            widths[s] = bits;
            lengths[s] = bits == 0 ? 0 : n;
            for (int i = 0; i < LONGEST; i++) numbers[s * LONGEST + i] = 0;
            return lengths[s];
        }

        boolean isMissing(int s) {
            return width(s) == 0;
        }

        int width(int s) {
            return isSheet(s) ? widths[s] : 0;
        }

        int length(int s) {
            return isSheet(s) ? lengths[s] : 0;
        }

        boolean hasRange(int s, int from, int n) {
            // by a difference: a sum could wrap around
            return from >= 0 && n >= 0 && n <= length(s) && from <= length(s) - n;
        }

        long number(int s, int i) {
            return hasRange(s, i, 1) ? numbers[s * LONGEST + i] : 0;
        }

        void put(int s, int i, long v) {
            if (hasRange(s, i, 1)) numbers[s * LONGEST + i] = cut(width(s), v);
        }

        private static long cut(int bits, long v) {
            if (bits == 8) return (byte) v;
            if (bits == 16) return (short) v;
            return v;
        }

        void move(int s, int from, int t, int to, int n) {
            if (!hasRange(s, from, n) || !hasRange(t, to, n)) return;
            System.arraycopy(numbers, s * LONGEST + from, numbers, t * LONGEST + to, n);
        }
    }
}
