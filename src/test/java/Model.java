import java.util.ArrayList;
import java.util.List;
import java.util.TreeMap;

/**
 * The document said a second time, by other means than SootTalk's own: real copies of the house on which days really
 * go and words are really said. RandomRunsTest holds the two against each other.
 */
final class Model {
    private House now = new House();
    private House kept = null;
    private final StringBuilder tape = new StringBuilder();
    private final TreeMap<Integer, Sheet> sheets = new TreeMap<>();
    private final int[] found = new int[7];

    private static final class Layer {
        final int word;
        int cake;

        Layer(int word, int cake) {
            this.word = word;
            this.cake = cake;
        }
    }

    private static final class Sheet {
        final int bits;
        final long[] numbers;

        Sheet(int bits, int n) {
            this.bits = bits;
            this.numbers = new long[n];
        }

        long cut(long v) {
            int shift = 64 - bits;
            return v << shift >> shift;
        }
    }

    /** Index 0 of a bend is its top. */
    private static final class Flue {
        int kind;
        final List<List<Layer>> bends = new ArrayList<>();

        Flue(int kind) {
            this.kind = kind;
            for (int b = 0; b < 8; b++) bends.add(new ArrayList<>());
        }

        Flue copy() {
            Flue c = new Flue(kind);
            for (int b = 0; b < 8; b++) for (Layer l : bends.get(b)) c.bends.get(b).add(new Layer(l.word, l.cake));
            return c;
        }

        int rises(int as, int w, int v, int day) {
            switch (as) {
                case 0: return v > 7 ? 0 : 7 - v;
                case 1: return Math.min(rises(0, w, v, day), w & 7);
                case 2: return Math.max(rises(0, w, v, day) - 2, 0);
                case 3: return 0;
                case 4: return w == 15 ? 7 : rises(1, w, v, day);
                default: return day % 4 == 2 ? -1 : rises(2, w, v, day);
            }
        }

        int holds(int as, int b) {
            switch (as) {
                case 0: return 6;
                case 1: return b % 2 == 0 ? holds(0, b) : holds(0, b) - 2;
                case 2: return holds(0, b) / 2;
                case 3: return holds(0, b);
                case 4: return Math.min(6, holds(1, b) + 1);
                default: return holds(2, b) + (b == 7 ? 2 : 0);
            }
        }

        int cakes(int as, int d) {
            switch (as) {
                case 0: return d / 3;
                case 1: return cakes(0, d) + (d > 5 ? 1 : 0);
                case 2: return cakes(0, d);
                case 3: return cakes(0, d) * 2;
                case 4: return cakes(1, d);
                default: return Math.max(0, cakes(2, d) - 1);
            }
        }

        boolean holdsMore(int b) {
            return bends.get(b).size() < holds(kind, b);
        }

        int say(int w, int v, int day) {
            int b = rises(kind, w, v, day);
            while (b >= 0 && !holdsMore(b)) b--;
            if (b >= 0) bends.get(b).add(0, new Layer(w, 0));
            return b;
        }

        void day(int damp) {
            for (List<Layer> bend : bends) for (Layer l : bend) l.cake = Math.min(9, l.cake + cakes(kind, damp));
        }

        List<Integer> sweep(int b, int s) {
            List<Integer> words = new ArrayList<>();
            for (int i = 0; i <= b; i++) {
                List<Layer> bend = bends.get(i);
                while (!bend.isEmpty() && bend.get(0).cake < s) words.add(bend.remove(0).word);
            }
            return words;
        }

        List<Integer> brings(int b, int s) {
            return copy().sweep(b, s);
        }

        List<Layer> all() {
            List<Layer> all = new ArrayList<>();
            for (List<Layer> bend : bends) all.addAll(bend);
            return all;
        }
    }

    private static final class House {
        int day;
        int damp;
        final List<Flue> flues = new ArrayList<>();

        House copy() {
            House c = new House();
            c.day = day;
            c.damp = damp;
            for (Flue f : flues) c.flues.add(f.copy());
            return c;
        }

        void go(int days) {
            for (int i = 0; i < days; i++) {
                for (Flue f : flues) f.day(damp);
                day++;
            }
        }

        List<Layer> all() {
            List<Layer> all = new ArrayList<>();
            for (Flue f : flues) all.addAll(f.all());
            return all;
        }
    }

    private int find(int finding) {
        found[-1000000001 - finding]++;
        return finding;
    }

    private static boolean in(int v, int from, int to) {
        return v >= from && v <= to;
    }

    private boolean noFlue(int f) {
        return !in(f, 0, now.flues.size() - 1);
    }

    private static int setOf(List<Integer> words) {
        int set = 0;
        for (int w : words) set |= 1 << w;
        return set;
    }

    private static int wordsOf(List<Layer> layers) {
        int set = 0;
        for (Layer l : layers) set |= 1 << l.word;
        return set;
    }

    private static boolean hasAll(int set, int wanted) {
        return (set & wanted) == wanted;
    }

    /** A call by its name, with as many arguments as it takes. */
    long call(String name, int[] a, long v) {
        switch (name) {
            case "flue": return flue(a[0]);
            case "of": return of(a[0], a[1]);
            case "bend": return bend(a[0], a[1], a[2]);
            case "layer": return layer(a[0], a[1], a[2], a[3]);
            case "turn": return turn(a[0], a[1]);
            case "as": return as(a[0], a[1]);
            case "damp": return damp(a[0]);
            case "rises": return rises(a[0], a[1], a[2]);
            case "say": return say(a[0], a[1], a[2]);
            case "cake": return cake(a[0], a[1], a[2], a[3]);
            case "days": return days(a[0]);
            case "now": return now(a[0]);
            case "sweep": return sweep(a[0], a[1], a[2]);
            case "brought": return brought(a[0], a[1], a[2]);
            case "order": return order(a[0], a[1], a[2], a[3]);
            case "on": return on(a[0], a[1], a[2], a[3]);
            case "reach": return reach(a[0], a[1], a[2]);
            case "strength": return strength(a[0], a[1], a[2]);
            case "secret": return secret(a[0], a[1], a[2]);
            case "fewest": return fewest(a[0], a[1]);
            case "where": return where(a[0]);
            case "lost": return lost(a[0], a[1], a[2]);
            case "covers": return covers(a[0], a[1], a[2]);
            case "kind": return kind(a[0], a[1], a[2]);
            case "best": return best(a[0], a[1]);
            case "richest": return richest(a[0]);
            default: return callOfTexts(name, a, v);
        }
    }

    private long callOfTexts(String name, int[] a, long v) {
        switch (name) {
            case "feed": return feed(a[0], a[1]);
            case "wipe": return wipe();
            case "house": return house();
            case "sheet": return sheet(a[0], a[1], a[2]);
            case "write": return write(a[0], a[1], v);
            case "copy": return copy(a[0], a[1], a[2], a[3], a[4]);
            case "lays": return lays(a[0], a[1]);
            case "book": return book(a[0], a[1]);
            case "read": return read(a[0], a[1]);
            case "image": return image();
            case "undo": return undo();
            case "tear": return tear();
            case "count": return count(a[0]);
            case "status": return status(a[0]);
            default: throw new IllegalArgumentException(name);
        }
    }

    private int flue(int kind) {
        if (!in(kind, 0, 5)) return find(Due.BEYOND);
        if (now.flues.size() == 6) return find(Due.FULL);
        now.flues.add(new Flue(kind));
        return now.flues.size() - 1;
    }

    private int of(int f, int what) {
        if (noFlue(f) || !in(what, 0, 4)) return find(Due.BEYOND);
        Flue flue = now.flues.get(f);
        if (what == 0) return flue.kind;
        if (what == 1) return flue.all().size();
        if (what == 2) return wordsOf(flue.all());
        if (what == 4) return flue.cakes(flue.kind, now.damp);
        int bare = 0;
        for (int b = 0; b < 8; b++) if (flue.bends.get(b).isEmpty()) bare += 1 << b;
        return bare;
    }

    private int bend(int f, int b, int what) {
        if (noFlue(f) || !in(b, 0, 7) || !in(what, 0, 2)) return find(Due.BEYOND);
        Flue flue = now.flues.get(f);
        return what == 0 ? flue.bends.get(b).size() : what == 1 ? flue.holds(flue.kind, b) : wordsOf(flue.bends.get(b));
    }

    private int layer(int f, int b, int k, int what) {
        if (noFlue(f) || !in(b, 0, 7) || !in(what, 0, 1)) return find(Due.BEYOND);
        List<Layer> bend = now.flues.get(f).bends.get(b);
        if (!in(k, 0, bend.size() - 1)) return find(Due.NONE);
        return what == 0 ? bend.get(k).word : bend.get(k).cake;
    }

    private int turn(int f, int kind) {
        if (noFlue(f) || !in(kind, 0, 5)) return find(Due.BEYOND);
        int was = now.flues.get(f).kind;
        now.flues.get(f).kind = kind;
        return was;
    }

    private int as(int f, int kind) {
        if (noFlue(f) || !in(kind, 0, 5)) return find(Due.BEYOND);
        int is = now.flues.get(f).kind;
        boolean fine = kind == 0 || is == kind || is == 4 && kind == 1 || is == 5 && kind == 2;
        return fine ? now.flues.get(f).all().size() : find(Due.KIND);
    }

    private int damp(int v) {
        if (!in(v, 0, 9)) return find(Due.BEYOND);
        int was = now.damp;
        now.damp = v;
        return was;
    }

    private int rises(int f, int w, int v) {
        if (noFlue(f) || !in(w, 0, 15) || !in(v, 0, 9)) return find(Due.BEYOND);
        int b = now.flues.get(f).rises(now.flues.get(f).kind, w, v, now.day);
        return b < 0 ? find(Due.NONE) : b;
    }

    private int say(int f, int w, int v) {
        if (noFlue(f) || !in(w, 0, 15) || !in(v, 0, 9)) return find(Due.BEYOND);
        return now.flues.get(f).say(w, v, now.day);
    }

    private int cake(int f, int b, int k, int v) {
        if (noFlue(f) || !in(b, 0, 7) || !in(v, 0, 9)) return find(Due.BEYOND);
        List<Layer> bend = now.flues.get(f).bends.get(b);
        if (!in(k, 0, bend.size() - 1)) return find(Due.NONE);
        int was = bend.get(k).cake;
        bend.get(k).cake = v;
        return was;
    }

    private int days(int n) {
        if (!in(n, 1, 60)) return find(Due.BEYOND);
        if (now.day + n > 9999) return find(Due.STATE);
        now.go(n);
        int nines = 0;
        for (Layer l : now.all()) if (l.cake == 9) nines++;
        return nines;
    }

    private int now(int what) {
        if (!in(what, 0, 4)) return find(Due.BEYOND);
        if (what == 0) return now.day;
        if (what == 1) return now.damp;
        if (what == 2) return now.all().size();
        if (what == 3) return wordsOf(now.all());
        int sum = 0;
        for (Layer l : now.all()) sum += l.cake;
        return sum;
    }

    private boolean noBrush(int f, int b, int s) {
        return noFlue(f) || !in(b, 0, 7) || !in(s, 1, 9);
    }

    private int sweep(int f, int b, int s) {
        if (noBrush(f, b, s)) return find(Due.BEYOND);
        return now.flues.get(f).sweep(b, s).size();
    }

    private int brought(int f, int b, int s) {
        if (noBrush(f, b, s)) return find(Due.BEYOND);
        return setOf(now.flues.get(f).brings(b, s));
    }

    private int order(int f, int b, int s, int k) {
        if (noBrush(f, b, s) || k < 0) return find(Due.BEYOND);
        List<Integer> words = now.flues.get(f).brings(b, s);
        return k < words.size() ? words.get(k) : find(Due.NONE);
    }

    private int on(int f, int b, int s, int n) {
        if (noBrush(f, b, s) || !in(n, 0, 60)) return find(Due.BEYOND);
        House later = now.copy();
        later.go(n);
        return later.flues.get(f).sweep(b, s).size();
    }

    private int reach(int f, int words, int s) {
        if (noBrush(f, 0, s) || !in(words, 0, 65535)) return find(Due.BEYOND);
        for (int b = 0; b < 8; b++) if (hasAll(setOf(now.flues.get(f).brings(b, s)), words)) return b;
        return find(Due.NONE);
    }

    private int strength(int f, int b, int words) {
        if (noBrush(f, b, 1) || !in(words, 0, 65535)) return find(Due.BEYOND);
        for (int s = 1; s < 10; s++) if (hasAll(setOf(now.flues.get(f).brings(b, s)), words)) return s;
        return find(Due.NONE);
    }

    private int secret(int f, int words, int others) {
        if (noFlue(f) || !in(words, 0, 65535) || !in(others, 0, 65535)) return find(Due.BEYOND);
        for (int code = 0; code < 80; code++) {
            if (code % 10 == 0) continue;
            int set = setOf(now.flues.get(f).brings(code / 10, code % 10));
            if (hasAll(set, words) && (set & others) == 0) return code;
        }
        return find(Due.NONE);
    }

    private int fewest(int words, int s) {
        if (!in(words, 0, 65535) || !in(s, 1, 9)) return find(Due.BEYOND);
        for (int many = 0; many <= now.flues.size(); many++) {
            for (int flues = 0; flues < 1 << now.flues.size(); flues++) {
                if (Integer.bitCount(flues) != many) continue;
                int set = 0;
                for (int f = 0; f < now.flues.size(); f++) {
                    if ((flues & 1 << f) != 0) set |= setOf(now.flues.get(f).brings(7, s));
                }
                if (hasAll(set, words)) return flues;
            }
        }
        return find(Due.NONE);
    }

    private int where(int w) {
        if (!in(w, 0, 15)) return find(Due.BEYOND);
        int flues = 0;
        for (int f = 0; f < now.flues.size(); f++) {
            for (Layer l : now.flues.get(f).all()) if (l.word == w) flues |= 1 << f;
        }
        return flues;
    }

    private int lost(int f, int w, int s) {
        if (noBrush(f, 0, s) || !in(w, 0, 15)) return find(Due.BEYOND);
        House later = now.copy();
        for (int n = 0; n <= 60; n++) {
            if (!later.flues.get(f).brings(7, s).contains(w)) return n;
            later.go(1);
        }
        return find(Due.NONE);
    }

    private int covers(int f, int w, int other) {
        if (noFlue(f) || !in(w, 0, 15) || !in(other, 0, 15)) return find(Due.BEYOND);
        Flue flue = now.flues.get(f);
        int lowest = 0;
        while (lowest < 8 && (wordsOf(flue.bends.get(lowest)) & 1 << other) == 0) lowest++;
        if (lowest == 8) return find(Due.NONE);
        for (int v = 0; v < 10; v++) if (flue.copy().say(w, v, now.day) == lowest) return v;
        return find(Due.NONE);
    }

    private int kind(int f, int words, int voice) {
        if (noFlue(f) || !in(words, 0, 65535) || !in(voice, 0, 9)) return find(Due.BEYOND);
        int best = -1;
        int most = -1;
        for (int k = 0; k < 6; k++) {
            Flue trial = now.flues.get(f).copy();
            trial.kind = k;
            for (int w = 0; w < 16; w++) if ((words & 1 << w) != 0) trial.say(w, voice, now.day);
            if (trial.all().size() > most) best = k;
            most = Math.max(most, trial.all().size());
        }
        return best;
    }

    private int best(int words, int voice) {
        if (!in(words, 0, 65535) || !in(voice, 0, 9)) return find(Due.BEYOND);
        if (now.flues.isEmpty()) return find(Due.NONE);
        int best = -1;
        int highest = Integer.MIN_VALUE;
        for (int f = 0; f < now.flues.size(); f++) {
            Flue trial = now.flues.get(f).copy();
            int sum = 0;
            for (int w = 0; w < 16; w++) if ((words & 1 << w) != 0) sum += trial.say(w, voice, now.day);
            if (sum > highest) best = f;
            highest = Math.max(highest, sum);
        }
        return best;
    }

    private int richest(int f) {
        if (noFlue(f)) return find(Due.BEYOND);
        int best = -1;
        int most = 0;
        for (int b = 0; b < 8; b++) {
            int many = Integer.bitCount(wordsOf(now.flues.get(f).bends.get(b)));
            if (many > most) best = b;
            most = Math.max(most, many);
        }
        return best < 0 ? find(Due.NONE) : best;
    }

    private int feed(int bytes, int n) {
        if (!in(n, 1, 4)) return find(Due.BEYOND);
        if (tape.length() + n > 120) return find(Due.FULL);
        for (int i = n - 1; i >= 0; i--) tape.append((char) (bytes >>> 8 * i & 255));
        return tape.length();
    }

    private int wipe() {
        int had = tape.length();
        tape.setLength(0);
        return had;
    }

    private int house() {
        House trial = now.copy();
        int answer = new ModelText(tape.toString(), new Items(trial)).items();
        tape.setLength(0);
        if (answer >= 0) now = trial;
        return answer;
    }

    /** What ModelText does to a house. */
    static final class Items {
        private final House house;

        private Items(House house) {
            this.house = house;
        }

        int flues() {
            return house.flues.size();
        }

        void flue(int kind) {
            house.flues.add(new Flue(kind));
        }

        void say(int f, int w, int v) {
            house.flues.get(f).say(w, v, house.day);
        }

        void layer(int f, int b, int w, int cake) {
            Flue flue = house.flues.get(f);
            if (flue.holdsMore(b)) flue.bends.get(b).add(0, new Layer(w, cake));
        }

        void damp(int v) {
            house.damp = v;
        }
    }

    private int sheet(int s, int bits, int n) {
        if (!in(s, 0, 3) || bits != 0 && bits != 8 && bits != 16 && bits != 64) return find(Due.BEYOND);
        if (n < 0) return find(Due.SIZE);
        if (n > 40) return find(Due.BEYOND);
        sheets.remove(s);
        if (bits != 0) sheets.put(s, new Sheet(bits, n));
        return bits == 0 ? 0 : n;
    }

    private long write(int s, int i, long v) {
        if (!in(s, 0, 3)) return find(Due.BEYOND);
        Sheet sheet = sheets.get(s);
        if (sheet == null) return find(Due.MISSING);
        if (!in(i, 0, sheet.numbers.length - 1)) return find(Due.BEYOND);
        long was = sheet.numbers[i];
        sheet.numbers[i] = sheet.cut(v);
        return was;
    }

    private int copy(int s, int from, int t, int to, int n) {
        if (!in(s, 0, 3) || !in(t, 0, 3)) return find(Due.BEYOND);
        Sheet a = sheets.get(s);
        Sheet b = sheets.get(t);
        if (a == null || b == null) return find(Due.MISSING);
        if (a.bits != b.bits) return find(Due.KIND);
        boolean outside = (long) from + n > a.numbers.length || (long) to + n > b.numbers.length;
        if (from < 0 || to < 0 || n < 0 || outside) return find(Due.BEYOND);
        long[] were = a.numbers.clone();
        for (int i = 0; i < n; i++) b.numbers[to + i] = were[from + i];
        return n;
    }

    /** 0, or what is found. */
    private int sheetAndFlue(int s, int f) {
        if (!in(s, 0, 3)) return find(Due.BEYOND);
        if (!sheets.containsKey(s)) return find(Due.MISSING);
        return noFlue(f) ? find(Due.BEYOND) : 0;
    }

    private int lays(int s, int f) {
        int finding = sheetAndFlue(s, f);
        if (finding != 0) return finding;
        int there = 0;
        for (long w : sheets.get(s).numbers) {
            if (w >= 0 && w <= 15 && now.flues.get(f).say((int) w, 5, now.day) >= 0) there++;
        }
        return there;
    }

    private int book(int s, int f) {
        int finding = sheetAndFlue(s, f);
        if (finding != 0) return finding;
        List<Integer> words = now.flues.get(f).brings(7, 9);
        long[] numbers = sheets.get(s).numbers;
        for (int i = 0; i < numbers.length; i++) numbers[i] = i < words.size() ? words.get(i) : -1;
        return words.size();
    }

    private int read(int s, int f) {
        int finding = sheetAndFlue(s, f);
        if (finding != 0) return finding;
        List<Long> told = new ArrayList<>();
        for (long n : sheets.get(s).numbers) told.add(n);
        int pairs = 0;
        for (int b = 0; b < 8; b++) {
            for (int strength = 1; strength < 10; strength++) {
                List<Long> brought = new ArrayList<>();
                for (int w : now.flues.get(f).brings(b, strength)) brought.add((long) w);
                if (brought.equals(told)) pairs++;
            }
        }
        return pairs;
    }

    private int image() {
        kept = now.copy();
        return 1;
    }

    private int undo() {
        if (kept == null) return find(Due.NONE);
        now = kept.copy();
        return now.flues.size();
    }

    private int tear() {
        int was = kept == null ? 0 : 1;
        kept = null;
        return was;
    }

    private int count(int what) {
        if (!in(what, 0, 3)) return find(Due.BEYOND);
        if (what == 0) return now.flues.size();
        if (what == 1) return tape.length();
        int many = 0;
        if (what == 2) for (Layer l : now.all()) many += l.cake == 0 ? 1 : 0;
        if (what == 3) for (Flue f : now.flues) for (int b = 0; b < 8; b++) many += f.holdsMore(b) ? 0 : 1;
        return many;
    }

    private int status(int which) {
        if (!in(which, -1, 6)) return find(Due.BEYOND);
        if (which >= 0) return found[which];
        int all = 0;
        for (int f : found) all += f;
        return all;
    }
}
