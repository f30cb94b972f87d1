/** The edges that promises 31 to 36 name, and those of sheets in the document's Terms. */
final class SheetsEdges {
    private static final int[] WIDTHS = {8, 16, 64};

    private SheetsEdges() {
    }

    static void all() {
        terms();
        sheet();
        write();
        copy();
        copyRefused();
        lays();
        book();
        read();
    }

    private static void terms() {
        Edges.sentence(0, "SHEETS 0 to 3 are rows of at most 40 numbers of 8, 16 or 64 bits, or MISSING (at first).");
        Edges.bounds("sheet", 0, 3, (x, v) -> x.sheet(v, 8, 1));
        for (int s = 0; s < 4; s++) Edges.is("missing at first", new SootTalk().write(s, 0, 0), Due.MISSING);
        SootTalk x = new SootTalk();
        for (int s = 0; s < 4; s++) {
            Edges.is("forty", x.sheet(s, 64, 40), 40);
            Edges.is("the last of sheet " + s, x.write(s, 39, s + 1), 0);
            Edges.is("one more", x.write(s, 40, 9), Due.BEYOND);
        }
        for (int s = 0; s < 4; s++) {
            Edges.is("the last of sheet " + s + " again", x.write(s, 39, 0), s + 1);
            Edges.is("the first of sheet " + s, x.write(s, 0, 0), 0);
        }
    }

    private static void sheet() {
        Edges.sentence(31, "A sheet has n numbers, all 0, of 8, 16 or 64 bits; bits 0: it is MISSING: n (0 if it is "
            + "MISSING).");
        SootTalk x = new SootTalk();
        for (int bits : WIDTHS) {
            Edges.is("forty", x.sheet(0, bits, 40), 40);
            for (int i = 0; i < 40; i++) Edges.is("number " + i, x.write(0, i, -1), 0);
            Edges.is("none", x.sheet(0, bits, 0), 0);
            Edges.is("no number 0, but not missing", x.write(0, 0, 0), Due.BEYOND);
        }
        x.sheet(0, 8, 40);
        Edges.is("all are 0 again", x.write(0, 39, 0), 0);
        Edges.is("missing with 40", x.sheet(0, 0, 40), 0);
        Edges.is("is missing", x.write(0, 0, 0), Due.MISSING);
        Edges.is("missing with 0", x.sheet(0, 0, 0), 0);
        Edges.sentence(31, "BEYOND: no such sheet, other bits.");
        Edges.bounds("sheet", 0, 3, (y, v) -> y.sheet(v, 8, 1));
        int[] other = {-1, 1, 7, 9, 15, 17, 32, 63, 65, 128, -8, -64, 256 + 8, 65536 + 8, Integer.MIN_VALUE,
            Integer.MAX_VALUE};
        for (int bits : other) Edges.refused("bits " + bits, Due.BEYOND, y -> y.sheet(0, bits, 3));
        Edges.sentence(31, "SIZE: n is below 0 (also with bits 0).");
        for (int bits : new int[] {0, 8, 16, 64}) {
            for (int n : new int[] {-1, -40, Integer.MIN_VALUE}) {
                Edges.refused("n " + n + " of bits " + bits, Due.SIZE, y -> y.sheet(0, bits, n));
            }
        }
        Edges.sentence(31, "BEYOND: n is above 40 (also with bits 0).");
        for (int bits : new int[] {0, 8, 16, 64}) {
            for (int n : new int[] {41, 256, 65536, Integer.MAX_VALUE}) {
                Edges.refused("n " + n + " of bits " + bits, Due.BEYOND, y -> y.sheet(0, bits, n));
            }
        }
    }

    private static void write() {
        Edges.sentence(32, "Number i of a sheet becomes v (its lowest bits): what it was.");
        long[] written = {127, 128, 255, 256, -128, -129, 32767, 32768, 65535, 65536, -32769, Long.MIN_VALUE,
            Long.MAX_VALUE};
        for (long v : written) {
            long[] due = {(byte) v, (short) v, v};
            for (int k = 0; k < 3; k++) {
                SootTalk x = new SootTalk();
                x.sheet(0, WIDTHS[k], 3);
                Edges.is("was 0", x.write(0, 1, v), 0);
                Edges.is(WIDTHS[k] + " bits of " + v, x.write(0, 1, 0), due[k]);
                Edges.is("the one ahead of it", x.write(0, 0, 0), 0);
                Edges.is("the one behind it", x.write(0, 2, 0), 0);
            }
        }
        SootTalk likeFindings = new SootTalk();
        likeFindings.sheet(0, 64, 1);
        likeFindings.write(0, 0, Due.MISSING);
        Edges.is("a number that looks like a finding", likeFindings.write(0, 0, 0), Due.MISSING);
        Edges.is("is none", likeFindings.status(-1), 0);
        Edges.sentence(32, "BEYOND: no such sheet.");
        Edges.bounds("sheet", 0, 3, (x, v) -> x.write(v, 0, 5));
        Edges.sentence(32, "MISSING.");
        Edges.refused("never made", Due.MISSING, x -> x.write(3, 0, 5));
        Edges.refused("no such number either", Due.MISSING, x -> x.write(3, -1, 5));
        Edges.sentence(32, "BEYOND: no such number.");
        Edges.bounds("number of 3", 0, 2, (x, v) -> x.write(0, v, 5));
        Edges.bounds("number of 40", 0, 39, SheetsEdges::withForty, (x, v) -> x.write(0, v, 5));
        Edges.refused("number 0 of none", Due.BEYOND, SheetsEdges::withNone, x -> x.write(0, 0, 5));
    }

    private static SootTalk withForty() {
        SootTalk x = Due.withFlues(0);
        x.sheet(0, 64, 40);
        x.sheet(1, 64, 40);
        return x;
    }

    private static SootTalk withNone() {
        SootTalk x = Due.withFlues(0);
        x.sheet(0, 64, 0);
        x.sheet(1, 64, 0);
        return x;
    }

    private static void copy() {
        Edges.sentence(33, "n numbers of a sheet from one on come to another one from one on (as they all were): n.");
        SootTalk x = withForty();
        for (int i = 0; i < 40; i++) x.write(0, i, i + 1);
        Edges.is("all forty", x.copy(0, 0, 1, 0, 40), 40);
        Edges.is("first", x.write(1, 0, 1), 1);
        Edges.is("last", x.write(1, 39, 40), 40);
        Edges.is("the last to the first", x.copy(0, 39, 1, 0, 1), 1);
        Edges.is("first of the other", x.write(1, 0, 0), 40);
        Edges.is("second of the other", x.write(1, 1, 2), 2);
        Edges.is("none, from the end to the end", x.copy(0, 40, 1, 40, 0), 0);
        Edges.is("none, over itself", x.copy(0, 0, 0, 0, 0), 0);
        Edges.is("all over itself", x.copy(0, 0, 0, 0, 40), 40);
        Edges.is("up over itself", x.copy(0, 0, 0, 1, 39), 39);
        for (int i = 0; i < 40; i++) Edges.is("up, " + i, x.write(0, i, i + 1), Math.max(1, i));
        Edges.is("down over itself", x.copy(0, 1, 0, 0, 39), 39);
        for (int i = 0; i < 40; i++) Edges.is("down, " + i, x.write(0, i, 0), Math.min(40, i + 2));
        Edges.is("from none to none", withNone().copy(0, 0, 1, 0, 0), 0);
        SootTalk narrow = new SootTalk();
        narrow.sheet(0, 8, 1);
        narrow.sheet(1, 8, 1);
        narrow.write(0, 0, 255);
        narrow.copy(0, 0, 1, 0, 1);
        Edges.is("with its sign", narrow.write(1, 0, 0), -1);
    }

    private static void copyRefused() {
        Edges.sentence(33, "BEYOND: no such sheet (either).");
        Edges.bounds("sheet s", 0, 3, (x, v) -> x.copy(v, 0, 0, 0, 1));
        Edges.bounds("sheet t", 0, 3, (x, v) -> x.copy(0, 0, v, 0, 1));
        Edges.refused("s is missing, no t", Due.BEYOND, x -> x.copy(3, 0, 4, 0, 1));
        Edges.refused("no s, t is missing", Due.BEYOND, x -> x.copy(-1, 0, 3, 0, 1));
        Edges.sentence(33, "MISSING: one is.");
        Edges.refused("s", Due.MISSING, x -> x.copy(3, 0, 0, 0, 0));
        Edges.refused("t", Due.MISSING, x -> x.copy(0, 0, 3, 0, 0));
        Edges.refused("both", Due.MISSING, x -> x.copy(3, 0, 3, 0, 0));
        Edges.sentence(33, "KIND: they are not of as many bits.");
        int[][] unlike = {{0, 1}, {1, 0}, {0, 2}, {2, 0}, {1, 2}, {2, 1}};
        for (int[] u : unlike) Edges.refused(u[0] + " to " + u[1], Due.KIND, x -> x.copy(u[0], 0, u[1], 0, 0));
        Edges.sentence(33, "BEYOND: one has not so many, or from, to or n is below 0.");
        int[] wrap = {Integer.MAX_VALUE, Integer.MAX_VALUE - 38, Integer.MIN_VALUE, -1};
        for (int v : wrap) {
            Edges.refused("from " + v, Due.BEYOND, SheetsEdges::withForty, x -> x.copy(0, v, 1, 0, 39));
            Edges.refused("to " + v, Due.BEYOND, SheetsEdges::withForty, x -> x.copy(0, 0, 1, v, 39));
            Edges.refused("n " + v, Due.BEYOND, SheetsEdges::withForty, x -> x.copy(0, 1, 1, 1, v));
            Edges.refused("from and n " + v, Due.BEYOND, SheetsEdges::withForty, x -> x.copy(0, v, 1, 0, v));
        }
        int[][] many = {{0, 0, 41}, {1, 0, 40}, {0, 1, 40}, {40, 0, 1}, {0, 40, 1}, {41, 0, 0}, {0, 41, 0}, {-1, 0, 1},
            {0, -1, 1}, {-1, 0, 0}, {0, -1, 0}, {0, 0, -1}};
        for (int[] m : many) {
            String told = "from " + m[0] + " to " + m[1] + ", " + m[2];
            Edges.refused(told, Due.BEYOND, SheetsEdges::withForty, x -> x.copy(0, m[0], 1, m[1], m[2]));
        }
        Edges.refused("one of none", Due.BEYOND, SheetsEdges::withNone, x -> x.copy(0, 0, 1, 0, 1));
    }

    private static void lays() {
        Edges.sentence(34, "Numbers of a sheet are WORDS that are SAID in a FLUE, one after the other, with VOICE 5 "
            + "(those that aren't 0 to 15 are left out): how many are not gone.");
        Edges.is("an empty sheet", withNone().lays(0, 0), 0);
        SootTalk x = withForty();
        Edges.is("forty, of which 18 find room", x.lays(0, 0), 18);
        Edges.is("bends 0 to 2 are full", x.of(0, 3), 0xf8);
        Edges.is("then none does", x.lays(0, 0), 0);
        long[] numbers = {0, 15, 16, -1, 256, 1L << 32, Long.MIN_VALUE, Long.MAX_VALUE};
        SootTalk y = Due.withFlues(0);
        y.sheet(0, 64, numbers.length);
        for (int i = 0; i < numbers.length; i++) y.write(0, i, numbers[i]);
        Edges.is("0 and 15", y.lays(0, 0), 2);
        Edges.is("15 on 0", y.order(0, 7, 1, 0), 15);
        Edges.is("on bend 2", y.bend(0, 2, 2), Due.set(0, 15));
        SootTalk narrow = Due.withFlues(0);
        narrow.sheet(0, 8, 2);
        narrow.write(0, 0, 255);
        narrow.write(0, 1, 256);
        Edges.is("255 in 8 bits is no word, 256 is 0", narrow.lays(0, 0), 1);
        SootTalk day2 = Due.withFlues(5);
        day2.sheet(0, 8, 40);
        day2.days(2);
        Edges.is("all are gone", day2.lays(0, 0), 0);
        Edges.is("gone is no finding", day2.status(-1), 0);
        Edges.sentence(34, "BEYOND: no such sheet.");
        Edges.bounds("sheet", 0, 3, (z, v) -> z.lays(v, 0));
        Edges.sentence(34, "MISSING.");
        Edges.refused("sheet 3", Due.MISSING, z -> z.lays(3, 0));
        Edges.sentence(34, "BEYOND: flue.");
        Edges.bounds("flue", 0, 2, (z, v) -> z.lays(0, v));
    }

    private static void book() {
        Edges.sentence(35, "WORDS that a BRUSH of STRENGTH 9 put up a FLUE to 7 brings, in their order, come to a "
            + "sheet, as many as it has numbers (those beyond become -1): how many WORDS there are in all.");
        Edges.is("a bare flue, an empty sheet", withNone().book(0, 0), 0);
        SootTalk bare = withForty();
        Edges.is("a bare flue", bare.book(0, 0), 0);
        Edges.is("the first is beyond", bare.write(0, 0, 0), -1);
        Edges.is("the last is beyond", bare.write(0, 39, 0), -1);
        Edges.is("no other sheet", bare.write(1, 0, 0), 0);
        SootTalk full = Edges.full();
        full.sheet(0, 8, 40);
        full.sheet(1, 8, 0);
        Edges.is("48, though the sheet has 40", full.book(0, 0), 48);
        Edges.is("48, though the sheet has none", full.book(1, 0), 48);
        for (int i = 0; i < 40; i++) Edges.is("number " + i, full.write(0, i, 0), full.order(0, 7, 9, i));
        full.cake(0, 0, 0, 9);
        full.cake(0, 7, 5, 8);
        Edges.is("none under cake 9, the one of cake 8", full.book(0, 0), 42);
        full.sweep(0, 6, 9);
        Edges.is("six", full.book(0, 0), 6);
        Edges.is("the sixth", full.write(0, 5, 0), 0);
        Edges.is("the one beyond", full.write(0, 6, 0), -1);
        Edges.sentence(35, "BEYOND: no such sheet.");
        Edges.bounds("sheet", 0, 3, (x, v) -> x.book(v, 0));
        Edges.sentence(35, "MISSING.");
        Edges.refused("sheet 3", Due.MISSING, x -> x.book(3, 0));
        Edges.sentence(35, "BEYOND: flue.");
        Edges.bounds("flue", 0, 2, (x, v) -> x.book(0, v));
    }

    private static void read() {
        Edges.sentence(36, "numbers of a sheet are WORDS that a BRUSH brings, in their order, all of them: how many "
            + "pairs of a BEND and a STRENGTH bring just these from a FLUE.");
        Edges.is("nothing from a bare flue: all pairs", withNone().read(0, 0), 8 * 9);
        Edges.is("forty from a bare flue", withForty().read(0, 0), 0);
        SootTalk x = Due.withFlues(0);
        x.sheet(0, 64, 1);
        x.write(0, 0, 15);
        Due.house(x, "layer 0 7 15 cake 8");
        Edges.is("bend 7 by 9 alone", x.read(0, 0), 1);
        x.cake(0, 7, 0, 9);
        Edges.is("cake 9", x.read(0, 0), 0);
        x.cake(0, 7, 0, 0);
        Edges.is("bend 7 by all", x.read(0, 0), 9);
        x.write(0, 0, 15 + (1L << 32));
        Edges.is("a number that is no word", x.read(0, 0), 0);
        x.sheet(0, 64, 0);
        Edges.is("nothing, by all bends below", x.read(0, 0), 63);
        x.sheet(0, 64, 2);
        x.write(0, 0, 15);
        Edges.is("one more than comes", x.read(0, 0), 0);
        SootTalk full = Edges.full();
        full.sheet(0, 8, 40);
        full.book(0, 0);
        Edges.is("forty of 48 are not all of them", full.read(0, 0), 0);
        Edges.changesNothing("read", Edges::furnished, y -> y.read(0, 0));
        Edges.sentence(36, "BEYOND: no such sheet.");
        Edges.bounds("sheet", 0, 3, (y, v) -> y.read(v, 0));
        Edges.sentence(36, "MISSING.");
        Edges.refused("sheet 3", Due.MISSING, y -> y.read(3, 0));
        Edges.sentence(36, "BEYOND: flue.");
        Edges.bounds("flue", 0, 2, (y, v) -> y.read(0, v));
    }
}
