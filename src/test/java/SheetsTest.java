/** Promises 31 to 36. */
final class SheetsTest {
    public static void main(String[] args) {
        sheet();
        write();
        copy();
        lays();
        book();
        read();
        Due.end();
    }

    private static void sheet() {
        SootTalk x = new SootTalk();
        for (int bits : new int[] {8, 16, 64}) {
            Due.is("31: forty", x.sheet(3, bits, 40), 40);
            Due.is("31: all 0", x.write(3, 39, 7), 0);
            Due.is("31: the first, too", x.write(3, 0, 7), 0);
            Due.is("31: none at all", x.sheet(3, bits, 0), 0);
            Due.is("31: that is no missing one", x.write(3, 0, 0), Due.BEYOND);
            Due.is("31: again", x.sheet(3, bits, 40), 40);
            Due.is("31: 0 again", x.write(3, 39, 0), 0);
            Due.is("31: the first is 0 again", x.write(3, 0, 0), 0);
        }
        Due.is("31: missing", x.sheet(3, 0, 40), 0);
        Due.is("31: is missing", x.write(3, 0, 0), Due.MISSING);
        int[][] beyond = {{4, 8, 1}, {-1, 8, 1}, {0, 1, 1}, {0, 32, 1}, {0, -8, 1}, {4, 8, -1}, {0, 7, -1}, {0, 8, 41},
            {0, 0, 41}, {Integer.MIN_VALUE, 8, 1}, {0, Integer.MAX_VALUE, 1}, {0, 64, Integer.MAX_VALUE}};
        for (int[] b : beyond) Due.is("31: beyond", x.sheet(b[0], b[1], b[2]), Due.BEYOND);
        Due.is("31: size", x.sheet(0, 8, -1), Due.SIZE);
        Due.is("31: size with bits 0", x.sheet(0, 0, -1), Due.SIZE);
        Due.is("31: least size", x.sheet(0, 64, Integer.MIN_VALUE), Due.SIZE);
        Due.is("31: still missing", x.write(0, 0, 0), Due.MISSING);
        x.sheet(1, 8, 3);
        x.write(1, 1, 5);
        x.sheet(1, 8, 41);
        Due.is("31: a finding changes nothing", x.write(1, 1, 5), 5);
    }

    private static void write() {
        SootTalk x = new SootTalk();
        Due.is("32: missing before no such number", x.write(0, 99, 1), Due.MISSING);
        Due.is("32: no such sheet", x.write(4, 0, 1), Due.BEYOND);
        Due.is("32: sheet -1", x.write(-1, 0, 1), Due.BEYOND);
        x.sheet(0, 8, 2);
        x.sheet(1, 16, 2);
        x.sheet(2, 64, 2);
        long[] written = {127, 128, 255, 256, -1, -129, 0x1234567890ABCDEFL, Long.MIN_VALUE, Long.MAX_VALUE};
        long[] of8 = {127, -128, -1, 0, -1, 127, -17, 0, -1};
        long[] of16 = {127, 128, 255, 256, -1, -129, -12817, 0, -1};
        for (int i = 0; i < written.length; i++) {
            x.write(0, 1, written[i]);
            x.write(1, 1, written[i]);
            x.write(2, 1, written[i]);
            Due.is("32: 8 bits of " + written[i], x.write(0, 1, 0), of8[i]);
            Due.is("32: 16 bits of " + written[i], x.write(1, 1, 0), of16[i]);
            Due.is("32: 64 bits of " + written[i], x.write(2, 1, 0), written[i]);
        }
        Due.is("32: the other stays", x.write(2, 0, Due.SIZE), 0);
        Due.is("32: number 2", x.write(2, 2, 1), Due.BEYOND);
        Due.is("32: number -1", x.write(2, -1, 1), Due.BEYOND);
        for (int wild : Due.WILD) Due.is("32: wild number", x.write(2, wild, 1), Due.BEYOND);
        int sizes = x.status(6);
        Due.is("32: a number like a finding", x.write(2, 0, 0), Due.SIZE);
        Due.is("32: is none", x.status(6), sizes);
    }

    private static void copy() {
        SootTalk x = new SootTalk();
        x.sheet(0, 64, 5);
        x.sheet(1, 64, 3);
        x.sheet(2, 8, 3);
        for (int i = 0; i < 5; i++) x.write(0, i, i + 1);
        Due.is("33: to another", x.copy(0, 1, 1, 0, 3), 3);
        Due.are("33: another", row(x, 1, 3), 2, 3, 4);
        Due.is("33: up over itself", x.copy(0, 0, 0, 1, 4), 4);
        Due.are("33: as they were, up", row(x, 0, 5), 1, 1, 2, 3, 4);
        Due.is("33: down over itself", x.copy(0, 1, 0, 0, 4), 4);
        Due.are("33: as they were, down", row(x, 0, 5), 1, 2, 3, 4, 4);
        Due.is("33: none", x.copy(0, 5, 1, 3, 0), 0);
        int[][] beyond = {{4, 0, 0, 0, 0}, {0, 0, -1, 0, 0}, {-1, 0, 3, 0, 0}, {3, 0, 4, 0, 0}, {0, -1, 1, 0, 1},
            {0, 0, 1, -1, 1}, {0, 0, 1, 0, -1}, {0, 3, 1, 0, 3}, {0, 0, 1, 1, 3}, {0, 6, 1, 0, 0}, {0, 0, 1, 4, 0},
            {0, Integer.MAX_VALUE, 1, 0, 1}, {0, 1, 1, 0, Integer.MAX_VALUE}, {0, 0, 1, Integer.MAX_VALUE, 2},
            {0, Integer.MIN_VALUE, 1, 0, Integer.MIN_VALUE}};
        for (int[] b : beyond) Due.is("33: beyond", x.copy(b[0], b[1], b[2], b[3], b[4]), Due.BEYOND);
        Due.is("33: missing", x.copy(0, 0, 3, 0, 1), Due.MISSING);
        Due.is("33: missing before beyond", x.copy(3, -1, 0, 0, 1), Due.MISSING);
        Due.is("33: bits", x.copy(0, 0, 2, 0, 1), Due.KIND);
        Due.is("33: bits before beyond", x.copy(2, 9, 0, 0, 1), Due.KIND);
        Due.are("33: findings change nothing", row(x, 1, 3), 2, 3, 4);
    }

    private static long[] row(SootTalk x, int s, int n) {
        long[] row = new long[n];
        for (int i = 0; i < n; i++) {
            row[i] = x.write(s, i, 0);
            x.write(s, i, row[i]);
        }
        return row;
    }

    private static void lays() {
        SootTalk x = Due.withFlues(0, 2);
        wrongSheets(x, 34);
        x.sheet(0, 64, 7);
        long[] numbers = {3, 16, -1, 0, 15, 1L << 32, Long.MIN_VALUE};
        for (int i = 0; i < numbers.length; i++) x.write(0, i, numbers[i]);
        Due.is("34: words alone", x.lays(0, 0), 3);
        Due.is("34: on bend 2", x.bend(0, 2, 0), 3);
        Due.is("34: one after the other", x.order(0, 7, 1, 0), 15);
        Due.is("34: the first is lowest", x.order(0, 7, 1, 2), 3);
        x.say(1, 1, 9);
        Due.is("34: not gone", x.lays(0, 1), 2);
        Due.is("34: which", x.of(1, 2), Due.set(0, 1, 3));
        x.sheet(0, 8, 0);
        Due.is("34: an empty sheet", x.lays(0, 0), 0);
        SootTalk y = Due.withFlues(5);
        y.sheet(0, 8, 2);
        y.days(2);
        Due.is("34: to the jackdaws", y.lays(0, 0), 0);
    }

    /** What lays, book and read ask alike. */
    private static void wrongSheets(SootTalk x, int promise) {
        x.sheet(1, 8, 3);
        x.sheet(2, 0, 0);
        int[][] asked = {{4, 0, Due.BEYOND}, {-1, 0, Due.BEYOND}, {4, 99, Due.BEYOND}, {2, 0, Due.MISSING},
            {2, 99, Due.MISSING}, {1, 99, Due.BEYOND}, {1, -1, Due.BEYOND}, {1, 2, Due.BEYOND}};
        for (int[] a : asked) {
            int got = promise == 34 ? x.lays(a[0], a[1]) : promise == 35 ? x.book(a[0], a[1]) : x.read(a[0], a[1]);
            Due.is(promise + ": sheet " + a[0] + ", flue " + a[1], got, a[2]);
        }
    }

    private static void book() {
        SootTalk x = BrushesTest.laidInDamp();
        x.flue(0);
        wrongSheets(x, 35);
        for (int bits : new int[] {8, 16, 64}) {
            x.sheet(0, bits, 7);
            Due.is("35: words", x.book(0, 0), 5);
            Due.are("35: in their order", row(x, 0, 7), 1, 2, 3, 4, 5, -1, -1);
            x.sheet(0, bits, 2);
            Due.is("35: in all", x.book(0, 0), 5);
            Due.are("35: as many as it has", row(x, 0, 2), 1, 2);
            Due.is("35: nothing comes", x.book(0, 1), 0);
            Due.are("35: all are beyond", row(x, 0, 2), -1, -1);
        }
        Due.is("35: nothing changes", x.now(2), 6);
    }

    private static void read() {
        SootTalk x = BrushesTest.laidInDamp();
        x.flue(0);
        wrongSheets(x, 36);
        x.sheet(0, 64, 5);
        x.book(0, 0);
        Due.is("36: bend 7 with 9", x.read(0, 0), 1);
        Due.is("36: not from another", x.read(0, 1), 0);
        x.write(0, 4, 1L << 32 | 5);
        Due.is("36: wide numbers are no words", x.read(0, 0), 0);
        x.sheet(0, 64, 4);
        x.book(0, 0);
        Due.is("36: bends 3 to 6 with 6 to 9, 7 with 6 to 8", x.read(0, 0), 4 * 4 + 3);
        x.sheet(0, 8, 1);
        x.write(0, 0, 1);
        Due.is("36: bends 0 to 2 with 3 to 5", x.read(0, 0), 9);
        x.write(0, 0, 4);
        Due.is("36: bends 3 to 7 with 2", x.read(0, 0), 5);
        x.sheet(0, 8, 0);
        Due.is("36: nothing, by 1 always and by 2 under bend 3", x.read(0, 0), 8 + 3);
        Due.is("36: from an empty one all", x.read(0, 1), 72);
        x.sheet(0, 8, 2);
        x.write(0, 0, 4);
        x.write(0, 1, 1);
        Due.is("36: another order", x.read(0, 0), 0);
        x.write(0, 0, 1);
        x.write(0, 1, 4);
        Due.is("36: bends 3 to 7 with 3 to 5", x.read(0, 0), 15);
        Due.is("36: nothing changes", x.now(2), 6);
    }
}
