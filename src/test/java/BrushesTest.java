/** Promises 14 to 17. */
final class BrushesTest {
    public static void main(String[] args) {
        sweep();
        brought();
        order();
        on();
        Due.end();
    }

    /** As laid(), with damp: a brush that is put up a day late brings less. */
    static SootTalk laidInDamp() {
        SootTalk x = laid();
        x.damp(9);
        return x;
    }

    /** Bend 0, from the top: 1 (cake 2), 2 (cake 5), 3 (loose). Bend 3: 4 (cake 1). Bend 7: 5 (cake 8), 1 (cake 9). */
    static SootTalk laid() {
        SootTalk x = Due.withFlues(0);
        Due.house(x, "layer 0 0 3;layer 0 0 2 cake 5;layer 0 0 1 cake 2;layer 0 3 4 cake 1");
        Due.house(x, "layer 0 7 1 cake 9;layer 0 7 5 cake 8");
        return x;
    }

    private static void sweep() {
        SootTalk x = laidInDamp();
        Due.is("14: cake 2 stays for strength 2", x.sweep(0, 2, 2), 0);
        Due.is("14: the bend above comes all the same", x.sweep(0, 3, 2), 1);
        Due.is("14: it is gone", x.bend(0, 3, 0), 0);
        Due.is("14: only the top", x.sweep(0, 7, 5), 1);
        Due.is("14: next is on top", x.layer(0, 0, 0, 0), 2);
        Due.is("14: what lay under comes, 9 stays", x.sweep(0, 7, 9), 3);
        Due.is("14: 9 never comes", x.sweep(0, 7, 9), 0);
        Due.is("14: the word that stays", x.now(3), Due.set(1));
        wrongBrushes(x);
        Due.is("14: wrong ones bring nothing", x.now(2), 1);
        SootTalk y = laid();
        Due.is("14: lower bends only", y.sweep(0, 6, 9), 4);
        Due.is("14: upper stay", y.of(0, 3), 127);
    }

    private static void wrongBrushes(SootTalk x) {
        int[][] wrong = {{1, 0, 1}, {-1, 0, 1}, {0, 8, 1}, {0, -1, 1}, {0, 0, 0}, {0, 0, 10}, {0, 0, -1},
            {Integer.MAX_VALUE, 0, 1}, {0, Integer.MIN_VALUE, 1}, {0, 0, Integer.MAX_VALUE}};
        for (int[] w : wrong) {
            Due.is("14: beyond", x.sweep(w[0], w[1], w[2]), Due.BEYOND);
            Due.is("15: beyond", x.brought(w[0], w[1], w[2]), Due.BEYOND);
            Due.is("16: beyond", x.order(w[0], w[1], w[2], 0), Due.BEYOND);
            Due.is("17: beyond", x.on(w[0], w[1], w[2], 0), Due.BEYOND);
        }
    }

    private static void brought() {
        SootTalk x = laidInDamp();
        Due.is("15: none", x.brought(0, 2, 2), 0);
        Due.is("15: one bend", x.brought(0, 0, 3), Due.set(1));
        Due.is("15: two bends", x.brought(0, 3, 3), Due.set(1, 4));
        Due.is("15: all that comes", x.brought(0, 7, 9), Due.set(1, 2, 3, 4, 5));
        Due.is("15: nothing changes", x.now(2), 6);
    }

    private static void order() {
        SootTalk x = laidInDamp();
        int[] words = {1, 2, 3, 4, 5};
        for (int k = 0; k < words.length; k++) Due.is("16: word " + k, x.order(0, 7, 9, k), words[k]);
        Due.is("16: so many don't come", x.order(0, 7, 9, 5), Due.NONE);
        Due.is("16: largest k", x.order(0, 7, 9, Integer.MAX_VALUE), Due.NONE);
        Due.is("16: stronger above a stuck bend", x.order(0, 7, 2, 0), 4);
        Due.is("16: k -1", x.order(0, 7, 9, -1), Due.BEYOND);
        Due.is("16: least k", x.order(0, 7, 9, Integer.MIN_VALUE), Due.BEYOND);
        Due.is("16: nothing changes", x.now(2), 6);
    }

    private static void on() {
        SootTalk x = laid();
        Due.is("17: without damp", x.on(0, 7, 9, 60), 5);
        x.damp(3);
        Due.is("17: today", x.on(0, 7, 9, 0), 5);
        Due.is("17: a day on", x.on(0, 7, 9, 1), 4);
        Due.is("17: four days on", x.on(0, 7, 9, 4), 2);
        Due.is("17: seven days on", x.on(0, 7, 9, 7), 1);
        Due.is("17: eight days on", x.on(0, 7, 9, 8), 0);
        Due.is("17: sixty days on", x.on(0, 7, 9, 60), 0);
        Due.is("17: n 61", x.on(0, 7, 9, 61), Due.BEYOND);
        Due.is("17: n -1", x.on(0, 7, 9, -1), Due.BEYOND);
        Due.is("17: no day goes", x.now(0), 0);
        Due.is("17: nothing cakes", x.now(4), 2 + 5 + 1 + 8 + 9);
    }
}
