/** Promises 28 to 30. */
final class TextTest {
    public static void main(String[] args) {
        feed();
        wipe();
        items();
        optionalParts();
        roomInTheText();
        faults();
        faultsChangeNothing();
        sevenths();
        Due.end();
    }

    private static void feed() {
        SootTalk x = new SootTalk();
        Due.is("28: n 0", x.feed(0, 0), Due.BEYOND);
        Due.is("28: n 5", x.feed(0, 5), Due.BEYOND);
        Due.is("28: n -1", x.feed(0, -1), Due.BEYOND);
        Due.is("28: highest first", x.feed('f' << 24 | 'l' << 16 | 'u' << 8 | 'e', 4), 4);
        Due.is("28: three, the rest is left out", x.feed('x' << 24 | ';' << 16 | 's' << 8 | 'h', 3), 7);
        Due.is("28: two", x.feed(0x41410000 | 'u' << 8 | 't', 2), 9);
        Due.is("28: one", x.feed(0x41414100 | ';', 1), 10);
        Due.is("28: of it", x.house(), -1 - 10);
        for (int i = 1; i <= 29; i++) Due.is("28: how many", x.feed(0, 4), 4 * i);
        Due.is("28: to 119", x.feed(0, 3), 119);
        Due.is("28: too many", x.feed(0, 2), Due.FULL);
        Due.is("28: to 120", x.feed(0, 1), 120);
        Due.is("28: full", x.feed(0, 1), Due.FULL);
        Due.is("28: beyond before full", x.feed(0, 5), Due.BEYOND);
        for (int wild : Due.WILD) Due.is("28: wild n", x.feed(0, wild), Due.BEYOND);
        Due.is("28: 120 stay", x.count(1), 120);
    }

    private static void wipe() {
        SootTalk x = new SootTalk();
        Due.is("29: empty", x.wipe(), 0);
        Due.feed(x, "flue");
        Due.is("29: had", x.wipe(), 4);
        Due.is("29: is empty", x.count(1), 0);
        Due.is("29: nothing of it is left", Due.house(x, "shut"), 1);
        Due.is("29: the new one", x.of(0, 0), 3);
    }

    private static void items() {
        SootTalk x = new SootTalk();
        Due.is("30: kinds", Due.house(x, "flue;crooked;wide;shut;queens;jackdaw"), 6);
        for (int f = 0; f < 6; f++) Due.is("30: kind " + f, x.of(f, 0), f);
        Due.is("30: tape is empty", x.count(1), 0);
        Due.is("30: said and laid", Due.house(x, "say 0 3 ; layer 4 7 15 cake 9;damp 9;say 0 4"), 4);
        Due.is("30: said with 5", x.layer(0, 2, 1, 0), 3);
        Due.is("30: said behind it", x.layer(0, 2, 0, 0), 4);
        Due.is("30: laid", x.layer(4, 7, 0, 0), 15);
        Due.is("30: its cake", x.layer(4, 7, 0, 1), 9);
        Due.is("30: damp", x.now(1), 9);
        Due.is("30: no day goes", x.now(0), 0);
        SootTalk y = new SootTalk();
        Due.is("30: a flue of the same text", Due.house(y, "shut;say 0 1;flue;say 1 2"), 4);
        Due.is("30: said in the first", y.bend(0, 0, 2), Due.set(1));
        Due.is("30: said in the second", y.bend(1, 2, 2), Due.set(2));
    }

    private static void optionalParts() {
        SootTalk x = Due.withFlues(0);
        Due.is("30: voice 0", Due.house(x, "say 0 1 voice 0"), 1);
        Due.is("30: on 7", x.bend(0, 7, 2), Due.set(1));
        Due.is("30: voice 9", Due.house(x, "say 0 15 voice 9"), 1);
        Due.is("30: on 0", x.bend(0, 0, 2), Due.set(15));
        Due.is("30: no blanks needed", Due.house(x, "say0 2voice3;layer0 6 3cake4;damp8"), 3);
        Due.is("30: on 4", x.bend(0, 4, 2), Due.set(2));
        Due.is("30: cake 4", x.layer(0, 6, 0, 1), 4);
        Due.is("30: damp 8", x.now(1), 8);
        Due.is("30: no cake", Due.house(x, "  layer  0  6  5  "), 1);
        Due.is("30: loose", x.layer(0, 6, 0, 1), 0);
        Due.is("30: zeros ahead", Due.house(x, "damp 0000000000000007"), 1);
        Due.is("30: damp 7", x.now(1), 7);
        Due.is("30: all that is 0", Due.house(x, "damp 0;say 0 0 voice 0;layer 0 0 0 cake 0"), 3);
        Due.is("30: damp 0", x.now(1), 0);
        Due.is("30: word 0 on 7", x.layer(0, 7, 0, 0), 0);
        Due.is("30: word 0 on 0", x.layer(0, 0, 0, 0), 0);
    }

    private static void roomInTheText() {
        SootTalk x = Due.withFlues(2);
        Due.is("30: nothing where it holds no more", Due.house(x, "layer 0 1 1;layer 0 1 2;layer 0 1 3;layer 0 1 4"), 4);
        Due.is("30: three", x.bend(0, 1, 2), Due.set(1, 2, 3));
        Due.is("30: nothing falls", x.now(2), 3);
        Due.house(x, "say 0 5;say 0 5;say 0 5");
        Due.is("30: gone is an item", Due.house(x, "say 0 6"), 1);
        Due.is("30: gone", x.now(3), Due.set(1, 2, 3, 5));
        SootTalk y = Due.withFlues(5);
        y.days(2);
        Due.is("30: to the jackdaws", Due.house(y, "say 0 1;layer 0 1 2"), 2);
        Due.is("30: laid all the same", y.now(3), Due.set(2));
    }

    private static void faults() {
        String[] texts = {"", "   ", ";", "flue;", "flue; ", "flue ;;", "flue flue", "flue 0", "fluex", "Flue", "flue\t",
            "say", "say ", "say 0", "say 1 1", "say 0 16", "say 0 15 voice", "say 0 15 voice 10", "say 0 15 cake 1",
            "say 0 15 voice ;", "say x 1", "say 0 1 2", "say 0 1 voice 1 voice 1", "say;",
            "layer 0 8 1", "layer 1 0 1", "layer 0 7 16", "layer 0 7 15 cake 10", "layer 0 7 15 voice 1", "layer 0 7",
            "damp", "damp 10", "damp x", "damp 9 9", "damp 4294967296", "damp 1000", "say 0 4294967297",
            "flue;say 2 1", "flue;say 1 1;wide $", "wide,", "voice 1", "cake", "damp -1", "\u00e4", "shut;damp 1\u0000",
            "fluez", "aflue", "xay 0 1", "xlue", "say;flue", "say 0;flue", "say 0 1 voice;flue", "layer;flue",
            "layer 0;flue", "layer 0 1;flue", "layer 0 1 2 cake;flue", "damp;flue"};
        int[] places = {0, 3, 0, 5, 6, 6, 5, 5, 0, 0, 4,
            3, 4, 5, 4, 6, 14, 15, 9,
            15, 4, 8, 16, 3,
            8, 6, 10, 18, 13, 9,
            4, 5, 5, 7, 5, 5, 6,
            9, 18, 4, 0, 0, 5, 0, 11,
            0, 0, 0, 0, 3, 5, 13, 5,
            7, 9, 16, 4};
        Due.is("30: as many places as texts", places.length, texts.length);
        for (int i = 0; i < texts.length; i++) {
            SootTalk x = Due.withFlues(0);
            Due.is("30: fault of '" + texts[i] + "'", Due.house(x, texts[i]), -1 - places[i]);
            Due.is("30: tape is empty after '" + texts[i] + "'", x.count(1), 0);
            Due.is("30: no finding after '" + texts[i] + "'", x.status(-1), 0);
        }
        SootTalk x = new SootTalk();
        Due.is("30: no flue there", Due.house(x, "say 0 1;flue"), -5);
    }

    private static void faultsChangeNothing() {
        SootTalk x = Due.withFlues(0);
        Due.is("30: at the end", Due.house(x, "flue;say 0 1;layer 0 1 2;damp 3;x"), -1 - 32);
        Due.is("30: no flue", x.count(0), 1);
        Due.is("30: no layer", x.now(2), 0);
        Due.is("30: no damp", x.now(1), 0);
        Due.is("30: then a right one", Due.house(x, "flue;say 1 1"), 2);
        StringBuilder longest = new StringBuilder("damp 1");
        while (longest.length() + 7 <= 120) longest.append(";damp 2");
        while (longest.length() < 120) longest.append(' ');
        Due.is("30: 120 bytes", Due.house(x, longest.toString()), 17);
        longest.setCharAt(119, ';');
        Due.is("30: 120 bytes, too early", Due.house(x, longest.toString()), -121);
    }

    private static void sevenths() {
        SootTalk x = Due.withFlues(0, 0, 0, 0, 0);
        Due.is("30: a seventh", Due.house(x, "wide; shut"), -1 - 6);
        Due.is("30: five stay", x.count(0), 5);
        Due.is("30: a sixth", Due.house(x, "wide"), 1);
        Due.is("30: none more", Due.house(x, "wide"), -1);
        Due.is("30: no finding", x.status(-1), 0);
    }
}
