/** The edges that promises 28 to 30 name, and those of the text in the document's Terms. */
final class TextEdges {
    private TextEdges() {
    }

    static void all() {
        feed();
        wipe();
        house();
        bytesAndTokens();
        items();
        sayings();
        layers();
        damps();
        faults();
    }

    static SootTalk withFullTape() {
        SootTalk x = Edges.furnished();
        x.wipe();
        for (int i = 0; i < 30; i++) x.feed('d' << 24 | '0' << 16 | ';' << 8 | ' ', 4);
        return x;
    }

    /** With a tape of so many bytes. */
    private static SootTalk withTape(int bytes) {
        SootTalk x = Edges.furnished();
        while (x.count(1) < bytes) x.feed(' ', 1);
        return x;
    }

    private static void feed() {
        Edges.sentence(28, "THE TAPE gets the n lowest bytes of a number behind it, the highest of these first (n 1 "
            + "to 4): how many it has.");
        SootTalk x = Due.withFlues(0);
        Edges.is("four", x.feed('d' << 24 | 'a' << 16 | 'm' << 8 | 'p', 4), 4);
        Edges.is("one, what is above it is left out", x.feed(0x3b3b3b00 | ' ', 1), 5);
        Edges.is("two", x.feed(0x3b3b0000 | '9' << 8 | ';', 2), 7);
        Edges.is("three", x.feed(0xff000000 | 's' << 16 | 'a' << 8 | 'y', 3), 10);
        Edges.is("these bytes", x.house(), -1 - 10);
        int[] wild = {-1, Integer.MIN_VALUE, Integer.MAX_VALUE};
        for (int i = 0; i < wild.length; i++) Edges.is("any number", x.feed(wild[i], 4), 4 * (i + 1));
        Edges.is("a byte of 255 is no token", x.house(), -1);
        Due.feed(x, "damp 9");
        x.feed(0x80 | ' ', 1);
        Edges.is("a byte of 160 is no blank", x.house(), -1 - 6);
        Edges.is("120 at most", withFullTape().count(1), 120);
        Edges.sentence(28, "BEYOND: n.");
        Edges.bounds("n", 1, 4, (y, v) -> y.feed(0, v));
        Edges.sentence(28, "FULL.");
        for (int n = 1; n <= 4; n++) {
            int fed = n;
            Edges.is("just so many", withTape(120 - n).feed(0, n), 120);
            Edges.refused("one too many of " + n, Due.FULL, () -> withTape(121 - fed), y -> y.feed('a', fed));
            Edges.refused("full, " + n, Due.FULL, TextEdges::withFullTape, y -> y.feed('a', fed));
        }
        SootTalk wiped = withFullTape();
        wiped.wipe();
        Edges.is("full no more", wiped.feed(0, 4), 4);
    }

    private static void wipe() {
        Edges.sentence(29, "THE TAPE is empty: how many it had.");
        SootTalk x = new SootTalk();
        Edges.is("empty", x.wipe(), 0);
        x.feed(0, 1);
        Edges.is("one", x.wipe(), 1);
        Edges.is("empty again", x.wipe(), 0);
        SootTalk full = withFullTape();
        Edges.is("full", full.wipe(), 120);
        Edges.is("is empty", full.count(1), 0);
        Edges.is("nothing of it is left", Due.house(full, "damp"), -1 - 4);
    }

    private static void house() {
        Edges.sentence(30, "THE TAPE is THE TEXT of a HOUSE, whose ITEMS come to what there is, and empty then: how "
            + "many ITEMS.");
        SootTalk x = Due.withFlues(0);
        Edges.is("one item", Due.house(x, "wide"), 1);
        Edges.is("it comes to what there was", x.count(0), 2);
        Edges.is("empty then", x.count(1), 0);
        Edges.is("and so no text any more", x.house(), -1);
        Edges.is("most items", Due.house(x, "damp0;".repeat(19) + "damp8"), 20);
        Edges.is("the last of them", x.now(1), 8);
        Edges.sentence(30, "With a FAULT: -1 less its place (nothing changes but that THE TAPE is empty; no finding).");
        String[] texts = {"", "flue;say 0 1;layer 0 1 2 cake 3;damp 5;", "say 0 1;say 0 16", "damp 9;layer 0 8 1",
            "damp 9 9"};
        int[] places = {0, 39, 14, 15, 7};
        for (int i = 0; i < texts.length; i++) {
            SootTalk faulty = Edges.furnished();
            SootTalk twin = Edges.furnished();
            faulty.wipe();
            twin.wipe();
            int found = twin.status(-1);
            Edges.is("'" + texts[i] + "'", Due.house(faulty, texts[i]), -1 - places[i]);
            Edges.is("no finding", faulty.status(-1), found);
            Edges.is("nothing changes", State.of(faulty).equals(State.of(twin)) ? 1 : 0, 1);
        }
    }

    private static void bytesAndTokens() {
        Edges.sentence(0, "THE TEXT of a HOUSE, from THE TAPE (bytes, at most 120).");
        is("damp 7" + " ".repeat(113) + "x", -1 - 119);
        is("damp 7" + " ".repeat(114), 1);
        is(" ".repeat(115) + "damp1", 1);
        is(" ".repeat(116) + "damp", -1 - 120);
        Edges.sentence(0, "TOKENS, each as long as can be: WORDS of the text (letters a to z), NUMBERS (digits, 999 "
            + "at most), SIGN ; ; blanks may stand between.");
        is("fluea", -1);
        is("fluez", -1);
        is("flue`", -1 - 4);
        is("flue{", -1 - 4);
        is("flueA", -1 - 4);
        is("flueflue", -1);
        is("say 0 1voice3", 1);
        is("say 0 1 voice 3", 1);
        is("say01", -1 - 5);
        is("damp 00", 1);
        is("damp 009", 1);
        is("damp 0000000000000000000000000000000009", 1);
        is("damp 999", -1 - 5);
        is("damp 1000", -1 - 5);
        is("damp 4294967296", -1 - 5);
        is("damp 18446744073709551617", -1 - 5);
        is("damp 1/", -1 - 6);
        is("damp 1:", -1 - 6);
        is("damp 1<", -1 - 6);
        is("damp\u001f1", -1 - 4);
        is("damp!1", -1 - 4);
        is("damp\t1", -1 - 4);
        is("damp\n1", -1 - 4);
        is("  damp   1  ;  flue  ", 2);
        is("damp1;flue", 2);
    }

    private static void items() {
        Edges.sentence(0, "TEXT: ITEM { ; ITEM }.");
        is("", -1);
        is(" ", -1 - 1);
        is(";", -1);
        is(" ;", -1 - 1);
        is(";flue", -1);
        is("flue;", -1 - 5);
        is("flue; ", -1 - 6);
        is("flue;;flue", -1 - 5);
        is("flue flue", -1 - 5);
        Edges.sentence(0, "ITEM: the name of a KIND (flue crooked wide shut queens jackdaw): a new FLUE;");
        String[] names = {"flue", "crooked", "wide", "shut", "queens", "jackdaw"};
        for (int kind = 0; kind < 6; kind++) {
            SootTalk x = Due.withFlues(0);
            Edges.is(names[kind], Due.house(x, names[kind]), 1);
            Edges.is("kind of " + names[kind], x.of(1, 0), kind);
            Edges.is(names[kind] + " is bare", x.of(1, 3), 255);
        }
        is("flue 0", -1 - 5);
        is("flu", -1);
        is("queen", -1);
        is("jackdaws", -1);
        SootTalk x = new SootTalk();
        Edges.is("six from none", Due.house(x, "flue;flue;flue;flue;flue;flue"), 6);
        Edges.is("six", x.count(0), 6);
    }

    private static void sayings() {
        Edges.sentence(0, "say, a NUMBER (a FLUE there by then), a NUMBER (a WORD), perhaps voice and a NUMBER (0 "
            + "to 9; 5 without): that is SAID there;");
        is("say 1 1", 1);
        is("say 2 1", -1 - 4);
        is("wide;say 2 1", 2);
        is("say 2 1;wide", -1 - 4);
        is("wide;say 3 1", -1 - 9);
        Edges.is("no flue at all", Due.house(new SootTalk(), "say 0 1"), -1 - 4);
        is("say 0 0", 1);
        is("say 0 15", 1);
        is("say 0 16", -1 - 6);
        is("say 0 1 voice 9", 1);
        is("say 0 1 voice 10", -1 - 14);
        is("say 0 1 cake 1", -1 - 8);
        for (int v = 0; v < 10; v++) {
            SootTalk x = Due.withFlues(0);
            Due.house(x, "say 0 15 voice " + v);
            Edges.is("voice " + v, x.bend(0, Math.max(0, 7 - v), 2), Due.set(15));
        }
        SootTalk x = Due.withFlues(0);
        Due.house(x, "say 0 0");
        Edges.is("5 without", x.bend(0, 2, 2), Due.set(0));
        SootTalk full = Edges.full();
        Edges.is("gone is an item all the same", Due.house(full, "say 0 1;say 0 1 voice 0"), 2);
        Edges.is("48 stay", full.now(2), 48);
        SootTalk day2 = Due.withFlues(5);
        day2.days(2);
        Edges.is("to the jackdaws", Due.house(day2, "say 0 1;jackdaw;say 1 1;flue;say 2 1"), 5);
        Edges.is("but for the plain flue", day2.where(1), Due.set(2));
    }

    private static void layers() {
        Edges.sentence(0, "layer, a NUMBER (a FLUE there by then), a NUMBER (a BEND), a NUMBER (a WORD), perhaps "
            + "cake and a NUMBER (0 to 9): a LAYER on top there, if the BEND HOLDS it (else nothing);");
        is("layer 1 0 0", 1);
        is("layer 2 0 0", -1 - 6);
        is("shut;layer 2 0 0", 2);
        is("layer 0 7 0", 1);
        is("layer 0 8 0", -1 - 8);
        is("layer 0 7 15", 1);
        is("layer 0 7 16", -1 - 10);
        is("layer 0 7 15 cake 0", 1);
        is("layer 0 7 15 cake 9", 1);
        is("layer 0 7 15 cake 10", -1 - 18);
        is("layer 0 7 15 voice 1", -1 - 13);
        SootTalk x = Due.withFlues(0);
        Due.house(x, "layer 0 7 15 cake 9;layer 0 7 0");
        Edges.is("on top", x.layer(0, 7, 0, 0), 0);
        Edges.is("loose without", x.layer(0, 7, 0, 1), 0);
        Edges.is("cake 9", x.layer(0, 7, 1, 1), 9);
        SootTalk full = Edges.full();
        Edges.is("nothing, but an item", Due.house(full, "layer 0 7 15 cake 9"), 1);
        Edges.is("the top stays", full.layer(0, 7, 0, 0), 5);
        full.sweep(0, 0, 9);
        Due.house(full, "layer 0 1 15");
        Edges.is("it doesn't fall, as what is said does", full.bend(0, 0, 0), 0);
        SootTalk wide = Due.withFlues(2);
        Due.house(wide, "layer 0 7 1;layer 0 7 2;layer 0 7 3;layer 0 7 4");
        Edges.is("three on a wide bend, where no word rises", wide.bend(0, 7, 2), Due.set(1, 2, 3));
    }

    private static void damps() {
        Edges.sentence(0, "damp and a NUMBER (0 to 9).");
        for (int d = 0; d < 10; d++) {
            SootTalk x = new SootTalk();
            x.damp(5);
            Edges.is("damp " + d, Due.house(x, "damp " + d), 1);
            Edges.is("damp is " + d, x.now(1), d);
        }
        is("damp 10", -1 - 5);
        is("damp", -1 - 4);
    }

    private static void faults() {
        Edges.sentence(0, "FAULT: the place (from 0) of the first byte of the first TOKEN that can't stand there (a "
            + "NUMBER that may not be,");
        is("damp 10;damp 10", -1 - 5);
        is("say   2   16", -1 - 6);
        is("0", -1);
        is("7 flue", -1);
        Edges.sentence(0, "another WORD,");
        is("x", -1);
        is("xlue", -1);
        is("xay 0 1", -1);
        is("  house", -1 - 2);
        is("voice 1", -1);
        is("cake 1", -1);
        is("flue;voice", -1 - 5);
        is("say say 1", -1 - 4);
        is("say 0 flue", -1 - 6);
        is("say 0 1 voice cake", -1 - 14);
        is("layer 0 0 0 cake cake", -1 - 17);
        is("damp damp", -1 - 5);
        is("say 0 1 flue", -1 - 8);
        Edges.sentence(0, "a byte that begins no TOKEN,");
        is("$flue", -1);
        is("say -1 1", -1 - 4);
        is("say 0,1", -1 - 5);
        is("damp 1.", -1 - 6);
        is("FLUE", -1);
        is("\u0000", -1);
        is("flue\u00ff", -1 - 4);
        Edges.sentence(0, "the name of a KIND for a 7th: its own),");
        SootTalk x = Due.withFlues(0, 0, 0, 0, 0);
        Edges.is("a 6th and a 7th", Due.house(x, "flue; wide"), -1 - 6);
        Edges.is("no 6th", x.count(0), 5);
        Edges.is("a 6th", Due.house(x, "flue;say 5 1"), 2);
        for (String name : new String[] {"flue", "crooked", "wide", "shut", "queens", "jackdaw"}) {
            Edges.is("a 7th, " + name, Due.house(x, "damp 1;" + name), -1 - 7);
        }
        Edges.is("other items still are", Due.house(x, "damp 1;say 5 1;layer 5 0 0"), 3);
        Edges.is("no finding", x.status(-1), 0);
        Edges.sentence(0, "or how many bytes there are if it ends too early.");
        is("   ", -1 - 3);
        String[] cut = {"say", "say 0", "say 0 1 voice", "layer", "layer 0", "layer 0 1", "layer 0 1 2 cake", "damp",
            "flue;", "say 0 ", "damp  "};
        for (String text : cut) is(text, -1 - text.length());
    }

    /** What house() answers to a text, with flues 0 and 1 there. */
    private static void is(String text, int due) {
        Edges.is("'" + text + "'", Due.house(Due.withFlues(0, 0), text), due);
    }
}
