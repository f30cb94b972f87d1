/** The edges that promises 1 to 8 name. */
final class FluesEdges {
    private FluesEdges() {
    }

    static void all() {
        newObject();
        flue();
        of();
        bend();
        layer();
        turn();
        as();
        damp();
    }

    private static void newObject() {
        Edges.sentence(1, "No FLUES; THE TAPE is empty, no image is kept.");
        SootTalk x = new SootTalk();
        Edges.is("flues", x.count(0), 0);
        Edges.is("tape", x.wipe(), 0);
        Edges.is("its text ends at once", x.house(), -1);
        Edges.is("image", x.tear(), 0);
        Edges.refused("of flue 0", Due.BEYOND, SootTalk::new, y -> y.of(0, 0));
        Edges.refused("undo", Due.NONE, SootTalk::new, y -> y.undo());
    }

    private static void flue() {
        Edges.sentence(2, "A new FLUE: its number.");
        SootTalk x = new SootTalk();
        for (int f = 0; f < 6; f++) Edges.is("flue " + f, x.flue(f), f);
        for (int f = 0; f < 6; f++) Edges.is("bare flue " + f, x.of(f, 3), 255);
        SootTalk again = new SootTalk();
        again.image();
        again.flue(0);
        for (int i = 0; i < 48; i++) again.say(0, 1, 0);
        again.undo();
        Edges.is("where one was undone", again.flue(0), 0);
        Edges.is("nothing of that is left", again.of(0, 3), 255);
        Edges.sentence(2, "BEYOND: kind.");
        Edges.bounds("kind", 0, 5, (y, v) -> y.flue(v));
        Edges.sentence(2, "FULL.");
        Edges.refused("a seventh", Due.FULL, Edges::withSixFlues, y -> y.flue(0));
        SootTalk made = Due.withFlues(0, 0, 0, 0, 0);
        made.image();
        made.flue(1);
        Edges.is("six are full", made.flue(1), Due.FULL);
        made.undo();
        Edges.is("five are not", made.flue(1), 5);
    }

    private static void of() {
        Edges.sentence(3, "Of a FLUE: what 0 KIND, 1 LAYERS of all BENDS, 2 WORDS that lie there, as a set, 3 BENDS "
            + "on which nothing lies, as a set, 4 what a DAY CAKES now.");
        int[] empty = {0, 0, 0, 255, 0};
        int[] full = {0, 48, 65535, 0, 3};
        for (int what = 0; what < 5; what++) {
            Edges.is("empty, " + what, Due.withFlues(0).of(0, what), empty[what]);
            Edges.is("full, " + what, Edges.full().of(0, what), full[what]);
        }
        SootTalk x = Due.withFlues(3);
        x.damp(9);
        Edges.is("most that a day cakes", x.of(0, 4), 6);
        Edges.sentence(3, "BEYOND.");
        Edges.bounds("flue", 0, 2, (y, v) -> y.of(v, 0));
        Edges.bounds("flue of six", 0, 5, Edges::withSixFlues, (y, v) -> y.of(v, 0));
        Edges.bounds("what", 0, 4, (y, v) -> y.of(0, v));
    }

    private static void bend() {
        Edges.sentence(4, "Of a BEND of a FLUE: what 0 LAYERS, 1 HOLDS, 2 WORDS, as a set.");
        int[] empty = {0, 6, 0};
        int[] lowest = {6, 6, Due.set(42 % 16, 43 % 16, 44 % 16, 45 % 16, 46 % 16, 47 % 16)};
        int[] highest = {6, 6, Due.set(0, 1, 2, 3, 4, 5)};
        for (int what = 0; what < 3; what++) {
            Edges.is("empty, " + what, Due.withFlues(0).bend(0, 7, what), empty[what]);
            Edges.is("full, " + what, Edges.full().bend(0, 0, what), lowest[what]);
            Edges.is("full and highest, " + what, Edges.full().bend(0, 7, what), highest[what]);
        }
        SootTalk overfull = Edges.full();
        overfull.turn(0, 2);
        Edges.is("layers beyond what it holds", overfull.bend(0, 0, 0), 6);
        Edges.is("holds", overfull.bend(0, 0, 1), 3);
        Edges.sentence(4, "BEYOND.");
        Edges.bounds("flue", 0, 2, (x, v) -> x.bend(v, 0, 0));
        Edges.bounds("bend", 0, 7, (x, v) -> x.bend(0, v, 0));
        Edges.bounds("what", 0, 2, (x, v) -> x.bend(0, 0, v));
    }

    private static void layer() {
        Edges.sentence(5, "Of a LAYER of a BEND (0: the top one): what 0 WORD, 1 CAKE.");
        SootTalk x = Edges.full();
        x.cake(0, 7, 0, 9);
        Edges.is("top of a full bend", x.layer(0, 7, 0, 0), 5);
        Edges.is("lowest of a full bend", x.layer(0, 7, 5, 0), 0);
        Edges.is("cake of the top", x.layer(0, 7, 0, 1), 9);
        Edges.is("cake of the lowest", x.layer(0, 7, 5, 1), 0);
        Edges.is("last of all", x.layer(0, 0, 0, 0), 47 % 16);
        Edges.sentence(5, "BEYOND: flue, bend, what.");
        Edges.bounds("flue", 0, 2, (y, v) -> y.layer(v, 0, 0, 0));
        Edges.bounds("bend", 0, 7, (y, v) -> y.layer(0, v, 0, 0));
        Edges.bounds("what", 0, 1, (y, v) -> y.layer(0, 0, 0, v));
        Edges.sentence(5, "NONE: there is none such.");
        for (int k : new int[] {2, 5, 6, -1, 256, 1 << 16, Integer.MIN_VALUE, Integer.MAX_VALUE}) {
            Edges.refused("k " + k, Due.NONE, y -> y.layer(0, 0, k, 0));
            Edges.refused("cake of k " + k, Due.NONE, y -> y.layer(0, 0, k, 1));
        }
        Edges.refused("bare bend", Due.NONE, y -> y.layer(0, 1, 0, 0));
        Edges.refused("under six", Due.NONE, Edges::full, y -> y.layer(0, 7, 6, 0));
    }

    private static void turn() {
        Edges.sentence(6, "A FLUE becomes one of another KIND (its LAYERS stay, also more than it HOLDS): what it "
            + "was.");
        SootTalk x = Edges.full();
        int was = 0;
        for (int kind : new int[] {1, 2, 3, 4, 5, 5, 0}) {
            Edges.is("was", x.turn(0, kind), was);
            Edges.is("is", x.of(0, 0), kind);
            Edges.is("48 stay", x.of(0, 1), 48);
            Edges.is("the lowest stays", x.layer(0, 7, 5, 0), 0);
            was = kind;
        }
        x.turn(0, 2);
        x.cake(0, 7, 2, 9);
        Edges.is("a brush brings them all the same", x.sweep(0, 7, 9), 44);
        Edges.is("what stays", x.bend(0, 7, 0), 4);
        Edges.is("four are still more than it holds", x.count(3), 1);
        Edges.sentence(6, "BEYOND.");
        Edges.bounds("flue", 0, 2, (y, v) -> y.turn(v, 3));
        Edges.bounds("kind", 0, 5, (y, v) -> y.turn(0, v));
    }

    private static void as() {
        Edges.sentence(7, "A FLUE as one of a kind: LAYERS of all BENDS.");
        Edges.is("none", Due.withFlues(4).as(0, 4), 0);
        Edges.is("48", Edges.full().as(0, 0), 48);
        Edges.sentence(7, "BEYOND: no such one, kind.");
        Edges.bounds("flue", 0, 2, (x, v) -> x.as(v, 0));
        Edges.bounds("kind", 0, 5, (x, v) -> x.as(0, v));
        Edges.sentence(7, "KIND: it isn't of that kind, nor of one under it.");
        int[][] above = {{0}, {0, 1}, {0, 2}, {0, 3}, {0, 1, 4}, {0, 2, 5}};
        for (int kind = 0; kind < 6; kind++) {
            int is = Due.set(above[kind]);
            for (int k = 0; k < 6; k++) {
                int asked = k;
                int made = kind;
                boolean isOne = (is >> k & 1) == 1;
                if (isOne) Edges.is(kind + " as " + k, Due.withFlues(kind).as(0, k), 0);
                else Edges.refused(kind + " as " + k, Due.KIND, () -> Due.withFlues(made), x -> x.as(0, asked));
            }
        }
        SootTalk turned = Due.withFlues(4);
        turned.turn(0, 5);
        Edges.is("after a turn", turned.as(0, 1), Due.KIND);
        Edges.is("after a turn, as the new one", turned.as(0, 2), 0);
    }

    private static void damp() {
        Edges.sentence(8, "DAMP becomes v: what it was.");
        SootTalk x = new SootTalk();
        Edges.is("first", x.damp(9), 0);
        Edges.is("highest", x.damp(9), 9);
        Edges.is("lowest", x.damp(0), 9);
        Edges.is("is", x.now(1), 0);
        Edges.sentence(8, "BEYOND.");
        Edges.bounds("damp", 0, 9, (y, v) -> y.damp(v));
    }
}
