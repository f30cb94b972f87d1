/** The edges that promises 14 to 17 name. */
final class BrushesEdges {
    private BrushesEdges() {
    }

    static void all() {
        sweep();
        brought();
        order();
        on();
    }

    private static void sweep() {
        Edges.sentence(14, "A BRUSH is put up: how many LAYERS come, which are gone then.");
        Edges.is("a bare flue", Due.withFlues(0).sweep(0, 7, 9), 0);
        SootTalk x = Edges.full();
        Edges.is("bend 0 alone", x.sweep(0, 0, 1), 6);
        Edges.is("bend 0 is bare", x.of(0, 3), 1);
        Edges.is("bends 0 to 6", x.sweep(0, 6, 1), 36);
        Edges.is("all but bend 7 are bare", x.of(0, 3), 127);
        Edges.is("the last bend", x.sweep(0, 7, 1), 6);
        Edges.is("nothing is left", x.sweep(0, 7, 9), 0);
        Edges.is("nothing lies", x.now(2), 0);
        Edges.is("all 48 at once", Edges.full().sweep(0, 7, 1), 48);
        SootTalk caked = Edges.full();
        caked.days(60);
        Edges.is("none of cake 9", caked.sweep(0, 7, 9), 0);
        Edges.is("all stay", caked.now(2), 48);
        SootTalk two = Due.withFlues(0, 0);
        two.say(0, 1, 0);
        two.say(1, 2, 0);
        two.sweep(0, 7, 9);
        Edges.is("the other flue is as it was", two.now(3), Due.set(2));
        Edges.sentence(14, "BEYOND.");
        Edges.bounds("flue", 0, 2, (y, v) -> y.sweep(v, 7, 9));
        Edges.bounds("bend", 0, 7, (y, v) -> y.sweep(0, v, 9));
        Edges.bounds("strength", 1, 9, (y, v) -> y.sweep(0, 7, v));
    }

    private static void brought() {
        Edges.sentence(15, "BROUGHT.");
        Edges.is("a bare flue", Due.withFlues(0).brought(0, 7, 9), 0);
        Edges.is("bend 0 alone", Edges.full().brought(0, 0, 1), Due.set(10, 11, 12, 13, 14, 15));
        Edges.is("all", Edges.full().brought(0, 7, 1), 65535);
        SootTalk x = Edges.furnished();
        Edges.is("cake 3 stays for 3", x.brought(0, 7, 3), 0);
        Edges.is("cake 3 comes by 4", x.brought(0, 7, 4), Due.set(2, 3, 9));
        Edges.is("cake 9 stays for 9", x.brought(0, 7, 9), Due.set(2, 3, 9));
        Edges.sentence(15, "BEYOND.");
        Edges.bounds("flue", 0, 2, (y, v) -> y.brought(v, 7, 9));
        Edges.bounds("bend", 0, 7, (y, v) -> y.brought(0, v, 9));
        Edges.bounds("strength", 1, 9, (y, v) -> y.brought(0, 7, v));
    }

    private static void order() {
        Edges.sentence(16, "The k-th WORD (0: the first) that a BRUSH would bring.");
        SootTalk x = Edges.full();
        for (int k = 0; k < 48; k++) {
            int said = (7 - k / 6) * 6 + 5 - k % 6;
            Edges.is("word " + k, x.order(0, 7, 1, k), said % 16);
        }
        Edges.changesNothing("order", Edges::furnished, y -> y.order(0, 7, 9, 0));
        Edges.sentence(16, "BEYOND: flue, bend, strength, k below 0.");
        Edges.bounds("flue", 0, 2, (y, v) -> y.order(v, 7, 9, 0));
        Edges.bounds("bend", 0, 7, (y, v) -> y.order(0, v, 9, 0));
        Edges.bounds("strength", 1, 9, (y, v) -> y.order(0, 7, v, 0));
        for (int k : new int[] {-1, -256, -65536, Integer.MIN_VALUE}) {
            Edges.refused("k " + k, Due.BEYOND, y -> y.order(0, 7, 9, k));
        }
        Edges.sentence(16, "NONE: so many don't come.");
        Edges.is("the last that comes", Edges.furnished().order(0, 7, 9, 2), 3);
        for (int k : new int[] {3, 4, 48, 256, 65536, Integer.MAX_VALUE}) {
            Edges.refused("k " + k, Due.NONE, y -> y.order(0, 7, 9, k));
        }
        Edges.refused("none comes at all", Due.NONE, y -> y.order(0, 7, 3, 0));
        Edges.refused("one more than 48", Due.NONE, Edges::full, y -> y.order(0, 7, 9, 48));
        Edges.refused("one more than bend 0 has", Due.NONE, Edges::full, y -> y.order(0, 0, 9, 6));
        Edges.refused("a bare flue", Due.NONE, () -> Due.withFlues(0), y -> y.order(0, 7, 9, 0));
    }

    private static void on() {
        Edges.sentence(17, "How many LAYERS a BRUSH would bring ON n DAYS (0 to 60).");
        SootTalk x = Edges.full();
        Edges.is("today", x.on(0, 7, 1, 0), 48);
        Edges.is("tomorrow", x.on(0, 7, 3, 1), 0);
        x.damp(0);
        Edges.is("in sixty dry days", x.on(0, 7, 1, 60), 48);
        x.damp(3);
        Edges.is("today, in damp", x.on(0, 7, 9, 0), 48);
        Edges.is("cake 8 then", x.on(0, 7, 9, 8), 48);
        Edges.is("cake 9 then", x.on(0, 7, 9, 9), 0);
        Edges.is("sixty days on", x.on(0, 7, 9, 60), 0);
        Edges.is("bend 0 alone", x.on(0, 0, 9, 8), 6);
        Edges.is("a bare flue", Due.withFlues(0).on(0, 7, 9, 60), 0);
        Edges.changesNothing("days on", Edges::furnished, y -> y.on(0, 7, 9, 60));
        Edges.sentence(17, "BEYOND.");
        Edges.bounds("flue", 0, 2, (y, v) -> y.on(v, 7, 9, 0));
        Edges.bounds("bend", 0, 7, (y, v) -> y.on(0, v, 9, 0));
        Edges.bounds("strength", 1, 9, (y, v) -> y.on(0, 7, v, 0));
        Edges.bounds("n", 0, 60, (y, v) -> y.on(0, 7, 9, v));
    }
}
