/** The edges that promises 37 to 41 name. */
final class ImagesEdges {
    private ImagesEdges() {
    }

    static void all() {
        image();
        undo();
        tear();
        count();
        status();
        lastCall();
    }

    private static void image() {
        Edges.sentence(37, "All that section 1 tells (THE TAPE not) is kept: 1.");
        SootTalk x = new SootTalk();
        Edges.is("of nothing", x.image(), 1);
        Due.house(x, "shut;say 0 1;damp 9");
        x.days(2);
        Due.feed(x, "flue");
        x.sheet(0, 8, 2);
        Edges.is("back to nothing", x.undo(), 0);
        for (int what = 0; what < 5; what++) Edges.is("now " + what, x.now(what), 0);
        Edges.is("the tape is as it is", x.count(1), 4);
        Edges.is("sheets are as they are", x.write(0, 1, 0), 0);
        SootTalk full = Edges.full();
        Edges.is("of 48 layers", full.image(), 1);
        full.sweep(0, 7, 9);
        full.undo();
        for (int b = 0; b < 8; b++) {
            Edges.is("lowest of bend " + b, full.layer(0, b, 5, 0), (7 - b) * 6 % 16);
            Edges.is("top of bend " + b, full.layer(0, b, 0, 0), ((7 - b) * 6 + 5) % 16);
        }
        SootTalk overfull = Edges.full();
        overfull.turn(0, 2);
        overfull.image();
        overfull.sweep(0, 7, 9);
        overfull.undo();
        Edges.is("more than it holds", overfull.of(0, 1), 48);
    }

    private static void undo() {
        Edges.sentence(38, "It becomes what was kept latest (which stays): how many FLUES.");
        SootTalk x = new SootTalk();
        x.image();
        x.flue(0);
        x.image();
        x.flue(1);
        for (int i = 0; i < 3; i++) {
            Edges.is("the latest, time " + i, x.undo(), 1);
            x.flue(2);
        }
        for (int i = 0; i < 4; i++) x.flue(3);
        x.image();
        Edges.is("six flues", x.undo(), 6);
        Edges.is("nothing between", x.undo(), 6);
        SootTalk last = Edges.onDay(9999);
        Edges.is("from the last day", last.undo(), 2);
        Edges.is("to the first", last.now(0), 0);
        Edges.is("days go again", last.days(60) >= 0 ? 1 : 0, 1);
        Edges.sentence(38, "NONE: nothing is kept.");
        Edges.refused("at first", Due.NONE, SootTalk::new, y -> y.undo());
        Edges.refused("after tear", Due.NONE, ImagesEdges::torn, y -> y.undo());
    }

    private static SootTalk torn() {
        SootTalk x = Edges.furnished();
        x.tear();
        return x;
    }

    private static void tear() {
        Edges.sentence(39, "Nothing is kept: 1 if something was, else 0.");
        SootTalk x = new SootTalk();
        Edges.is("nothing was", x.tear(), 0);
        x.image();
        x.undo();
        Edges.is("something was, also after undo", x.tear(), 1);
        Edges.is("nothing is", x.tear(), 0);
        x.image();
        x.image();
        Edges.is("two are one", x.tear(), 1);
        Edges.is("none of them is left", x.tear(), 0);
        Edges.is("no undo", x.undo(), Due.NONE);
        SootTalk torn = torn();
        Edges.is("what there is stays", torn.count(0), 3);
    }

    private static void count() {
        Edges.sentence(40, "0 FLUES, 1 bytes of THE TAPE, 2 LAYERS of CAKE 0, 3 BENDS that HOLD no more.");
        for (int what = 0; what < 4; what++) Edges.is("new, " + what, new SootTalk().count(what), 0);
        int[] full = {1, 0, 48, 8};
        for (int what = 0; what < 4; what++) Edges.is("full, " + what, Edges.full().count(what), full[what]);
        Edges.is("six", Edges.withSixFlues().count(0), 6);
        Edges.is("120 bytes", TextEdges.withFullTape().count(1), 120);
        SootTalk x = Edges.full();
        x.cake(0, 0, 0, 1);
        Edges.is("not the one of cake 1", x.count(2), 47);
        x.turn(0, 2);
        Edges.is("bends with more than they hold", x.count(3), 8);
        x.turn(0, 0);
        x.sweep(0, 0, 9);
        Edges.is("not bend 0, which is bare", x.count(3), 7);
        x.cake(0, 1, 1, 9);
        x.sweep(0, 1, 9);
        Edges.is("nor bend 1, which one has left", x.count(3), 6);
        Edges.sentence(40, "BEYOND: another what.");
        Edges.bounds("what", 0, 3, (y, v) -> y.count(v));
    }

    private static void status() {
        Edges.sentence(41, "How many acts answered a finding ever (undo() takes none back): which -1: all, 0 to 6: "
            + "BEYOND to SIZE.");
        for (int which = -1; which < 7; which++) Edges.is("new, " + which, new SootTalk().status(which), 0);
        SootTalk x = Edges.onDay(9999);
        for (int kind = 0; kind < 3; kind++) x.flue(kind);
        int[] before = new int[7];
        for (int which = 0; which < 7; which++) before[which] = x.status(which);
        int all = x.status(-1);
        x.image();
        x.flue(6);
        x.flue(0);
        x.as(0, 1);
        x.layer(0, 0, 6, 0);
        x.days(1);
        x.lays(3, 0);
        x.sheet(0, 8, -1);
        x.undo();
        for (int which = 0; which < 7; which++) Edges.is("one more, " + which, x.status(which), before[which] + 1);
        Edges.is("seven more", x.status(-1), all + 7);
        x.write(4, 0, 0);
        Edges.is("one answered as a long", x.status(0), before[0] + 2);
        x.house();
        x.say(0, 0, 9);
        Edges.is("faults and gone words are none", x.status(-1), all + 8);
        Edges.sentence(41, "BEYOND (counted from then on): another one.");
        Edges.bounds("which", -1, 6, (y, v) -> y.status(v));
        SootTalk asked = new SootTalk();
        Edges.is("which 7", asked.status(7), Due.BEYOND);
        Edges.is("counted", asked.status(0), 1);
        Edges.is("which -2", asked.status(-2), Due.BEYOND);
        Edges.is("counted with all", asked.status(-1), 2);
    }

    private static void lastCall() {
        // an object is used for at most 512 calls: the last of them is answered as the first
        Edges.sentence(41, "How many acts answered a finding ever");
        SootTalk x = new SootTalk();
        for (int i = 0; i < 511; i++) x.status(7);
        Edges.is("the 512th call", x.status(-1), 511);
        SootTalk said = Due.withFlues(0);
        for (int i = 0; i < 255; i++) {
            said.say(0, i % 16, 0);
            said.sweep(0, 7, 9);
        }
        Edges.is("said at last", said.say(0, 15, 0), 7);
    }
}
