/** The edges that promises 18 to 27 name. */
final class BestEdges {
    private static final int[] WHOLE_BEND = {0, 1, 2, 3, 4, 5};

    private BestEdges() {
    }

    static void all() {
        reach();
        strength();
        secret();
        fewest();
        where();
        lost();
        covers();
        kind();
        best();
        richest();
    }

    private static void reach() {
        Edges.sentence(18, "The least BEND to which a BRUSH of a STRENGTH must be put up so that all of a set are "
            + "BROUGHT.");
        Edges.is("an empty set", Due.withFlues(0).reach(0, 0, 1), 0);
        Edges.is("all words", Edges.full().reach(0, 65535, 1), 2);
        SootTalk x = Due.withFlues(0);
        Due.house(x, "layer 0 0 0 cake 8;layer 0 7 15 cake 8");
        Edges.is("bend 0", x.reach(0, Due.set(0), 9), 0);
        Edges.is("bend 7", x.reach(0, Due.set(15), 9), 7);
        Edges.is("both", x.reach(0, Due.set(0, 15), 9), 7);
        Edges.is("too weak", x.reach(0, Due.set(15), 8), Due.NONE);
        Edges.sentence(18, "BEYOND.");
        Edges.bounds("flue", 0, 2, (y, v) -> y.reach(v, 0, 1));
        Edges.bounds("words", 0, 65535, (y, v) -> y.reach(0, v, 1));
        Edges.bounds("strength", 1, 9, (y, v) -> y.reach(0, 0, v));
        Edges.sentence(18, "NONE: not even by 7.");
        Edges.refused("not there", Due.NONE, y -> y.reach(0, Due.set(0), 9));
        Edges.refused("cake 3 for 3", Due.NONE, y -> y.reach(0, Due.set(2), 3));
        Edges.refused("cake 9 for 9", Due.NONE, y -> y.reach(0, Due.set(1), 9));
        Edges.refused("one of them is missing", Due.NONE, y -> y.reach(0, Due.set(2, 15), 9));
        Edges.refused("a bare flue", Due.NONE, () -> Due.withFlues(0), y -> y.reach(0, 1, 9));
    }

    private static void strength() {
        Edges.sentence(19, "The least STRENGTH (1 to 9) by which all of a set are BROUGHT from a BEND.");
        Edges.is("an empty set", Due.withFlues(0).strength(0, 0, 0), 1);
        Edges.is("all words", Edges.full().strength(0, 2, 65535), 1);
        SootTalk x = Due.withFlues(0);
        x.say(0, 3, 0);
        for (int cake = 0; cake < 9; cake++) {
            x.cake(0, 7, 0, cake);
            Edges.is("cake " + cake, x.strength(0, 7, Due.set(3)), cake + 1);
        }
        Edges.sentence(19, "BEYOND.");
        Edges.bounds("flue", 0, 2, (y, v) -> y.strength(v, 7, 0));
        Edges.bounds("bend", 0, 7, (y, v) -> y.strength(0, v, 0));
        Edges.bounds("words", 0, 65535, (y, v) -> y.strength(0, 7, v));
        Edges.sentence(19, "NONE.");
        Edges.refused("cake 9", Due.NONE, y -> y.strength(0, 7, Due.set(1)));
        Edges.refused("a bend too low", Due.NONE, y -> y.strength(0, 6, Due.set(3)));
        Edges.refused("not all words", Due.NONE, Edges::full, y -> y.strength(0, 1, 65535));
        Edges.refused("a bare flue", Due.NONE, () -> Due.withFlues(0), y -> y.strength(0, 7, 1));
    }

    private static void secret() {
        Edges.sentence(20, "The BRUSH by which all of one set, and none of another one, are BROUGHT: as 10 times "
            + "the BEND, and the STRENGTH; of several the least.");
        Edges.is("least of all", Due.withFlues(0).secret(0, 0, 0), 1);
        Edges.is("none of any", Due.withFlues(0).secret(0, 0, 65535), 1);
        SootTalk x = Due.withFlues(0);
        Due.house(x, "layer 0 0 0 cake 8;layer 0 7 15 cake 8;layer 0 7 14");
        Edges.is("bend 0, strength 9", x.secret(0, Due.set(0), Due.set(15)), 9);
        Edges.is("bend 7, strength 1", x.secret(0, Due.set(14), Due.set(0, 15)), 71);
        Edges.is("most of all", x.secret(0, Due.set(0, 14, 15), 0), 79);
        Edges.is("nothing wanted, all others", x.secret(0, 0, 65535), 1);
        Edges.sentence(20, "BEYOND.");
        Edges.bounds("flue", 0, 2, (y, v) -> y.secret(v, 0, 0));
        Edges.bounds("words", 0, 65535, (y, v) -> y.secret(0, v, 0));
        Edges.bounds("others", 0, 65535, (y, v) -> y.secret(0, 0, v));
        Edges.sentence(20, "NONE.");
        Edges.refused("the same in both", Due.NONE, y -> y.secret(0, Due.set(2), Due.set(2)));
        Edges.refused("cake 9", Due.NONE, y -> y.secret(0, Due.set(1), 0));
        Edges.refused("each brings some", Due.NONE, Edges::full, y -> y.secret(0, 0, 65535));
        Edges.refused("a bare flue", Due.NONE, () -> Due.withFlues(0), y -> y.secret(0, 1, 0));
    }

    private static void fewest() {
        Edges.sentence(21, "The fewest BRUSHES (each a FLUE, up to BEND 7, of STRENGTH s) by which all of a set are "
            + "BROUGHT together: FLUES, as a set; of several the least.");
        Edges.is("an empty set, no flue", new SootTalk().fewest(0, 1), 0);
        Edges.is("an empty set, a full flue", Edges.full().fewest(0, 9), 0);
        SootTalk x = Due.withFlues(0, 0, 0, 0, 0, 0);
        for (int f = 0; f < 6; f++) x.say(f, f, 0);
        Edges.is("all six", x.fewest(63, 1), 63);
        Edges.is("the last alone", x.fewest(32, 1), 32);
        Edges.is("the first alone", x.fewest(1, 1), 1);
        for (int w = 0; w < 5; w++) x.say(5, w, 0);
        Edges.is("one instead of six", x.fewest(63, 1), 32);
        Edges.is("of several the least", x.fewest(1, 1), 1);
        Edges.is("fewer before less", x.fewest(31, 1), 32);
        x.cake(5, 7, 0, 8);
        Edges.is("by 8 what lies under cake 8 comes from no flue", x.fewest(32, 8), Due.NONE);
        Edges.is("by 8 the others", x.fewest(31, 8), 31);
        Edges.is("by 9 all from one", x.fewest(63, 9), 32);
        Edges.sentence(21, "BEYOND.");
        Edges.bounds("words", 0, 65535, (y, v) -> y.fewest(v, 9));
        Edges.bounds("s", 1, 9, (y, v) -> y.fewest(0, v));
        Edges.sentence(21, "NONE.");
        Edges.refused("no flue", Due.NONE, SootTalk::new, y -> y.fewest(1, 9));
        Edges.refused("in none", Due.NONE, y -> y.fewest(Due.set(15), 9));
        Edges.refused("cake 9", Due.NONE, y -> y.fewest(Due.set(1), 9));
        Edges.refused("too weak", Due.NONE, y -> y.fewest(Due.set(2), 3));
        SootTalk undone = new SootTalk();
        undone.image();
        undone.flue(0);
        undone.say(0, 0, 0);
        Edges.is("before it is undone", undone.fewest(1, 9), 1);
        undone.undo();
        Edges.is("in one that was undone", undone.fewest(1, 9), Due.NONE);
    }

    private static void where() {
        Edges.sentence(22, "FLUES in which a WORD lies, as a set.");
        SootTalk x = new SootTalk();
        Edges.is("no flue", x.where(0), 0);
        for (int f = 0; f < 6; f++) {
            x.flue(0);
            Edges.is("not in " + f, x.where(15), (1 << f) - 1);
            x.say(f, 15, f);
            x.cake(f, 7 - f, 0, 9);
            Edges.is("also in " + f + ", however caked", x.where(15), (2 << f) - 1);
        }
        Edges.is("word 0 in none", x.where(0), 0);
        Edges.sentence(22, "BEYOND.");
        Edges.bounds("word", 0, 15, (y, v) -> y.where(v));
        Edges.bounds("word without flues", 0, 15, SootTalk::new, (y, v) -> y.where(v));
    }

    private static void lost() {
        Edges.sentence(23, "In how many DAYS (0 to 60) ON a BRUSH of a STRENGTH put up to 7 brings a WORD no more.");
        SootTalk x = Due.withFlues(0);
        Edges.is("not there", x.lost(0, 0, 9), 0);
        x.say(0, 0, 0);
        x.damp(3);
        for (int s = 1; s < 10; s++) Edges.is("strength " + s, x.lost(0, 0, s), s);
        x.say(0, 0, 9);
        x.cake(0, 7, 0, 9);
        Edges.is("the one on bend 0 comes", x.lost(0, 0, 9), 9);
        x.cake(0, 0, 0, 9);
        Edges.is("none now", x.lost(0, 0, 9), 0);
        SootTalk last = Edges.onDay(9999);
        last.say(0, 15, 0);
        Edges.is("beyond the last day", last.lost(0, 15, 9), 9);
        Edges.changesNothing("days on", Edges::furnished, y -> y.lost(0, 2, 9));
        Edges.sentence(23, "BEYOND: flue, word, strength.");
        Edges.bounds("flue", 0, 2, (y, v) -> y.lost(v, 2, 9));
        Edges.bounds("word", 0, 15, (y, v) -> y.lost(0, v, 9));
        Edges.bounds("strength", 1, 9, (y, v) -> y.lost(0, 2, v));
        Edges.sentence(23, "NONE: it does all the time.");
        Edges.refused("jackdaws' doesn't cake", Due.NONE, y -> y.lost(2, 5, 1));
        SootTalk dry = Due.withFlues(0);
        dry.say(0, 15, 0);
        dry.cake(0, 7, 0, 8);
        dry.damp(2);
        Edges.is("damp 2 adds nothing", dry.lost(0, 15, 9), Due.NONE);
        dry.damp(3);
        Edges.is("damp 3 does", dry.lost(0, 15, 9), 1);
    }

    private static void covers() {
        Edges.sentence(24, "The least VOICE (0 to 9) with which a WORD, SAID now, comes on top of the lowest BEND "
            + "on which another one (or the same) lies.");
        SootTalk x = Due.withFlues(0);
        for (int b = 7; b >= 0; b--) {
            Due.house(x, "layer 0 " + b + " 1");
            Edges.is("lowest is " + b, x.covers(0, 2, 1), 7 - b);
            Edges.is("lowest is " + b + ", the same word", x.covers(0, 1, 1), 7 - b);
        }
        SootTalk whisper = Due.withFlues(3);
        whisper.say(0, 1, 9);
        Edges.is("by a whisper, the least that comes to 0", whisper.covers(0, 15, 1), 0);
        SootTalk fallen = Edges.full();
        fallen.sweep(0, 0, 9);
        Due.house(fallen, "layer 0 0 7");
        Edges.is("by a whisper that falls to 0", fallen.covers(0, 15, 7), 0);
        Edges.sentence(24, "BEYOND: flue, word, other.");
        Edges.bounds("flue", 0, 2, (y, v) -> y.covers(v, 2, 2));
        Edges.bounds("word", 0, 15, (y, v) -> y.covers(0, v, 2));
        Edges.bounds("other", 0, 15, (y, v) -> y.covers(0, 2, v));
        Edges.sentence(24, "NONE: with none, or that one doesn't lie there.");
        Edges.refused("it doesn't lie there", Due.NONE, y -> y.covers(0, 2, 15));
        Edges.refused("the same doesn't", Due.NONE, y -> y.covers(0, 15, 15));
        Edges.refused("gone on that day", Due.NONE, () -> Edges.onDay(6), y -> y.covers(2, 5, 5));
        Edges.refused("no room", Due.NONE, Edges::full, y -> y.covers(0, 0, 15));
        Edges.refused("no word rises so high", Due.NONE, () -> laidOnBend7(2), y -> y.covers(0, 0, 1));
        Edges.is("by one that does", laidOnBend7(4).covers(0, 15, 1), 0);
    }

    private static SootTalk laidOnBend7(int kind) {
        SootTalk x = Due.withFlues(kind);
        Due.house(x, "layer 0 7 1");
        return x;
    }

    private static void kind() {
        Edges.sentence(25, "The KIND as one of which a FLUE had most LAYERS, if all WORDS of a set were SAID in it "
            + "now, the least first, with a VOICE; of several the least.");
        Edges.is("an empty set", Due.withFlues(5).kind(0, 0, 9), 0);
        Edges.is("all words, whispered", Due.withFlues(5).kind(0, 65535, 0), 0);
        Edges.is("all words, loud: the plot is one more", Due.withFlues(5).kind(0, 65535, 9), 4);
        Edges.is("six words, loud", Due.withFlues(5).kind(0, Due.set(WHOLE_BEND), 9), 0);
        Edges.is("no room in any", Edges.full().kind(0, 65535, 0), 0);
        Edges.is("bend 0 is full: the plot", withFullBend0().kind(0, Due.set(14, 15), 9), 4);
        Edges.is("bend 0 is full: none has room", withFullBend0().kind(0, Due.set(14), 9), 0);
        SootTalk overfull = Edges.full();
        overfull.turn(0, 5);
        Edges.is("more than it holds", overfull.kind(0, 65535, 5), 0);
        Edges.changesNothing("nothing is said", Edges::furnished, x -> x.kind(0, 65535, 9));
        Edges.sentence(25, "BEYOND.");
        Edges.bounds("flue", 0, 2, (x, v) -> x.kind(v, 0, 0));
        Edges.bounds("words", 0, 65535, (x, v) -> x.kind(0, v, 0));
        Edges.bounds("voice", 0, 9, (x, v) -> x.kind(0, 0, v));
    }

    private static SootTalk withFullBend0() {
        SootTalk x = Due.withFlues(0);
        for (int w : WHOLE_BEND) x.say(0, w, 9);
        return x;
    }

    private static void best() {
        Edges.sentence(26, "The FLUE in which all WORDS of a set, SAID so, rise highest together (BENDS added; gone "
            + "ones -1); of several the least.");
        Edges.is("an empty set", Due.withFlues(3, 0, 0, 0, 0, 0).best(0, 0), 0);
        Edges.is("the last of six", Due.withFlues(3, 3, 3, 3, 3, 0).best(1, 0), 5);
        Edges.is("of several the least", Due.withFlues(3, 0, 0).best(1, 0), 1);
        SootTalk x = withFullBend0();
        Edges.is("gone in the only one", x.best(1, 9), 0);
        x.flue(3);
        Edges.is("0 is above -1", x.best(1, 9), 1);
        for (int w : WHOLE_BEND) x.say(1, w, 9);
        Edges.is("-1 in both", x.best(1, 9), 0);
        Edges.is("-16 in both", x.best(65535, 9), 0);
        SootTalk both = Due.withFlues(3, 2);
        for (int i = 0; i < 3; i++) both.say(0, 0, 9);
        Edges.is("0, 0, 0, -1 are as 0, 0, 0, -1", both.best(Due.set(0, 1, 2, 3), 9), 0);
        both.say(0, 0, 9);
        Edges.is("0, 0, -1, -1 are less", both.best(Due.set(0, 1, 2, 3), 9), 1);
        SootTalk gone = Due.withFlues(5, 3);
        Edges.is("jackdaw, a whisper on day 0", gone.best(1, 0), 0);
        gone.days(2);
        Edges.is("-1 on day 2", gone.best(1, 0), 1);
        Edges.changesNothing("nothing is said", Edges::furnished, y -> y.best(65535, 9));
        Edges.sentence(26, "BEYOND: words, voice.");
        Edges.bounds("words", 0, 65535, (y, v) -> y.best(v, 0));
        Edges.bounds("voice", 0, 9, (y, v) -> y.best(0, v));
        Edges.sentence(26, "NONE: there is no FLUE.");
        Edges.refused("an empty set", Due.NONE, SootTalk::new, y -> y.best(0, 0));
        Edges.refused("all words", Due.NONE, SootTalk::new, y -> y.best(65535, 9));
    }

    private static void richest() {
        Edges.sentence(27, "The BEND of a FLUE on which most unlike WORDS lie; of several the least.");
        Edges.is("all are full: the least", Edges.full().richest(0), 0);
        Edges.is("the highest alone", laidOnBend7(0).richest(0), 7);
        SootTalk x = laidOnBend7(0);
        for (int i = 0; i < 6; i++) Due.house(x, "layer 0 6 5");
        Edges.is("six alike are one", x.richest(0), 6);
        Due.house(x, "layer 0 7 2");
        Edges.is("two unlike are more", x.richest(0), 7);
        Edges.sentence(27, "BEYOND.");
        Edges.bounds("flue", 0, 2, (y, v) -> y.richest(v));
        Edges.refused("no flue", Due.BEYOND, SootTalk::new, y -> y.richest(0));
        Edges.sentence(27, "NONE: nothing lies there.");
        Edges.refused("a bare flue", Due.NONE, () -> Due.withFlues(0), y -> y.richest(0));
        Edges.refused("a bare flue by a full one", Due.NONE, BestEdges::fullAndBare, y -> y.richest(1));
        SootTalk swept = Edges.full();
        swept.sweep(0, 7, 9);
        Edges.is("all swept", swept.richest(0), Due.NONE);
    }

    private static SootTalk fullAndBare() {
        SootTalk x = Edges.full();
        x.flue(0);
        return x;
    }
}
