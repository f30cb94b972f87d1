/** Promises 18 to 27. */
final class BestTest {
    public static void main(String[] args) {
        reach();
        strength();
        secret();
        fewest();
        where();
        lost();
        covers();
        kind();
        best();
        bestWithRoom();
        richest();
        Due.end();
    }

    private static void reach() {
        SootTalk x = BrushesTest.laidInDamp();
        Due.is("18: none wanted", x.reach(0, 0, 1), 0);
        Due.is("18: on bend 3", x.reach(0, Due.set(4), 2), 3);
        Due.is("18: lowest of two", x.reach(0, Due.set(1), 9), 0);
        Due.is("18: all", x.reach(0, Due.set(1, 2, 3, 4, 5), 9), 7);
        Due.is("18: too weak", x.reach(0, Due.set(2), 5), Due.NONE);
        Due.is("18: not there", x.reach(0, Due.set(15), 9), Due.NONE);
        Due.is("18: set 65536", x.reach(0, 65536, 9), Due.BEYOND);
        Due.is("18: set -1", x.reach(0, -1, 9), Due.BEYOND);
        Due.is("18: strength 0", x.reach(0, 0, 0), Due.BEYOND);
        Due.is("18: strength 10", x.reach(0, 0, 10), Due.BEYOND);
        Due.is("18: flue 1", x.reach(1, 0, 1), Due.BEYOND);
    }

    private static void strength() {
        SootTalk x = BrushesTest.laidInDamp();
        Due.is("19: none wanted", x.strength(0, 0, 0), 1);
        Due.is("19: loose under cake 5", x.strength(0, 0, Due.set(3)), 6);
        Due.is("19: cake 1", x.strength(0, 7, Due.set(4)), 2);
        Due.is("19: cake 8", x.strength(0, 7, Due.set(5)), 9);
        Due.is("19: above the bend", x.strength(0, 2, Due.set(4)), Due.NONE);
        Due.is("19: set 65535", x.strength(0, 7, 65535), Due.NONE);
        Due.is("19: set 65536", x.strength(0, 7, 65536), Due.BEYOND);
        Due.is("19: set -1", x.strength(0, 7, -1), Due.BEYOND);
        Due.is("19: bend 8", x.strength(0, 8, 0), Due.BEYOND);
        Due.is("19: bend -1", x.strength(0, -1, 0), Due.BEYOND);
        Due.is("19: flue 1", x.strength(1, 0, 0), Due.BEYOND);
    }

    private static void secret() {
        SootTalk x = BrushesTest.laidInDamp();
        Due.is("20: none and none", x.secret(0, 0, 0), 1);
        Due.is("20: without others", x.secret(0, Due.set(4), Due.set(1)), 32);
        Due.is("20: least bend before least strength", x.secret(0, Due.set(1), 0), 3);
        Due.is("20: with one, without the next", x.secret(0, Due.set(1, 4), Due.set(2)), 33);
        Due.is("20: high and strong", x.secret(0, Due.set(5), 0), 79);
        Due.is("20: the same in both", x.secret(0, Due.set(4), Due.set(4)), Due.NONE);
        Due.is("20: covered by others", x.secret(0, Due.set(3), Due.set(2)), Due.NONE);
        Due.is("20: words 65536", x.secret(0, 65536, 0), Due.BEYOND);
        Due.is("20: others -1", x.secret(0, 0, -1), Due.BEYOND);
        Due.is("20: flue -1", x.secret(-1, 0, 0), Due.BEYOND);
    }

    private static void fewest() {
        SootTalk x = Due.withFlues(0, 0, 0, 0, 0, 0);
        Due.house(x, "say 0 1;say 1 2;say 1 3;say 2 1;say 2 4;say 3 3;say 3 4;layer 5 7 1 cake 3;say 5 2");
        Due.house(x, "layer 5 7 3 cake 3;layer 5 6 4 cake 3;damp 9");
        Due.is("21: none wanted", x.fewest(0, 1), 0);
        Due.is("21: least of one", x.fewest(Due.set(1), 1), Due.set(0));
        Due.is("21: least of two flues", x.fewest(Due.set(1, 3), 1), Due.set(0, 1));
        Due.is("21: fewer before less", x.fewest(Due.set(1, 4), 1), Due.set(2));
        Due.is("21: two of them", x.fewest(Due.set(1, 2, 3, 4), 3), Due.set(1, 2));
        Due.is("21: one that is larger", x.fewest(Due.set(1, 2, 3, 4), 4), Due.set(5));
        Due.is("21: not there", x.fewest(Due.set(1, 9), 9), Due.NONE);
        Due.is("21: words 65536", x.fewest(65536, 1), Due.BEYOND);
        Due.is("21: words -1", x.fewest(-1, 1), Due.BEYOND);
        Due.is("21: strength 0", x.fewest(0, 0), Due.BEYOND);
        Due.is("21: strength 10", x.fewest(0, 10), Due.BEYOND);
        SootTalk y = new SootTalk();
        Due.is("21: no flue", y.fewest(1, 1), Due.NONE);
        Due.is("21: no flue, none wanted", y.fewest(0, 9), 0);
    }

    private static void where() {
        SootTalk x = Due.withFlues(0, 0, 0, 0, 0, 0);
        Due.house(x, "say 0 15;layer 5 7 15 cake 9;say 5 1");
        Due.is("22: also stuck ones", x.where(15), Due.set(0, 5));
        Due.is("22: one", x.where(1), Due.set(5));
        Due.is("22: nowhere", x.where(0), 0);
        Due.is("22: word 16", x.where(16), Due.BEYOND);
        Due.is("22: word -1", x.where(-1), Due.BEYOND);
    }

    private static void lost() {
        SootTalk x = BrushesTest.laid();
        Due.is("23: without damp, all the time", x.lost(0, 5, 9), Due.NONE);
        Due.is("23: not even now", x.lost(0, 5, 8), 0);
        Due.is("23: doesn't lie there", x.lost(0, 15, 9), 0);
        x.damp(3);
        Due.is("23: tomorrow", x.lost(0, 5, 9), 1);
        Due.is("23: by what lies on it", x.lost(0, 3, 9), 4);
        Due.is("23: the last of its bend", x.lost(0, 1, 9), 7);
        x.turn(0, 5);
        Due.is("23: jackdaw cakes less", x.lost(0, 1, 9), Due.NONE);
        Due.is("23: no day goes", x.now(0), 0);
        Due.is("23: flue 1", x.lost(1, 0, 1), Due.BEYOND);
        Due.is("23: word 16", x.lost(0, 16, 1), Due.BEYOND);
        Due.is("23: word -1", x.lost(0, -1, 1), Due.BEYOND);
        Due.is("23: strength 0", x.lost(0, 0, 0), Due.BEYOND);
        Due.is("23: strength 10", x.lost(0, 0, 10), Due.BEYOND);
    }

    private static void covers() {
        SootTalk x = Due.withFlues(0, 1, 5, 3);
        Due.house(x, "layer 0 4 2;layer 0 6 2;layer 0 0 3;layer 1 2 5;layer 1 3 6;layer 2 7 1;layer 2 1 2");
        Due.is("24: lowest bend", x.covers(0, 9, 2), 3);
        Due.is("24: itself", x.covers(0, 2, 2), 3);
        Due.is("24: least of the voices that come to 0", x.covers(0, 9, 3), 7);
        Due.is("24: no higher than its rest", x.covers(1, 1, 5), Due.NONE);
        Due.is("24: just so high", x.covers(1, 10, 5), 0);
        Due.is("24: jackdaw doesn't come to 7", x.covers(2, 3, 1), Due.NONE);
        Due.is("24: jackdaw", x.covers(2, 3, 2), 4);
        Due.is("24: it doesn't lie there", x.covers(0, 2, 9), Due.NONE);
        x.days(2);
        Due.is("24: gone", x.covers(2, 3, 2), Due.NONE);
        Due.is("24: gone, and the other doesn't lie there", x.covers(2, 3, 9), Due.NONE);
        Due.house(x, "layer 0 5 4;layer 0 5 4;layer 0 5 4;layer 0 5 4;layer 0 5 4;layer 0 5 4");
        Due.is("24: by a full bend above", x.covers(0, 9, 2), 2);
        Due.is("24: not on a full one", x.covers(0, 9, 4), Due.NONE);
        Due.is("24: nothing is said", x.now(2), 13);
        Due.is("24: flue 4", x.covers(4, 0, 0), Due.BEYOND);
        Due.is("24: word 16", x.covers(0, 16, 0), Due.BEYOND);
        Due.is("24: word -1", x.covers(0, -1, 0), Due.BEYOND);
        Due.is("24: other 16", x.covers(0, 0, 16), Due.BEYOND);
        Due.is("24: other -1", x.covers(0, 0, -1), Due.BEYOND);
    }

    private static void kind() {
        SootTalk x = Due.withFlues(5);
        Due.is("25: none said", x.kind(0, 0, 0), 0);
        Due.is("25: of several the least", x.kind(0, 65535, 0), 0);
        Due.is("25: shut and flue are alike at 9", x.kind(0, Due.set(0, 1, 2, 3, 4, 5, 6), 9), 0);
        Due.is("25: the plot", x.kind(0, 65535, 9), 4);
        for (int i = 0; i < 3; i++) x.say(0, 0, 9);
        Due.is("25: it is what it was", x.of(0, 0), 5);
        Due.is("25: nothing is said", x.now(2), 3);
        Due.is("25: flue 1", x.kind(1, 0, 0), Due.BEYOND);
        Due.is("25: words 65536", x.kind(0, 65536, 0), Due.BEYOND);
        Due.is("25: words -1", x.kind(0, -1, 0), Due.BEYOND);
        Due.is("25: voice 10", x.kind(0, 0, 10), Due.BEYOND);
        Due.is("25: voice -1", x.kind(0, 0, -1), Due.BEYOND);
        SootTalk y = Due.withFlues(1);
        for (int i = 0; i < 6; i++) y.say(0, 0, 9);
        Due.is("25: bend 0 is full: flue has room above it", y.kind(0, Due.set(0, 8), 0), 0);
        Due.is("25: with voice 9 only the plot finds room", y.kind(0, Due.set(14, 15), 9), 4);
        y.turn(0, 0);
        for (int i = 0; i < 42; i++) y.say(0, 1, 0);
        Due.is("25: no room for any", y.kind(0, 65535, 0), 0);
    }

    private static void best() {
        SootTalk x = new SootTalk();
        Due.is("26: no flue", x.best(0, 0), Due.NONE);
        Due.is("26: beyond before none", x.best(65536, 0), Due.BEYOND);
        x = Due.withFlues(3, 2, 1, 0, 0, 5);
        Due.is("26: none said", x.best(0, 0), 0);
        Due.is("26: of several the least", x.best(Due.set(1), 0), 3);
        Due.is("26: crooked is as high with 7", x.best(Due.set(7), 0), 2);
        Due.is("26: all are low", x.best(65535, 9), 0);
        Due.is("26: word 0", x.best(Due.set(0), 0), 3);
        Due.is("26: word 15", x.best(Due.set(15), 1), 2);
        Due.is("26: words -1", x.best(-1, 0), Due.BEYOND);
        Due.is("26: voice 10", x.best(0, 10), Due.BEYOND);
        Due.is("26: voice -1", x.best(0, -1), Due.BEYOND);
        Due.is("26: nothing is said", x.now(2), 0);
    }

    private static void bestWithRoom() {
        SootTalk x = Due.withFlues(5, 3);
        for (int i = 0; i < 6; i++) x.say(1, 1, 0);
        Due.is("26: gone counts -1, 0 is more", x.best(Due.set(1), 9), 0);
        for (int i = 0; i < 3; i++) x.say(0, 1, 9);
        Due.is("26: gone in both", x.best(Due.set(1), 9), 0);
        x.sweep(1, 0, 9);
        Due.is("26: gone in the first", x.best(Due.set(1), 9), 1);
        // six words fill a flue's bend 7, so the seventh comes to 6: 48; with one there before, 47 and so on
        SootTalk y = Due.withFlues(0, 0);
        y.say(0, 1, 0);
        Due.is("26: room is asked", y.best(Due.set(0, 1, 2, 3, 4, 5, 6), 0), 1);
        Due.is("26: room for five in both", y.best(Due.set(0, 1, 2, 3, 4), 0), 0);
        x.days(2);
        Due.is("26: the jackdaws have it", x.best(Due.set(1), 0), 1);
    }

    private static void richest() {
        SootTalk x = Due.withFlues(0);
        Due.is("27: nothing lies", x.richest(0), Due.NONE);
        Due.house(x, "layer 0 1 5;layer 0 1 5;layer 0 1 5;layer 0 6 1");
        Due.is("27: unlike ones alone", x.richest(0), 1);
        Due.house(x, "layer 0 6 2 cake 9");
        Due.is("27: two unlike", x.richest(0), 6);
        Due.house(x, "layer 0 3 7;layer 0 3 9");
        Due.is("27: of several the least", x.richest(0), 3);
        Due.house(x, "layer 0 0 0;layer 0 0 15;layer 0 0 3");
        Due.is("27: bend 0", x.richest(0), 0);
        Due.house(x, "layer 0 7 0;layer 0 7 15;layer 0 7 3;layer 0 7 4");
        Due.is("27: bend 7", x.richest(0), 7);
        Due.is("27: flue 1", x.richest(1), Due.BEYOND);
        Due.is("27: flue -1", x.richest(-1), Due.BEYOND);
    }
}
