/** Promises 1 to 8. */
final class FluesTest {
    public static void main(String[] args) {
        newObject();
        flue();
        of();
        bend();
        layer();
        turn();
        as();
        damp();
        Due.end();
    }

    private static void newObject() {
        SootTalk x = new SootTalk();
        Due.is("1: flues", x.count(0), 0);
        Due.is("1: tape", x.count(1), 0);
        Due.is("1: loose layers", x.count(2), 0);
        Due.is("1: full bends", x.count(3), 0);
        for (int what = 0; what < 5; what++) Due.is("1: now " + what, x.now(what), 0);
        for (int which = -1; which < 7; which++) Due.is("1: status " + which, x.status(which), 0);
        Due.is("1: nothing is kept", x.tear(), 0);
        for (int s = 0; s < 4; s++) Due.is("1: sheet " + s, x.write(s, 0, 0), Due.MISSING);
    }

    private static void flue() {
        SootTalk x = new SootTalk();
        Due.is("2: kind 6", x.flue(6), Due.BEYOND);
        for (int wild : Due.WILD) Due.is("2: wild kind", x.flue(wild), Due.BEYOND);
        for (int kind = 0; kind < 6; kind++) {
            Due.is("2: number", x.flue(kind), kind);
            Due.is("2: kind", x.of(kind, 0), kind);
        }
        Due.is("2: full", x.flue(5), Due.FULL);
        Due.is("2: kind is asked before full", x.flue(6), Due.BEYOND);
        Due.is("2: six stay", x.count(0), 6);
    }

    private static void of() {
        SootTalk x = Due.withFlues(0, 3, 1, 2, 4, 5);
        x.say(0, 15, 0);
        x.say(0, 0, 0);
        x.say(0, 15, 7);
        Due.is("3: kind", x.of(1, 0), 3);
        Due.is("3: layers", x.of(0, 1), 3);
        Due.is("3: words", x.of(0, 2), Due.set(0, 15));
        Due.is("3: bare bends", x.of(0, 3), Due.set(1, 2, 3, 4, 5, 6));
        Due.is("3: all are bare", x.of(1, 3), 255);
        Due.is("3: no layers", x.of(1, 1), 0);
        Due.is("3: no words", x.of(1, 2), 0);
        int[][] cakes = {
            {0, 0, 0, 1, 1, 1, 2, 2, 2, 3}, {0, 0, 0, 2, 2, 2, 4, 4, 4, 6}, {0, 0, 0, 1, 1, 1, 3, 3, 3, 4},
            {0, 0, 0, 1, 1, 1, 2, 2, 2, 3}, {0, 0, 0, 1, 1, 1, 3, 3, 3, 4}, {0, 0, 0, 0, 0, 0, 1, 1, 1, 2}};
        for (int d = 0; d < 10; d++) {
            x.damp(d);
            for (int f = 0; f < 6; f++) Due.is("3: cakes of flue " + f + " by damp " + d, x.of(f, 4), cakes[f][d]);
        }
        Due.is("3: what 5", x.of(0, 5), Due.BEYOND);
        Due.is("3: what -1", x.of(0, -1), Due.BEYOND);
        Due.is("3: no such flue", Due.withFlues(0).of(1, 0), Due.BEYOND);
        for (int wild : Due.WILD) Due.is("3: wild flue", x.of(wild, 0), Due.BEYOND);
    }

    private static void bend() {
        SootTalk x = Due.withFlues(0, 1, 2, 3, 4, 5);
        int[][] holds = {{6, 6, 6, 6, 6, 6, 6, 6}, {6, 4, 6, 4, 6, 4, 6, 4}, {3, 3, 3, 3, 3, 3, 3, 3},
            {6, 6, 6, 6, 6, 6, 6, 6}, {6, 5, 6, 5, 6, 5, 6, 5}, {3, 3, 3, 3, 3, 3, 3, 5}};
        for (int f = 0; f < 6; f++) {
            for (int b = 0; b < 8; b++) Due.is("4: holds of " + f + " on " + b, x.bend(f, b, 1), holds[f][b]);
        }
        x.say(0, 4, 3);
        x.say(0, 9, 3);
        x.say(0, 4, 3);
        Due.is("4: layers", x.bend(0, 4, 0), 3);
        Due.is("4: words", x.bend(0, 4, 2), Due.set(4, 9));
        Due.is("4: no layers", x.bend(0, 5, 0), 0);
        Due.is("4: no words", x.bend(0, 5, 2), 0);
        Due.is("4: what 3", x.bend(0, 0, 3), Due.BEYOND);
        Due.is("4: what -1", x.bend(0, 0, -1), Due.BEYOND);
        Due.is("4: bend 8", x.bend(0, 8, 0), Due.BEYOND);
        Due.is("4: flue 6", x.bend(6, 0, 0), Due.BEYOND);
        for (int wild : Due.WILD) {
            Due.is("4: wild flue", x.bend(wild, 0, 0), Due.BEYOND);
            Due.is("4: wild bend", x.bend(0, wild, 0), Due.BEYOND);
        }
    }

    private static void layer() {
        SootTalk x = Due.withFlues(0);
        x.say(0, 4, 3);
        x.cake(0, 4, 0, 7);
        x.say(0, 9, 3);
        Due.is("5: top word", x.layer(0, 4, 0, 0), 9);
        Due.is("5: top cake", x.layer(0, 4, 0, 1), 0);
        Due.is("5: lower word", x.layer(0, 4, 1, 0), 4);
        Due.is("5: lower cake", x.layer(0, 4, 1, 1), 7);
        Due.is("5: none below", x.layer(0, 4, 2, 0), Due.NONE);
        Due.is("5: k -1 is none, not beyond", x.layer(0, 4, -1, 0), Due.NONE);
        Due.is("5: bare bend", x.layer(0, 0, 0, 0), Due.NONE);
        Due.is("5: what 2 before none", x.layer(0, 4, 9, 2), Due.BEYOND);
        Due.is("5: what -1", x.layer(0, 4, 0, -1), Due.BEYOND);
        Due.is("5: flue 1", x.layer(1, 4, 0, 0), Due.BEYOND);
        Due.is("5: bend 8", x.layer(0, 8, 0, 0), Due.BEYOND);
        for (int wild : Due.WILD) Due.is("5: wild k", x.layer(0, 4, wild, 0), Due.NONE);
    }

    private static void turn() {
        SootTalk x = Due.withFlues(0);
        for (int w = 0; w < 6; w++) x.say(0, w, 9);
        Due.is("6: was", x.turn(0, 2), 0);
        Due.is("6: layers stay beyond what it holds", x.bend(0, 0, 0), 6);
        Due.is("6: lowest stays", x.layer(0, 0, 5, 0), 0);
        Due.is("6: holds", x.bend(0, 0, 1), 3);
        Due.is("6: to the same", x.turn(0, 2), 2);
        Due.is("6: kind 6", x.turn(0, 6), Due.BEYOND);
        Due.is("6: kind -1", x.turn(0, -1), Due.BEYOND);
        Due.is("6: flue 1", x.turn(1, 0), Due.BEYOND);
        Due.is("6: flue -1", x.turn(-1, 0), Due.BEYOND);
        Due.is("6: still", x.of(0, 0), 2);
    }

    private static void as() {
        boolean[][] is = {{true, false, false, false, false, false}, {true, true, false, false, false, false},
            {true, false, true, false, false, false}, {true, false, false, true, false, false},
            {true, true, false, false, true, false}, {true, false, true, false, false, true}};
        for (int kind = 0; kind < 6; kind++) {
            SootTalk x = Due.withFlues(kind);
            x.say(0, 15, 0);
            x.say(0, 15, 9);
            for (int k = 0; k < 6; k++) Due.is("7: " + kind + " as " + k, x.as(0, k), is[kind][k] ? 2 : Due.KIND);
            Due.is("7: kind 6", x.as(0, 6), Due.BEYOND);
            Due.is("7: kind -1", x.as(0, -1), Due.BEYOND);
            Due.is("7: flue 1", x.as(1, 0), Due.BEYOND);
        }
    }

    private static void damp() {
        SootTalk x = new SootTalk();
        Due.is("8: at first", x.damp(9), 0);
        Due.is("8: 10", x.damp(10), Due.BEYOND);
        Due.is("8: -1", x.damp(-1), Due.BEYOND);
        Due.is("8: was", x.damp(0), 9);
        Due.is("8: is", x.now(1), 0);
    }
}
