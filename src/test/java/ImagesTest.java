/** Promises 37 to 41. */
final class ImagesTest {
    public static void main(String[] args) {
        imageAndUndo();
        undoOfFlues();
        whatStays();
        tear();
        count();
        status();
        Due.end();
    }

    private static void imageAndUndo() {
        SootTalk x = Due.withFlues(0, 4);
        Due.is("38: nothing is kept", x.undo(), Due.NONE);
        Due.house(x, "say 0 1;layer 1 7 15 cake 4;damp 3");
        x.days(1);
        Due.is("37: kept", x.image(), 1);
        x.flue(3);
        x.turn(0, 2);
        x.damp(9);
        x.days(5);
        x.sweep(0, 7, 9);
        x.say(0, 9, 9);
        x.cake(1, 7, 0, 1);
        for (int time = 0; time < 2; time++) {
            Due.is("38: flues", x.undo(), 2);
            Due.is("38: count", x.count(0), 2);
            Due.is("38: kind", x.of(0, 0), 0);
            Due.is("38: damp", x.now(1), 3);
            Due.is("38: day", x.now(0), 1);
            Due.is("38: words", x.now(3), Due.set(1, 15));
            Due.is("38: place", x.layer(0, 2, 0, 0), 1);
            Due.is("38: cake", x.layer(0, 2, 0, 1), 1);
            Due.is("38: cake of the other", x.layer(1, 7, 0, 1), 5);
            x.sweep(0, 7, 9);
            x.say(0, 6, 5);
            x.cake(1, 7, 0, 0);
        }
        x.undo();
        x.say(0, 2, 0);
        x.image();
        x.say(0, 3, 0);
        x.undo();
        Due.is("38: what was kept latest", x.now(3), Due.set(1, 2, 15));
    }

    private static void undoOfFlues() {
        SootTalk x = new SootTalk();
        x.image();
        x.flue(0);
        x.say(0, 1, 0);
        Due.is("38: no flues", x.undo(), 0);
        Due.is("38: it is beyond", x.of(0, 0), Due.BEYOND);
        x.flue(2);
        Due.is("38: a new one is bare", x.of(0, 3), 255);
    }

    private static void whatStays() {
        SootTalk x = Due.withFlues(0);
        x.sheet(0, 8, 1);
        x.write(0, 0, 5);
        Due.feed(x, "flue");
        x.image();
        x.write(0, 0, 6);
        x.sheet(1, 8, 1);
        Due.feed(x, ";shut");
        x.flue(9);
        x.undo();
        Due.is("38: the tape stays", x.count(1), 9);
        Due.is("38: sheets stay", x.write(0, 0, 0), 6);
        Due.is("38: new sheets stay", x.write(1, 0, 0), 0);
        Due.is("41: undo takes none back", x.status(0), 1);
        Due.is("38: the text is whole", x.house(), 2);
    }

    private static void tear() {
        SootTalk x = new SootTalk();
        Due.is("39: nothing was", x.tear(), 0);
        x.image();
        x.image();
        Due.is("39: something was", x.tear(), 1);
        Due.is("39: nothing is", x.tear(), 0);
        Due.is("39: no undo", x.undo(), Due.NONE);
        x.image();
        Due.is("39: kept again", x.undo(), 0);
    }

    private static void count() {
        SootTalk x = Due.withFlues(2, 0);
        Due.feed(x, "abc");
        Due.is("40: flues", x.count(0), 2);
        Due.is("40: bytes", x.count(1), 3);
        x.say(0, 1, 9);
        x.say(0, 1, 9);
        Due.is("40: not full yet", x.count(3), 0);
        x.say(0, 1, 9);
        x.say(1, 1, 0);
        x.cake(1, 7, 0, 1);
        Due.is("40: loose", x.count(2), 3);
        Due.is("40: full", x.count(3), 1);
        x.turn(0, 0);
        Due.is("40: full no more", x.count(3), 0);
        for (int i = 0; i < 3; i++) x.say(0, 1, 9);
        x.turn(0, 2);
        Due.is("40: more than it holds", x.count(3), 1);
        Due.is("40: what 4", x.count(4), Due.BEYOND);
        Due.is("40: what -1", x.count(-1), Due.BEYOND);
    }

    private static void status() {
        SootTalk x = new SootTalk();
        x.flue(6);
        for (int i = 0; i < 8; i++) x.flue(0);
        x.turn(0, 3);
        for (int i = 0; i < 3; i++) x.as(0, 1);
        for (int i = 0; i < 4; i++) x.richest(0);
        for (int i = 0; i < 167; i++) x.days(60);
        for (int i = 0; i < 4; i++) x.days(60);
        for (int i = 0; i < 6; i++) x.lays(0, 0);
        for (int i = 0; i < 7; i++) x.sheet(0, 8, -1);
        int[] due = {1, 2, 3, 4, 5, 6, 7};
        for (int which = 0; which < 7; which++) Due.is("41: which " + which, x.status(which), due[which]);
        Due.is("41: all", x.status(-1), 28);
        Due.is("41: which 7", x.status(7), Due.BEYOND);
        Due.is("41: which -2", x.status(-2), Due.BEYOND);
        Due.is("41: counted from then on", x.status(0), 3);
        Due.is("41: in all", x.status(-1), 30);
        for (int wild : new int[] {Integer.MIN_VALUE, Integer.MAX_VALUE}) Due.is("41: wild", x.status(wild), Due.BEYOND);
        x.write(0, 0, 0);
        Due.is("41: write's too", x.status(5), 7);
    }
}
