/** The edges that promises 9 to 13 name. */
final class SaidEdges {
    private SaidEdges() {
    }

    static void all() {
        rises();
        say();
        cake();
        days();
        lastDay();
        now();
        nowOfMost();
    }

    private static void rises() {
        Edges.sentence(9, "To which BEND a WORD said with a VOICE (0 to 9) RISES, whether there is room or not.");
        Edges.is("a whisper, no room", Edges.full().rises(0, 0, 0), 7);
        Edges.is("the loudest, no room", Edges.full().rises(0, 0, 9), 0);
        SootTalk overfull = Edges.full();
        overfull.turn(0, 5);
        Edges.is("more than it holds", overfull.rises(0, 0, 0), 5);
        Edges.changesNothing("nothing is said", Edges::furnished, x -> x.rises(0, 0, 0));
        Edges.sentence(9, "BEYOND.");
        Edges.bounds("flue", 0, 2, (x, v) -> x.rises(v, 0, 0));
        Edges.bounds("word", 0, 15, (x, v) -> x.rises(0, v, 0));
        Edges.bounds("voice", 0, 9, (x, v) -> x.rises(0, 0, v));
        Edges.sentence(9, "NONE: it is gone.");
        for (int day : new int[] {6, 10, 9998}) {
            Edges.refused("day " + day, Due.NONE, () -> Edges.onDay(day), x -> x.rises(2, 0, 0));
            Edges.refused("day " + day + ", loud", Due.NONE, () -> Edges.onDay(day), x -> x.rises(2, 15, 9));
            Edges.is("not in another kind", Edges.onDay(day).rises(1, 15, 0), 7);
        }
        for (int day : new int[] {3, 4, 5, 7, 9997, 9999}) Edges.is("day " + day, Edges.onDay(day).rises(2, 0, 0), 5);
    }

    private static void say() {
        Edges.sentence(10, "A WORD is SAID with a VOICE: the BEND (-1: gone).");
        SootTalk x = Due.withFlues(4);
        for (int i = 0; i < 5; i++) Edges.is("the plot " + i, x.say(0, 15, 9), 7);
        Edges.is("below, where 7 is full", x.say(0, 15, 9), 6);
        SootTalk day2 = Due.withFlues(5);
        day2.days(2);
        Edges.is("gone, though all is bare", day2.say(0, 0, 0), -1);
        Edges.is("nothing lies", day2.now(2), 0);
        Edges.is("gone is no finding", day2.status(-1), 0);
        SootTalk full = Edges.full();
        Edges.is("gone below bend 0", full.say(0, 0, 0), -1);
        Edges.is("the top stays", full.layer(0, 0, 0, 0), 47 % 16);
        SootTalk overfull = Edges.full();
        overfull.turn(0, 2);
        Edges.is("more than it holds", overfull.say(0, 1, 0), -1);
        Edges.sentence(10, "BEYOND.");
        Edges.bounds("flue", 0, 2, (y, v) -> y.say(v, 0, 0));
        Edges.bounds("word", 0, 15, (y, v) -> y.say(0, v, 0));
        Edges.bounds("voice", 0, 9, (y, v) -> y.say(0, 0, v));
    }

    private static void cake() {
        Edges.sentence(11, "CAKE of a LAYER becomes v (0 to 9): what it was.");
        SootTalk x = Edges.full();
        Edges.is("lowest layer to 9", x.cake(0, 7, 5, 9), 0);
        Edges.is("top layer to 8", x.cake(0, 7, 0, 8), 0);
        Edges.is("lowest layer to 0", x.cake(0, 7, 5, 0), 9);
        Edges.is("lowest layer", x.layer(0, 7, 5, 1), 0);
        Edges.is("top layer", x.layer(0, 7, 0, 1), 8);
        Edges.is("no other", x.now(4), 8);
        Edges.sentence(11, "BEYOND: flue, bend, v.");
        Edges.bounds("flue", 0, 2, (y, v) -> y.cake(v, 0, 0, 1));
        Edges.bounds("bend", 0, 7, (y, v) -> y.cake(0, v, 0, 1));
        Edges.bounds("v", 0, 9, (y, v) -> y.cake(0, 0, 0, v));
        Edges.sentence(11, "NONE: there is none such.");
        for (int k : new int[] {2, 6, -1, 256, Integer.MIN_VALUE, Integer.MAX_VALUE}) {
            Edges.refused("k " + k, Due.NONE, y -> y.cake(0, 0, k, 1));
        }
        Edges.refused("bare bend", Due.NONE, y -> y.cake(0, 1, 0, 1));
        Edges.refused("under six", Due.NONE, Edges::full, y -> y.cake(0, 7, 6, 1));
    }

    private static void days() {
        Edges.sentence(12, "n DAYS go (1 to 60): LAYERS whose CAKE is 9 then.");
        SootTalk x = Due.withFlues(0, 5);
        Edges.is("without layers", x.days(60), 0);
        Edges.is("sixty went", x.now(0), 60);
        for (int i = 0; i < 3; i++) x.say(0, i, 9);
        x.say(1, 0, 9);
        x.cake(0, 0, 0, 9);
        x.cake(0, 0, 1, 8);
        Edges.is("one that was 9 before", x.days(1), 1);
        x.damp(3);
        Edges.is("one more comes to 9", x.days(1), 2);
        Edges.is("not the one at 8", x.days(7), 2);
        Edges.is("all of the flue, none of the jackdaws", x.days(1), 3);
        Edges.is("jackdaws' is loose", x.layer(1, 0, 0, 1), 0);
        Edges.is("days in all", x.now(0), 70);
        SootTalk full = Edges.full();
        Edges.is("48 before", full.days(2), 0);
        Edges.is("48 at once", full.days(1), 48);
        Edges.sentence(12, "BEYOND.");
        Edges.bounds("n", 1, 60, (y, v) -> y.days(v));
    }

    private static void lastDay() {
        Edges.sentence(12, "STATE: DAY would be above 9999.");
        Edges.refused("from 9999", Due.STATE, () -> Edges.onDay(9999), x -> x.days(1));
        Edges.refused("60 from 9940", Due.STATE, () -> Edges.onDay(9940), x -> x.days(60));
        SootTalk x = Edges.onDay(9939);
        Edges.is("60 from 9939", x.days(60) >= 0 ? 1 : 0, 1);
        Edges.is("the last day", x.now(0), 9999);
        SootTalk y = Edges.onDay(9998);
        Edges.is("2 from 9998", y.days(2), Due.STATE);
        Edges.is("1 from 9998", y.days(1) >= 0 ? 1 : 0, 1);
    }

    private static void now() {
        Edges.sentence(13, "What 0 DAY, 1 DAMP, 2 LAYERS of all, 3 WORDS that lie anywhere, as a set, 4 CAKE of all "
            + "together.");
        for (int what = 0; what < 5; what++) {
            Edges.is("new, " + what, new SootTalk().now(what), 0);
            Edges.is("with bare flues, " + what, Due.withFlues(0, 1, 2, 3, 4, 5).now(what), 0);
        }
        Edges.sentence(13, "BEYOND.");
        Edges.bounds("what", 0, 4, (x, v) -> x.now(v));
    }

    private static void nowOfMost() {
        Edges.sentence(13, "2 LAYERS of all, 3 WORDS that lie anywhere, as a set, 4 CAKE of all together.");
        SootTalk x = Due.withFlues(0, 0, 0, 0, 0, 0);
        for (int f = 0; f < 6; f++) for (int i = 0; i < 48; i++) x.say(f, i % 16, 0);
        Edges.is("six full flues", x.now(2), 288);
        Edges.is("all words", x.now(3), 65535);
        Edges.is("all loose", x.now(4), 0);
        Edges.is("all are counted as loose", x.count(2), 288);
        Edges.is("all bends hold no more", x.count(3), 48);
        x.damp(9);
        Edges.is("all come to 9", x.days(60), 288);
        Edges.is("9 each", x.now(4), 9 * 288);
        Edges.is("a word lies in all", x.where(15), 63);
    }
}
