/** Promises 9 to 13. */
final class SaidTest {
    public static void main(String[] args) {
        rises();
        jackdawDays();
        say();
        sayFallsThrough();
        cake();
        days();
        lastDay();
        now();
        Due.end();
    }

    private static void rises() {
        for (int v = 0; v < 10; v++) {
            SootTalk x = Due.withFlues(0, 1, 2, 3, 4, 5);
            int plain = v < 7 ? 7 - v : 0;
            int wide = v < 5 ? 5 - v : 0;
            for (int w = 0; w < 16; w++) {
                int rest = w < 8 ? w : w - 8;
                int crooked = plain < rest ? plain : rest;
                Due.is("9: flue", x.rises(0, w, v), plain);
                Due.is("9: crooked", x.rises(1, w, v), crooked);
                Due.is("9: wide", x.rises(2, w, v), wide);
                Due.is("9: shut", x.rises(3, w, v), 0);
                Due.is("9: queens", x.rises(4, w, v), w == 15 ? 7 : crooked);
                Due.is("9: jackdaw", x.rises(5, w, v), wide);
            }
        }
        SootTalk x = Due.withFlues(0);
        for (int i = 0; i < 6; i++) x.say(0, 1, 0);
        Due.is("9: no room doesn't matter", x.rises(0, 1, 0), 7);
        Due.is("9: nothing is said", x.now(2), 6);
        Due.is("9: word 16", x.rises(0, 16, 0), Due.BEYOND);
        Due.is("9: voice 10", x.rises(0, 0, 10), Due.BEYOND);
        for (int wild : Due.WILD) {
            Due.is("9: wild flue", x.rises(wild, 0, 0), Due.BEYOND);
            Due.is("9: wild word", x.rises(0, wild, 0), Due.BEYOND);
            Due.is("9: wild voice", x.rises(0, 0, wild), Due.BEYOND);
        }
    }

    private static void jackdawDays() {
        SootTalk x = Due.withFlues(5);
        for (int day = 0; day < 12; day++) {
            boolean gone = day == 2 || day == 6 || day == 10;
            Due.is("9: jackdaw on day " + day, x.rises(0, 3, 1), gone ? Due.NONE : 4);
            Due.is("9: beyond before none", x.rises(0, 16, 1), Due.BEYOND);
            Due.is("10: jackdaw on day " + day, x.say(0, 3, 1), gone ? -1 : 4);
            x.sweep(0, 7, 9);
            x.days(1);
        }
        Due.is("9: gone ones are found", x.status(3), 3);
    }

    private static void say() {
        SootTalk x = Due.withFlues(0, 4);
        Due.is("10: bend", x.say(0, 3, 2), 5);
        Due.is("10: word", x.layer(0, 5, 0, 0), 3);
        Due.is("10: loose", x.layer(0, 5, 0, 1), 0);
        Due.is("10: queens", x.say(1, 15, 9), 7);
        Due.is("10: word 16", x.say(0, 16, 0), Due.BEYOND);
        Due.is("10: voice 10", x.say(0, 0, 10), Due.BEYOND);
        Due.is("10: flue 2", x.say(2, 0, 0), Due.BEYOND);
        for (int wild : Due.WILD) {
            Due.is("10: wild flue", x.say(wild, 0, 0), Due.BEYOND);
            Due.is("10: wild word", x.say(0, wild, 0), Due.BEYOND);
            Due.is("10: wild voice", x.say(0, 0, wild), Due.BEYOND);
        }
        Due.is("10: nothing more lies", x.now(2), 2);
    }

    private static void sayFallsThrough() {
        SootTalk x = Due.withFlues(1, 5);
        int[] crooked = {3, 3, 3, 3, 2, 2, 2, 2, 2, 2, 1, 1, 1, 1, 0, 0, 0, 0, 0, 0, -1, -1};
        for (int i = 0; i < crooked.length; i++) Due.is("10: falls, " + i, x.say(0, 11, 0), crooked[i]);
        Due.is("10: above it is bare", x.of(0, 3), 0xF0);
        Due.is("10: gone is no finding", x.status(-1), 0);
        x.turn(1, 0);
        x.say(1, 1, 0);
        x.turn(1, 5);
        int[] jackdaw = {5, 5, 5, 4};
        for (int i = 0; i < jackdaw.length; i++) Due.is("10: jackdaw, " + i, x.say(1, 2, 0), jackdaw[i]);
    }

    private static void cake() {
        SootTalk x = Due.withFlues(0);
        x.say(0, 1, 7);
        x.say(0, 2, 7);
        Due.is("11: was", x.cake(0, 0, 1, 9), 0);
        Due.is("11: was 9", x.cake(0, 0, 1, 4), 9);
        Due.is("11: is", x.layer(0, 0, 1, 1), 4);
        Due.is("11: other is not", x.layer(0, 0, 0, 1), 0);
        Due.is("11: none", x.cake(0, 0, 2, 1), Due.NONE);
        Due.is("11: k -1", x.cake(0, 0, -1, 1), Due.NONE);
        Due.is("11: v 10 before none", x.cake(0, 0, 2, 10), Due.BEYOND);
        Due.is("11: v -1", x.cake(0, 0, 0, -1), Due.BEYOND);
        Due.is("11: bend 8", x.cake(0, 8, 0, 1), Due.BEYOND);
        Due.is("11: bend -1", x.cake(0, -1, 0, 1), Due.BEYOND);
        Due.is("11: flue 1", x.cake(1, 0, 0, 1), Due.BEYOND);
        for (int wild : Due.WILD) Due.is("11: wild k", x.cake(0, 0, wild, 1), Due.NONE);
    }

    private static void days() {
        SootTalk x = Due.withFlues(0, 3, 5);
        x.say(0, 1, 9);
        x.say(1, 1, 9);
        x.say(2, 1, 9);
        x.damp(6);
        Due.is("12: one day", x.days(1), 0);
        Due.is("12: flue", x.layer(0, 0, 0, 1), 2);
        Due.is("12: shut", x.layer(1, 0, 0, 1), 4);
        Due.is("12: jackdaw", x.layer(2, 0, 0, 1), 1);
        Due.is("12: two more", x.days(2), 1);
        Due.is("12: 9 at most", x.layer(1, 0, 0, 1), 9);
        Due.is("12: flue, after three", x.layer(0, 0, 0, 1), 6);
        Due.is("12: day", x.now(0), 3);
        Due.is("12: sixty", x.days(60), 3);
        Due.is("12: n 0", x.days(0), Due.BEYOND);
        Due.is("12: n 61", x.days(61), Due.BEYOND);
        Due.is("12: day is as it was", x.now(0), 63);
        for (int wild : Due.WILD) Due.is("12: wild n", x.days(wild), Due.BEYOND);
    }

    private static void lastDay() {
        SootTalk x = Due.withFlues(0);
        for (int i = 0; i < 166; i++) x.days(60);
        Due.is("12: day 9960", x.now(0), 9960);
        Due.is("12: above 9999", x.days(40), Due.STATE);
        Due.is("12: beyond before state", x.days(61), Due.BEYOND);
        Due.is("12: to 9999", x.days(39), 0);
        Due.is("12: no day more", x.days(1), Due.STATE);
        Due.is("12: day 9999", x.now(0), 9999);
        Due.is("17: on needs no day", x.on(0, 7, 9, 60), 0);
    }

    private static void now() {
        SootTalk x = Due.withFlues(0, 3);
        x.damp(4);
        x.say(0, 1, 0);
        x.say(0, 5, 9);
        x.say(1, 15, 0);
        x.days(2);
        Due.is("13: day", x.now(0), 2);
        Due.is("13: damp", x.now(1), 4);
        Due.is("13: layers", x.now(2), 3);
        Due.is("13: words", x.now(3), Due.set(1, 5, 15));
        Due.is("13: cake", x.now(4), 2 + 2 + 4);
        Due.is("13: what 5", x.now(5), Due.BEYOND);
        Due.is("13: what -1", x.now(-1), Due.BEYOND);
    }
}
