/** The edges that the document's Terms name, but for those of the text (TextEdges) and of sheets (SheetsEdges). */
final class TermsEdges {
    private TermsEdges() {
    }

    static void all() {
        findings();
        orderOfFindings();
        quotientsAndSets();
        wordsDaysAndDamps();
        fluesAndLayers();
        rises();
        holds();
        said();
        cakes();
        brush();
        aDayGoes();
        nothingChanges();
    }

    private static void findings() {
        Edges.sentence(0, "FINDINGS are answers below -1000000000: -1000000001 BEYOND, -1000000002 FULL, "
            + "-1000000003 KIND, -1000000004 NONE, -1000000005 STATE, -1000000006 MISSING, -1000000007 SIZE (in "
            + "longs, too).");
        SootTalk x = Edges.withSixFlues();
        Edges.is("BEYOND", x.flue(6), -1000000001);
        Edges.is("FULL", x.flue(0), -1000000002);
        Edges.is("KIND", x.as(0, 1), -1000000003);
        Edges.is("NONE", x.layer(0, 0, 6, 0), -1000000004);
        Edges.is("STATE", Edges.onDay(9999).days(1), -1000000005);
        Edges.is("MISSING", x.lays(3, 0), -1000000006);
        Edges.is("SIZE", x.sheet(0, 8, -1), -1000000007);
        Edges.is("BEYOND in longs", x.write(4, 0, 0), -1000000001L);
        Edges.is("MISSING in longs", x.write(3, 0, 0), -1000000006L);
        Edges.is("no such number in longs", x.write(2, 4, 0), -1000000001L);
    }

    private static void orderOfFindings() {
        Edges.sentence(0, "Each act tells its findings in the order in which they are asked;");
        Edges.refused("flue: kind, then full", Due.BEYOND, Edges::withSixFlues, x -> x.flue(6));
        Edges.refused("as: kind that is none, then KIND", Due.BEYOND, x -> x.as(0, 6));
        Edges.refused("as: no such flue, then KIND", Due.BEYOND, x -> x.as(3, 5));
        Edges.refused("layer: what, then none such", Due.BEYOND, x -> x.layer(0, 0, 6, 2));
        Edges.refused("rises: word, then gone", Due.BEYOND, () -> Edges.onDay(6), x -> x.rises(2, 16, 0));
        Edges.refused("cake: v, then none such", Due.BEYOND, x -> x.cake(0, 0, 6, 10));
        Edges.refused("days: n, then the last day", Due.BEYOND, () -> Edges.onDay(9999), x -> x.days(61));
        Edges.refused("order: strength, then so many", Due.BEYOND, x -> x.order(0, 7, 10, 48));
        Edges.refused("covers: word, then none", Due.BEYOND, x -> x.covers(0, 16, 15));
        Edges.refused("best: words, then no flue", Due.BEYOND, SootTalk::new, x -> x.best(65536, 0));
        Edges.refused("feed: n, then full", Due.BEYOND, TextEdges::withFullTape, x -> x.feed(0, 5));
        Edges.refused("sheet: bits, then size", Due.BEYOND, x -> x.sheet(0, 9, -1));
        Edges.refused("sheet: no such sheet, then size", Due.BEYOND, x -> x.sheet(4, 8, -1));
        Edges.refused("write: no such sheet, then missing", Due.BEYOND, x -> x.write(4, 99, 0));
        Edges.refused("write: missing, then no such number", Due.MISSING, x -> x.write(3, 99, 0));
        Edges.refused("copy: no such sheet, then missing", Due.BEYOND, x -> x.copy(3, 0, 4, 0, 1));
        Edges.refused("copy: missing, then bits and numbers", Due.MISSING, x -> x.copy(3, -1, 0, 0, 1));
        Edges.refused("copy: bits, then numbers", Due.KIND, x -> x.copy(0, -1, 1, 99, -1));
        Edges.refused("lays: missing, then flue", Due.MISSING, x -> x.lays(3, 9));
        Edges.refused("book: missing, then flue", Due.MISSING, x -> x.book(3, 9));
        Edges.refused("read: missing, then flue", Due.MISSING, x -> x.read(3, 9));
        Edges.sentence(0, "one that answers a finding changes nothing but status().");
        Edges.refused("FULL", Due.FULL, Edges::withSixFlues, x -> x.flue(0));
        Edges.refused("NONE", Due.NONE, x -> x.order(0, 7, 9, 48));
        Edges.refused("STATE", Due.STATE, () -> Edges.onDay(9970), x -> x.days(30));
        Edges.refused("SIZE", Due.SIZE, x -> x.sheet(0, 0, -1));
    }

    private static void quotientsAndSets() {
        Edges.sentence(0, "Quotients are cut.");
        int[] thirds = {0, 0, 0, 1, 1, 1, 2, 2, 2, 3};
        SootTalk x = Due.withFlues(0, 3);
        for (int d = 0; d < 10; d++) {
            x.damp(d);
            Edges.is("a third of " + d, x.of(0, 4), thirds[d]);
            Edges.is("twice the cut third of " + d, x.of(1, 4), 2 * thirds[d]);
        }
        Edges.sentence(0, "Sets are told by bits.");
        SootTalk y = Due.withFlues(0, 0, 0, 0, 0, 0);
        Edges.is("the empty set", y.of(5, 2), 0);
        y.say(5, 0, 7);
        y.say(5, 15, 7);
        Edges.is("words 0 and 15", y.of(5, 2), 1 + 32768);
        Edges.is("bends 1 to 7", y.of(5, 3), 254);
        Edges.is("flue 5", y.where(15), 32);
        y.say(0, 15, 0);
        Edges.is("bends 0 to 6", y.of(0, 3), 127);
        Edges.is("flues 0 and 5", y.where(15), 33);
    }

    private static void wordsDaysAndDamps() {
        Edges.sentence(0, "WORDS 0 to 15 (sets of them: 0 to 65535).");
        Edges.bounds("word", 0, 15, (x, v) -> x.say(0, v, 0));
        Edges.bounds("set", 0, 65535, (x, v) -> x.kind(0, v, 0));
        Edges.is("all words that lie", Edges.full().now(3), 65535);
        Edges.sentence(0, "DAY: 0 at first (9999 at most).");
        Edges.is("at first", new SootTalk().now(0), 0);
        Edges.is("at most", Edges.onDay(9999).now(0), 9999);
        Edges.refused("no day more", Due.STATE, () -> Edges.onDay(9999), x -> x.days(1));
        Edges.sentence(0, "DAMP (0 to 9; 0 at first).");
        Edges.is("at first", new SootTalk().now(1), 0);
        Edges.bounds("damp", 0, 9, (x, v) -> x.damp(v));
    }

    private static void fluesAndLayers() {
        Edges.sentence(0, "FLUES 0, 1, .. (at most 6) are of KINDS: 0 FLUE, 1 CROOKED under FLUE, 2 WIDE under "
            + "FLUE, 3 SHUT under FLUE, 4 QUEENS under CROOKED, 5 JACKDAW under WIDE;");
        SootTalk x = new SootTalk();
        for (int f = 0; f < 6; f++) Edges.is("flue", x.flue(5 - f), f);
        Edges.is("a seventh", x.flue(0), Due.FULL);
        for (int f = 0; f < 6; f++) Edges.is("kind of " + f, x.of(f, 0), 5 - f);
        Edges.sentence(0, "each with 8 BENDS, 0 (lowest) to 7.");
        Edges.bounds("bend", 0, 7, (y, v) -> y.bend(0, v, 1));
        Edges.is("all are bare", x.of(5, 3), 255);
        Edges.sentence(0, "On a BEND of a FLUE lie LAYERS, one on the other, at most 6, each a WORD, with CAKE (0: "
            + "loose; 1 to 9).");
        SootTalk y = Due.withFlues(0);
        for (int i = 0; i < 6; i++) Edges.is("layer " + i, y.say(0, i, 9), 0);
        Edges.is("a seventh layer", y.say(0, 6, 9), -1);
        Edges.is("six", y.bend(0, 0, 0), 6);
        for (int k = 0; k < 6; k++) Edges.is("one on the other, " + k, y.layer(0, 0, k, 0), 5 - k);
        Edges.is("loose", y.layer(0, 0, 0, 1), 0);
        Edges.bounds("cake", 0, 9, (z, v) -> z.cake(0, 0, 0, v));
    }

    private static void rises() {
        Edges.sentence(0, "said with VOICE v, 0 a whisper to 9): FLUE: 7 less v (0 at least).");
        Edges.bounds("voice", 0, 9, (x, v) -> x.rises(0, 0, v));
        SootTalk x = Due.withFlues(0, 1, 2, 3, 4, 5);
        int[] plain = {7, 6, 5, 4, 3, 2, 1, 0, 0, 0};
        for (int v = 0; v < 10; v++) Edges.is("voice " + v, x.rises(0, 15, v), plain[v]);
        Edges.sentence(0, "CROOKED: as FLUE, but no higher than the rest of w by 8.");
        for (int w = 0; w < 16; w++) Edges.is("word " + w, x.rises(1, w, 0), w % 8);
        Edges.is("7 at voice 1", x.rises(1, 7, 1), 6);
        Edges.is("8 is as 0", x.rises(1, 8, 0), 0);
        Edges.sentence(0, "WIDE: as FLUE, less 2 (0 at least).");
        int[] wide = {5, 4, 3, 2, 1, 0, 0, 0, 0, 0};
        for (int v = 0; v < 10; v++) Edges.is("voice " + v, x.rises(2, 15, v), wide[v]);
        Edges.sentence(0, "SHUT: 0.");
        for (int v = 0; v < 10; v++) Edges.is("voice " + v, x.rises(3, 15, v), 0);
        Edges.sentence(0, "QUEENS: as CROOKED, but 7 for WORD 15.");
        for (int v = 0; v < 10; v++) Edges.is("word 15, voice " + v, x.rises(4, 15, v), 7);
        for (int w = 0; w < 15; w++) Edges.is("word " + w, x.rises(4, w, 0), w % 8);
        Edges.is("word 14, voice 9", x.rises(4, 14, 9), 0);
        Edges.sentence(0, "JACKDAW: as WIDE; on DAYS whose rest by 4 is 2 none (it is gone).");
        for (int day = 0; day < 9; day++) {
            Edges.is("day " + day, x.rises(5, 0, 0), day == 2 || day == 6 ? Due.NONE : 5);
            Edges.is("said on day " + day, x.say(5, 0, 4), day == 2 || day == 6 ? -1 : 1);
            x.sweep(5, 7, 9);
            x.days(1);
        }
        Edges.is("day 9998", Edges.onDay(9998).rises(2, 0, 0), Due.NONE);
        Edges.is("day 9999", Edges.onDay(9999).rises(2, 0, 0), 5);
    }

    private static void holds() {
        Edges.sentence(0, "HOLDS (how many LAYERS a BEND bears): FLUE: 6.");
        holdsJust(0, 6, 6, 6, 6, 6, 6, 6, 6);
        Edges.sentence(0, "CROOKED: as FLUE, less 2 on odd BENDS.");
        holdsJust(1, 6, 4, 6, 4, 6, 4, 6, 4);
        Edges.sentence(0, "WIDE: half of as FLUE.");
        holdsJust(2, 3, 3, 3, 3, 3, 3, 3, 3);
        Edges.sentence(0, "SHUT: as FLUE.");
        holdsJust(3, 6, 6, 6, 6, 6, 6, 6, 6);
        Edges.sentence(0, "QUEENS: as CROOKED, and 1 (6 at most).");
        holdsJust(4, 6, 5, 6, 5, 6, 5, 6, 5);
        Edges.sentence(0, "JACKDAW: as WIDE, and 2 on BEND 7.");
        holdsJust(5, 3, 3, 3, 3, 3, 3, 3, 5);
    }

    /** Each bend is told to hold so many, takes so many from a text, and not one more. */
    private static void holdsJust(int kind, int... due) {
        for (int b = 0; b < 8; b++) {
            SootTalk x = Due.withFlues(kind);
            Edges.is("kind " + kind + ", bend " + b, x.bend(0, b, 1), due[b]);
            for (int i = 0; i < due[b]; i++) {
                Edges.is("full with " + i, x.count(3), 0);
                Due.house(x, "layer 0 " + b + " " + i);
            }
            Edges.is("full", x.count(3), 1);
            Due.house(x, "layer 0 " + b + " 15");
            Edges.is("kind " + kind + ", bend " + b + ": as many", x.bend(0, b, 0), due[b]);
            Edges.is("kind " + kind + ", bend " + b + ": not the last", x.bend(0, b, 2), (1 << due[b]) - 1);
        }
    }

    private static void said() {
        Edges.sentence(0, "if that BEND HOLDS no more, of that below, and so on; below BEND 0 it is gone.");
        SootTalk x = Due.withFlues(0);
        for (int i = 0; i < 48; i++) Edges.is("word " + i, x.say(0, i % 16, 0), 7 - i / 6);
        for (int v = 0; v < 10; v++) Edges.is("gone, voice " + v, x.say(0, 15, v), -1);
        Edges.is("48 stay", x.now(2), 48);
        Edges.is("gone is no finding", x.status(-1), 0);
        x.sweep(0, 0, 9);
        Edges.is("through all to the lowest", x.say(0, 3, 0), 0);
        Edges.is("never up", Due.withFlues(3).say(0, 0, 0), 0);
        SootTalk shut = Due.withFlues(3);
        for (int i = 0; i < 6; i++) shut.say(0, i, 0);
        Edges.is("gone below bend 0, though all above is bare", shut.say(0, 6, 0), -1);
    }

    private static void cakes() {
        Edges.sentence(0, "CAKES (how much CAKE a day of DAMP d adds to each LAYER): FLUE: a third of d.");
        cakesJust(0, 0, 0, 0, 1, 1, 1, 2, 2, 2, 3);
        Edges.sentence(0, "CROOKED: as FLUE, and 1, if d is above 5.");
        cakesJust(1, 0, 0, 0, 1, 1, 1, 3, 3, 3, 4);
        Edges.sentence(0, "WIDE: as FLUE. SHUT: twice as FLUE.");
        cakesJust(2, 0, 0, 0, 1, 1, 1, 2, 2, 2, 3);
        Edges.sentence(0, "SHUT: twice as FLUE.");
        cakesJust(3, 0, 0, 0, 2, 2, 2, 4, 4, 4, 6);
        Edges.sentence(0, "QUEENS: as CROOKED. JACKDAW:");
        cakesJust(4, 0, 0, 0, 1, 1, 1, 3, 3, 3, 4);
        Edges.sentence(0, "JACKDAW: as WIDE, less 1 (0 at least).");
        cakesJust(5, 0, 0, 0, 0, 0, 0, 1, 1, 1, 2);
    }

    /** By each damp from 0 to 9, as told and as a day does it. */
    private static void cakesJust(int kind, int... due) {
        for (int d = 0; d < 10; d++) {
            SootTalk x = Due.withFlues(kind);
            x.say(0, 15, 9);
            x.damp(d);
            Edges.is("kind " + kind + ", damp " + d, x.of(0, 4), due[d]);
            x.days(1);
            Edges.is("kind " + kind + ", damp " + d + ", after a day", x.now(4), due[d]);
        }
    }

    private static void brush() {
        Edges.sentence(0, "A BRUSH of STRENGTH s (1 to 9), put up a FLUE to a BEND b:");
        Edges.bounds("strength", 1, 9, (x, v) -> x.sweep(0, 7, v));
        Edges.bounds("bend", 0, 7, (x, v) -> x.sweep(0, v, 9));
        Edges.sentence(0, "it brings down LAYERS from the top on, as long as their CAKE is below s;");
        for (int s = 1; s <= 9; s++) {
            SootTalk x = Due.withFlues(0);
            x.say(0, 1, 0);
            x.cake(0, 7, 0, s);
            Edges.is("cake as strong as the brush, " + s, x.sweep(0, 7, s), 0);
            x.cake(0, 7, 0, s - 1);
            Edges.is("cake just below " + s, x.sweep(0, 7, s), 1);
        }
        Edges.sentence(0, "the first of a BEND that isn't stays, with all below it.");
        SootTalk x = Due.withFlues(0);
        Due.house(x, "layer 0 0 1;layer 0 0 2 cake 9;layer 0 0 3;layer 0 1 4");
        Edges.is("3 and, a bend above, 4", x.sweep(0, 7, 9), 2);
        Edges.is("2 stays on top", x.layer(0, 0, 0, 0), 2);
        Edges.is("1 stays, though loose", x.layer(0, 0, 1, 0), 1);
        Edges.sentence(0, "What comes is told in that order (BEND 0 first, from the top down).");
        SootTalk y = Due.withFlues(0);
        Due.house(y, "layer 0 7 1;layer 0 7 2;layer 0 0 3;layer 0 0 4");
        int[] due = {4, 3, 2, 1};
        for (int k = 0; k < 4; k++) Edges.is("word " + k, y.order(0, 7, 1, k), due[k]);
    }

    private static void aDayGoes() {
        Edges.sentence(0, "A DAY goes: CAKE of all LAYERS is CAKES more (9 at most).");
        SootTalk x = Due.withFlues(3);
        x.damp(9);
        for (int cake = 0; cake < 6; cake++) {
            x.say(0, 1, 0);
            x.cake(0, 0, 0, cake);
        }
        x.days(1);
        int[] due = {9, 9, 9, 8, 7, 6};
        for (int k = 0; k < 6; k++) Edges.is("6 more, layer " + k, x.layer(0, 0, k, 1), due[k]);
        x.days(60);
        for (int k = 0; k < 6; k++) Edges.is("not above 9, layer " + k, x.layer(0, 0, k, 1), 9);
        Edges.sentence(0, "DAY is 1 more.");
        SootTalk y = new SootTalk();
        y.days(1);
        Edges.is("from 0", y.now(0), 1);
        SootTalk z = Edges.onDay(9998);
        z.days(1);
        Edges.is("to the last", z.now(0), 9999);
    }

    private static void nothingChanges() {
        Edges.sentence(0, "BROUGHT: WORDS that a BRUSH brings, as a set; nothing changes.");
        Edges.is("a word that comes twice is there once", Edges.full().brought(0, 7, 1), 65535);
        Edges.is("no words", Due.withFlues(0).brought(0, 7, 9), 0);
        Edges.changesNothing("brought", Edges::furnished, x -> x.brought(0, 7, 9));
        Edges.sentence(0, "ON: n DAYS go on with all as it is; nothing changes.");
        Edges.changesNothing("on", Edges::furnished, x -> x.on(0, 7, 9, 60));
        SootTalk last = Edges.onDay(9999);
        last.say(0, 15, 0);
        Edges.is("on the last day, too", last.on(0, 7, 9, 8), 1);
        Edges.is("a day more", last.on(0, 7, 9, 9), 0);
        Edges.is("it is the last day still", last.now(0), 9999);
    }
}
