/** All that can be told of an object but its status: to tell it uses the object up. */
final class State {
    private static final long WIDTH_MARK = 1L << 40 | 0x8080;

    private State() {
    }

    static String of(SootTalk x) {
        StringBuilder told = new StringBuilder();
        tellHouse(x, told);
        for (int s = 0; s < 4; s++) tellSheet(x, s, told);
        told.append(" tape ").append(x.count(1)).append(' ').append(x.house());
        for (int what = 0; what < 5; what++) told.append(' ').append(x.now(what));
        told.append(' ').append(x.count(0)).append(" kept ").append(x.undo());
        tellHouse(x, told);
        return told.append(x.tear()).toString();
    }

    private static void tellHouse(SootTalk x, StringBuilder told) {
        told.append(" day ").append(x.now(0)).append(" damp ").append(x.now(1)).append(" flues ").append(x.count(0));
        for (int f = 0; f < x.count(0); f++) {
            told.append(" [").append(x.of(f, 0));
            int bare = x.of(f, 3);
            for (int b = 0; b < 8; b++) if ((bare >> b & 1) == 0) tellBend(x, f, b, told);
            told.append(']');
        }
    }

    private static void tellBend(SootTalk x, int f, int b, StringBuilder told) {
        told.append(" on ").append(b).append(':');
        int layers = x.bend(f, b, 0);
        for (int k = 0; k < layers; k++) {
            told.append(' ').append(x.layer(f, b, k, 0)).append('/').append(x.layer(f, b, k, 1));
        }
    }

    private static void tellSheet(SootTalk x, int s, StringBuilder told) {
        told.append(" sheet ").append(s).append(':');
        for (int i = 0; i <= 40; i++) {
            long was = x.write(s, i, WIDTH_MARK);
            told.append(' ').append(was);
            if (was == Due.BEYOND || was == Due.MISSING) return;
            if (i == 0) told.append(" of ").append(x.write(s, i, WIDTH_MARK));
        }
    }
}
