import java.nio.charset.StandardCharsets;

/** What the tests share: texts are fed, answers are looked at and counted. */
final class Check {
    private static int asked = 0;
    private static int wrong = 0;

    private Check() {
    }

    static void due(String call, long got, long want) {
        asked++;
        if (got == want) return;
        wrong++;
        if (wrong <= 50) System.out.println(call + " answered " + got + ", due is " + want);
    }

    static void due(String call, boolean got, boolean want) {
        due(call, got ? 1 : 0, want ? 1 : 0);
    }

    /** A call that is refused: NONE, and this STATUS. */
    static void refused(ShearHedge x, String call, long got, int status) {
        due(call, got, ShearHedge.NONE);
        due(call + ", then status()", x.status(), status);
    }

    static void refused(ShearHedge x, String call, boolean got, int status) {
        due(call, got, false);
        due(call + ", then status()", x.status(), status);
    }

    /** A call that is taken: this answer, and STATUS 0. */
    static void taken(ShearHedge x, String call, long got, long want) {
        due(call, got, want);
        due(call + ", then status()", x.status(), 0);
    }

    static void taken(ShearHedge x, String call, boolean got) {
        taken(x, call, got ? 1 : 0, 1);
    }

    /** A call that tells a FRACTION. */
    static void tells(ShearHedge x, String call, boolean got, long top, long bottom) {
        taken(x, call, got);
        due(call + ", then top()", x.top(), top);
        due(call + ", then bottom()", x.bottom(), bottom);
    }

    static void feed(ShearHedge x, byte[] bytes) {
        for (int at = 0; at < bytes.length; at += 20) {
            int[] five = new int[5];
            for (int i = 0; i < 20; i++) {
                int b = at + i < bytes.length ? bytes[at + i] & 255 : ' ';
                five[i / 4] |= b << 8 * (3 - i % 4);
            }
            x.feed(five[0], five[1], five[2], five[3], five[4]);
        }
    }

    static int hedge(ShearHedge x, String text) {
        byte[] bytes = text.getBytes(StandardCharsets.ISO_8859_1);
        feed(x, bytes);
        return x.hedge(bytes.length);
    }

    static int seasons(ShearHedge x, String text) {
        byte[] bytes = text.getBytes(StandardCharsets.ISO_8859_1);
        feed(x, bytes);
        return x.seasons(bytes.length);
    }

    static ShearHedge of(String text) {
        ShearHedge x = new ShearHedge();
        hedge(x, text);
        due("hedge: " + text, x.status(), 0);
        return x;
    }

    /** A text that is refused with a FAULT at a place. */
    static void faultyHedge(String text, int fault, int place) {
        ShearHedge x = new ShearHedge();
        refused(x, "hedge: " + text, hedge(x, text), 10);
        due("fault(0) of " + text, x.fault(0), fault);
        due("fault(1) of " + text, x.fault(1), place);
    }

    static void faultySeasons(String text, int fault, int place) {
        ShearHedge x = new ShearHedge();
        refused(x, "seasons: " + text, seasons(x, text), 10);
        due("fault(0) of " + text, x.fault(0), fault);
        due("fault(1) of " + text, x.fault(1), place);
    }

    /** All that can be asked of the HEDGE, in one text. */
    static String state(ShearHedge x) {
        StringBuilder all = new StringBuilder();
        for (int what = 0; what <= 6; what++) all.append(x.many(what)).append(' ');
        for (int i = 0; i < 20; i++) {
            all.append("s");
            for (int what = 0; what <= 4; what++) all.append(x.sprig(i, what)).append(' ');
        }
        for (int i = 0; i < 4; i++) all.append("h").append(x.heap(i));
        for (int i = 0; i < 5; i++) all.append("b").append(x.bet(i, 0)).append(' ').append(x.bet(i, 1));
        for (int t = 0; t < 4; t++) {
            all.append(" t");
            for (int i = 0; i < 60; i++) {
                long v = x.read(t, i);
                if (x.status() != 0) {
                    all.append('/').append(x.status());
                    break;
                }
                all.append(v).append(' ');
            }
        }
        for (int what = 0; what <= 4; what++) all.append('l').append(x.lived(what));
        all.append('f').append(x.fault(0)).append(' ').append(x.fault(1));
        all.append('q').append(x.top()).append('/').append(x.bottom());
        return all.toString();
    }

    /** How many answers were not as due so far. */
    static int wrong() {
        return wrong;
    }

    static void end(String name) {
        System.out.println(name + ": " + asked + " answers looked at, " + wrong + " not as due");
        if (wrong != 0) System.exit(1);
    }
}
