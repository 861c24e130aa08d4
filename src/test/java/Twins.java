import java.lang.reflect.InvocationTargetException;
import java.lang.reflect.Method;
import java.nio.charset.StandardCharsets;
import java.util.HashMap;
import java.util.Map;

/**
 * Objects that are all made alike, as many as a test wants: on one a call is tried that is refused, on its twin not,
 * and then all that can be asked of both must be the same.
 * So no object comes near its 512th call, and what can be seen only once (the tape, SEASONS, MARKS) is looked at, too.
 */
final class Twins {
    /** What is done with a new object. */
    interface Setup {
        void on(ShearHedge x);
    }

    /** What is asked of an object, in one text. */
    private interface Probe {
        String of(ShearHedge x);
    }

    static final int MIN = Integer.MIN_VALUE;
    static final int MAX = Integer.MAX_VALUE;

    private static final Map<String, Method> FACE = new HashMap<>();
    private static final Probe[] PROBES = {Twins::hedgeOf, x -> trayOf(x, 0), x -> trayOf(x, 1), x -> trayOf(x, 2),
        x -> trayOf(x, 3), Twins::tapeAsHedge, Twins::tapeAsSeasons, Twins::seasonsOf, Twins::marksOf};

    private final Setup setup;

    static {
        for (Method method : ShearHedge.class.getDeclaredMethods()) FACE.put(method.getName(), method);
    }

    Twins(Setup setup) {
        this.setup = setup;
    }

    /** Twins with this HEDGE and with something of all else: TRAYS, SEASONS that were LIVED, MARKS, a FRACTION, a FAULT, a tape. */
    static Twins of(String hedge) {
        return untaped(hedge).and(Twins::feedHeaps);
    }

    /** The same with an empty tape. */
    static Twins untaped(String hedge) {
        return new Twins(x -> dress(x, hedge));
    }

    /**
     * Twins with SPRIGS of all COLOURS, BETS and HEAPS, some of them gone:
     * 0 BLUE, 1 RED on 0, 2 BLUE on 1, 3 GREEN, 4 GREEN on 3, 5 RED, 6 BLUE on 5 (FELL), 7 GREEN (FELL);
     * HEAPS 5, 0, 15; BETS 3 1 and 4 4 (TAKEN, the SCORE is -1), and 2 7 between them.
     */
    static Twins rich() {
        return untapedRich().and(Twins::feedHeaps);
    }

    static Twins untapedRich() {
        String sprigs = "sprig blue;sprig red on 0;sprig blue on 1;sprig green;sprig green on 3;sprig red;sprig blue on 5;sprig green;";
        return untaped(sprigs + "heap 6;heap 0;heap 15;bet 3 1;bet 2 7;bet 4 4;").and(x -> {
            x.cut(0, 6);
            x.cut(1, 7);
            x.take(0, 0);
            x.take(1, 2);
            x.less(0, 5);
        });
    }

    Twins and(Setup more) {
        return new Twins(x -> {
            setup.on(x);
            more.on(x);
        });
    }

    ShearHedge made() {
        ShearHedge x = new ShearHedge();
        make(x);
        return x;
    }

    /** What makes a new object one of these twins. */
    void make(ShearHedge x) {
        setup.on(x);
    }

    // ---- what a test looks at

    /** The call is taken: this answer (1 for true), STATUS 0. The object is told, so that more can be asked. */
    ShearHedge takes(long answer, String call, long... arguments) {
        ShearHedge x = made();
        Check.taken(x, text(call, arguments), call(x, call, arguments), answer);
        return x;
    }

    /** The call is taken, and tells this FRACTION. */
    ShearHedge tells(long top, long bottom, String call, long... arguments) {
        ShearHedge x = takes(1, call, arguments);
        Check.due(text(call, arguments) + ", then top()", x.top(), top);
        Check.due(text(call, arguments) + ", then bottom()", x.bottom(), bottom);
        return x;
    }

    /** The call is refused with this STATUS, and nothing is changed but STATUS. */
    void refuses(int status, String call, long... arguments) {
        ShearHedge x = made();
        Check.due(text(call, arguments), call(x, call, arguments), noneOf(call));
        Check.due(text(call, arguments) + ", then status()", x.status(), status);
        changesNothing(text(call, arguments), tried -> call(tried, call, arguments), "");
    }

    /** The same with each of these in place of one of the arguments. */
    void refusesEach(int status, long[] each, int at, String call, long... arguments) {
        for (long one : each) {
            long[] changed = arguments.clone();
            changed[at] = one;
            refuses(status, call, changed);
        }
    }

    /** The call is taken, answers the same once more, and changes nothing but STATUS and the FRACTION. */
    void asks(long answer, String call, long... arguments) {
        ShearHedge asked = takes(answer, call, arguments);
        long top = asked.top();
        long bottom = asked.bottom();
        Check.taken(asked, text(call, arguments) + " once more", call(asked, call, arguments), answer);
        Check.due(text(call, arguments) + " once more, then top()", asked.top(), top);
        Check.due(text(call, arguments) + " once more, then bottom()", asked.bottom(), bottom);
        // both are told the same FRACTION then
        changesNothing(text(call, arguments), x -> {
            call(x, call, arguments);
            x.simplest(-1, 0, 1, 0);
        }, "told anew");
    }

    /** The text is refused as a HEDGE, with this FAULT at this place: the tape is empty then, and all else stays. */
    static void faultyHedge(String text, int fault, int place) {
        untapedRich().faulty("hedge", text, fault, place);
    }

    static void faultySeasons(String text, int fault, int place) {
        untapedRich().faulty("seasons", text, fault, place);
    }

    void faulty(String call, String text, int fault, int place) {
        String name = call + " of " + text;
        byte[] bytes = bytes(text);
        Setup tried = x -> {
            Check.feed(x, bytes);
            call(x, call, bytes.length);
        };
        ShearHedge x = made();
        Check.feed(x, bytes);
        Check.refused(x, name, call(x, call, bytes.length), 10);
        Check.due(name + ": fault(0)", x.fault(0), fault);
        Check.due(name + ": fault(1)", x.fault(1), place);
        Check.due(name + ": the tape is empty", x.feed(0, 0, 0, 0, 0), 20);
        changesNothing(name, tried, "but the FAULT");
    }

    // ---- calls by their names

    static long call(ShearHedge x, String call, long... arguments) {
        Method method = FACE.get(call);
        Class<?>[] types = method.getParameterTypes();
        Object[] all = new Object[types.length];
        for (int i = 0; i < types.length; i++) {
            if (types[i] == int.class) all[i] = Math.toIntExact(arguments[i]);
            else all[i] = arguments[i];
        }
        try {
            Object answer = method.invoke(x, all);
            if (answer instanceof Boolean) return (Boolean) answer ? 1 : 0;
            return ((Number) answer).longValue();
        } catch (InvocationTargetException thrown) {
            throw new IllegalStateException(text(call, arguments) + " threw", thrown.getCause());
        } catch (IllegalAccessException hidden) {
            throw new IllegalStateException(hidden);
        }
    }

    private static long noneOf(String call) {
        return FACE.get(call).getReturnType() == boolean.class ? 0 : ShearHedge.NONE;
    }

    private static String text(String call, long... arguments) {
        StringBuilder text = new StringBuilder(call).append('(');
        for (int i = 0; i < arguments.length; i++) text.append(i == 0 ? "" : ", ").append(arguments[i]);
        return text.append(')').toString();
    }

    /** What lies right outside of a range, and as far from it as an int can be. */
    static long[] outside(int least, int most) {
        return new long[] {MIN, least - 1, most + 1, MAX};
    }

    static byte[] bytes(String text) {
        return text.getBytes(StandardCharsets.ISO_8859_1);
    }

    // ---- the objects

    private static void dress(ShearHedge x, String hedge) {
        x.pile(9);
        x.mark();
        Check.hedge(x, "sprig blue;sprig red on 0;sprig blue;bet 1 2;");
        Check.seasons(x, "cut left 0;cut left 9;grow green;any;");
        x.live(123);
        x.take(1, 0);
        x.mark();
        x.tray(0, 1, 4);
        x.tray(1, 1, 3);
        x.tray(2, 3, 2);
        for (int i = 0; i < 3; i++) {
            x.write(0, i, 10 + i);
            x.write(1, i, -20 - i);
        }
        x.write(2, 1, 1L << 40);
        Check.hedge(x, hedge);
        if (x.status() != 0) throw new IllegalStateException("no hedge: " + hedge);
        Check.seasons(x, "any;grow red;any;take left 1;");
        Check.seasons(x, "any;;");
        x.simplest(3, 0, 7, 1);
    }

    private static void feedHeaps(ShearHedge x) {
        Check.feed(x, bytes("heap 3;heap 4;heap 2"));
    }

    private void changesNothing(String name, Setup tried, String mask) {
        for (Probe probe : PROBES) {
            ShearHedge x = made();
            ShearHedge twin = made();
            tried.on(x);
            if (mask.equals("told anew")) twin.simplest(-1, 0, 1, 0);
            String got = probe.of(x);
            String want = probe.of(twin);
            if (mask.equals("but the FAULT")) {
                got = got.replaceFirst("^fault -?[0-9]+ -?[0-9]+", "");
                want = want.replaceFirst("^fault -?[0-9]+ -?[0-9]+", "");
            }
            boolean same = got.equals(want);
            Check.due(name + " changes nothing else", same, true);
            if (!same) System.out.println("  is:  " + got + "\n  was: " + want);
        }
    }

    // ---- what can be asked

    private static StringBuilder many(ShearHedge x) {
        StringBuilder all = new StringBuilder();
        for (int what = 0; what <= 6; what++) all.append(x.many(what)).append(' ');
        return all;
    }

    private static String hedgeOf(ShearHedge x) {
        StringBuilder all = new StringBuilder("fault ").append(x.fault(0)).append(' ').append(x.fault(1));
        all.append(" told ").append(x.top()).append('/').append(x.bottom()).append(" many ").append(many(x));
        for (int i = 0; i < 20; i++) {
            for (int what = 0; what <= 4 && i < x.many(0); what++) all.append(what == 0 ? " sprig " : " ").append(x.sprig(i, what));
        }
        for (int i = 0; i < 4; i++) all.append(" heap ").append(x.heap(i));
        for (int i = 0; i < 5; i++) all.append(" bet ").append(x.bet(i, 0)).append(' ').append(x.bet(i, 1));
        for (int what = 0; what <= 4; what++) all.append(" lived ").append(x.lived(what));
        return all.toString();
    }

    private static String trayOf(ShearHedge x, int tray) {
        StringBuilder all = new StringBuilder("tray ").append(tray);
        for (int place = 0; place <= 60; place++) {
            long number = x.read(tray, place);
            if (x.status() != 0) return all.append(" status ").append(x.status()).toString();
            all.append(' ').append(number);
        }
        return all.toString();
    }

    private static String tapeAsHedge(ShearHedge x) {
        int fed = x.feed(0x20202020, 0x20202020, 0x20202020, 0x20202020, 0x20203b20);
        StringBuilder all = new StringBuilder("fed ").append(fed).append(" hedge ").append(x.hedge(fed < 0 ? 900 : fed));
        all.append(" status ").append(x.status()).append(" fault ").append(x.fault(0)).append(' ').append(x.fault(1));
        return all.append(" many ").append(many(x)).append(x.heap(0)).append(' ').append(x.heap(1)).toString();
    }

    private static String tapeAsSeasons(ShearHedge x) {
        int fed = x.feed(0x20202020, 0x20202020, 0x20202020, 0x20202020, 0x20202020);
        StringBuilder all = new StringBuilder("fed ").append(fed).append(" seasons ").append(x.seasons(fed < 0 ? 300 : fed));
        return all.append(" status ").append(x.status()).append(" fault ").append(x.fault(0)).append(' ').append(x.fault(1)).toString();
    }

    private static String seasonsOf(ShearHedge x) {
        StringBuilder all = new StringBuilder("live ").append(x.live(7)).append(" status ").append(x.status());
        for (int what = 0; what <= 4; what++) all.append(" lived ").append(x.lived(what));
        x.worth();
        return all.append(" many ").append(many(x)).append(" worth ").append(x.top()).append('/').append(x.bottom()).toString();
    }

    private static String marksOf(ShearHedge x) {
        StringBuilder all = new StringBuilder();
        for (int i = 0; i < 4; i++) {
            all.append(" back ").append(x.back()).append(" many ").append(many(x)).append(x.heap(0));
            x.worth();
            all.append(" worth ").append(x.top()).append('/').append(x.bottom()).append(' ').append(x.nimber());
            if (i < 3) all.append(' ').append(seasonsOf(x));
        }
        return all.toString();
    }
}
