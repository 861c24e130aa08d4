import java.lang.reflect.InvocationTargetException;
import java.lang.reflect.Method;
import java.lang.reflect.Modifier;
import java.util.ArrayList;
import java.util.Comparator;
import java.util.LinkedHashMap;
import java.util.List;
import java.util.Map;
import java.util.Random;

/**
 * LANGUAGE.md, rule 7: no call throws or fails to end, for any arguments in any state. Every call of the face, with every
 * choice of odd arguments, in many states; texts of any bytes; objects that are used far beyond their 512th call.
 * A call that never ends is told by TimeLimit.
 */
public final class NeverThrowsTest {
    private static final int MIN = Integer.MIN_VALUE;
    private static final int MAX = Integer.MAX_VALUE;
    /** A number for each limit of the document, and those beside it. */
    private static final int[] MANY = {MIN, MIN + 1, -20971521, -20971520, -10000, -21, -20, -2, -1, 0, 1, 2, 3, 4, 5, 6, 7, 8, 9, 10, 14, 15,
        16, 18, 19, 20, 21, 29, 30, 31, 32, 33, 59, 60, 61, 63, 64, 99, 100, 299, 300, 301, 899, 900, 901, 1023, 1024, 9980, 9981, 9999, 10000,
        (1 << 20) - 1, 1 << 20, 20971519, 20971520, 20971521, 1 << 30, MAX - 1, MAX};
    private static final int[] SOME = {MIN, -20971520, -20, -1, 0, 1, 2, 3, 5, 19, 20, 60, 61, 300, 1023, (1 << 20) - 1, 20971520, MAX};
    private static final int[] FEW = {MIN, -1, 0, 1, 3, 4, 20, 60, 1023, 20971520, MAX};
    private static final int[] LEAST = {MIN, -1, 0, 1, 3, 30, 60, MAX};
    private static final int CALLS_OF_ONE = 200;

    private static final Map<String, Twins.Setup> STATES = new LinkedHashMap<>();
    private static int calls = 0;

    public static void main(String[] args) {
        fillStates();
        List<Method> face = face();
        Check.due("calls of the face", face.size(), 53);
        for (String state : STATES.keySet()) {
            for (Method call : face) everyChoice(state, call);
        }
        Random random = new Random(7);
        for (int run = 0; run < 40; run++) longRun(random, face);
        for (int run = 0; run < 4000; run++) anyBytes(random);
        everyByte();
        System.out.println("NeverThrowsTest: " + calls + " calls");
        Check.end("NeverThrowsTest");
    }

    private static List<Method> face() {
        List<Method> face = new ArrayList<>();
        for (Method method : ShearHedge.class.getDeclaredMethods()) {
            if (Modifier.isPublic(method.getModifiers())) face.add(method);
        }
        face.sort(Comparator.comparing(Method::getName));
        return face;
    }

    // ---- states

    private static String stalk(String colours, int many) {
        String[] names = colours.split(" ");
        StringBuilder text = new StringBuilder("sprig " + names[0] + ";");
        for (int i = 1; i < many; i++) text.append("sprig ").append(names[i % names.length]).append(" on ").append(i - 1).append(';');
        return text.toString();
    }

    private static void fillStates() {
        String heaps = "heap 15;heap 0;heap 7;heap 1;";
        String bets = "bet 20 20;bet 0 1;bet 1 0;bet 20 20;bet 3 4;";
        String[] loops = {"loop 99;loop 99;loop 99;any;end;end;end;", "loop 99;when wins left;any;end;when worth<3;grow green;end;end;",
            "loop 99;cut left 0;take right 4;less 3 0;grow red on 0;end;stop;", "any;".repeat(30), ""};
        state("new", x -> { });
        state("rich", x -> {
            x.hedge(0);
            Twins.rich().make(x);
        });
        state("full", x -> {
            hedge(x, "sprig blue;sprig red;sprig green;sprig red on 0;".repeat(5) + heaps + bets, loops[0]);
            for (int i = 0; i < 3; i++) x.mark();
            for (int i = 0; i < 4; i++) x.tray(i, i, 60);
            Check.feed(x, new byte[900]);
        });
        state("all gone", x -> {
            hedge(x, "sprig green;".repeat(20) + heaps + bets, loops[1]);
            for (int i = 0; i < 20; i++) x.cut(i & 1, i);
            for (int i = 0; i < 4; i++) x.less(i, 0);
            for (int i = 0; i < 5; i++) x.take(i & 1, i);
        });
        state("the finest worth", x -> hedge(x, "sprig blue;" + "sprig red on 0;".repeat(19) + bets, loops[2]));
        state("a stalk of two colours", x -> hedge(x, stalk("blue red", 20) + heaps, loops[1]));
        state("a blue stalk", x -> hedge(x, stalk("blue", 20) + bets, loops[3]));
        state("a red stalk", x -> hedge(x, stalk("red", 20) + bets, loops[4]));
        state("a green stalk", x -> hedge(x, stalk("green", 20) + heaps, loops[2]));
        state("left has taken all", x -> takenBy(x, 0, loops[0]));
        state("right has taken all", x -> takenBy(x, 1, loops[1]));
        state("a few", x -> {
            hedge(x, "sprig blue;sprig red on 0;sprig green;sprig green on 2;sprig red;", loops[3]);
            x.tray(0, 0, 0);
            x.tray(1, 0, 20);
            x.tray(3, 3, 59);
        });
        state("lived", x -> {
            hedge(x, "sprig blue;sprig red;" + heaps + bets, loops[0]);
            x.live(9999);
        });
        state("a fault", x -> {
            hedge(x, "sprig blue;", loops[1]);
            Check.hedge(x, "sprig blue;".repeat(21));
            Check.seasons(x, "loop 9;".repeat(4));
        });
        state("half a text on the tape", x -> {
            x.mark();
            Check.feed(x, Twins.bytes("loop 3;any;end;sprig blue;heap 3;"));
        });
    }

    private static void state(String name, Twins.Setup setup) {
        STATES.put(name, setup);
    }

    private static void hedge(ShearHedge x, String hedge, String seasons) {
        // empties the tape of an object that is not new
        x.hedge(0);
        Check.hedge(x, hedge);
        if (x.fault(0) != 0) throw new IllegalStateException("no hedge: " + hedge);
        Check.seasons(x, seasons);
        if (x.fault(0) != 0) throw new IllegalStateException("no seasons: " + seasons);
    }

    private static void takenBy(ShearHedge x, int side, String seasons) {
        hedge(x, "bet 20 20;".repeat(5) + "sprig blue;sprig red;".repeat(10), seasons);
        for (int i = 0; i < 5; i++) x.take(side, i);
    }

    // ---- calls

    private static void everyChoice(String state, Method call) {
        int many = call.getParameterCount();
        int[] choice = many <= 2 ? MANY : many == 3 ? SOME : many == 4 ? FEW : LEAST;
        int[] at = new int[many];
        ShearHedge x = made(state);
        boolean more = true;
        for (int count = 1; more; count++) {
            if (count % CALLS_OF_ONE == 0) x = made(state);
            Object[] arguments = new Object[many];
            for (int i = 0; i < many; i++) arguments[i] = given(call, i, choice[at[i]]);
            if (!ends(x, state, call, arguments)) return;
            more = next(at, choice.length);
        }
    }

    /** The next choice of places in a row of so many; whether there is one. */
    private static boolean next(int[] at, int length) {
        for (int i = 0; i < at.length; i++) {
            at[i]++;
            if (at[i] < length) return true;
            at[i] = 0;
        }
        return false;
    }

    private static Object given(Method call, int parameter, int number) {
        if (call.getParameterTypes()[parameter] == int.class) return number;
        return number == MIN ? Long.MIN_VALUE : number == MAX ? Long.MAX_VALUE : (long) number;
    }

    private static ShearHedge made(String state) {
        ShearHedge x = new ShearHedge();
        STATES.get(state).on(x);
        return x;
    }

    private static boolean ends(ShearHedge x, String state, Method call, Object... arguments) {
        calls++;
        try {
            call.invoke(x, arguments);
            return true;
        } catch (InvocationTargetException thrown) {
            Check.due(state + ": " + call.getName() + List.of(arguments) + " threw " + thrown.getCause(), false, true);
        } catch (IllegalAccessException hidden) {
            Check.due(call.getName() + " is hidden", false, true);
        }
        return false;
    }

    /** Calls of all kinds on one object, far beyond the 512 whose answers are due. */
    private static void longRun(Random random, List<Method> face) {
        ShearHedge x = new ShearHedge();
        for (int i = 0; i < 3000; i++) {
            if (random.nextInt(300) == 0) STATES.get(anyState(random)).on(x);
            Method call = face.get(random.nextInt(face.size()));
            Object[] arguments = new Object[call.getParameterCount()];
            for (int j = 0; j < arguments.length; j++) {
                int number = random.nextInt(3) > 0 ? random.nextInt(24) - 2 : MANY[random.nextInt(MANY.length)];
                arguments[j] = given(call, j, number);
            }
            if (!ends(x, "a long run", call, arguments)) return;
        }
    }

    private static String anyState(Random random) {
        return new ArrayList<>(STATES.keySet()).get(random.nextInt(STATES.size()));
    }

    // ---- texts

    private static final String[] TEXTS = {"sprig blue;sprig red on 0;sprig green;sprig green on 2;heap 15;bet 20 1;",
        "cut left 0;take right 4;less 3 0;grow red on 0;any;when worth<3;loop 99;any;end;end;stop;", "when nimber=31;end;when wins left;"};

    /** A right text with some of its bytes spoilt, or bytes by chance alone, cut off anywhere. */
    private static void anyBytes(Random random) {
        byte[] bytes = Twins.bytes(TEXTS[random.nextInt(TEXTS.length)].repeat(1 + random.nextInt(4)));
        boolean chance = random.nextInt(4) == 0;
        for (int i = 0; i < bytes.length; i++) {
            if (chance || random.nextInt(40) == 0) bytes[i] = (byte) random.nextInt();
        }
        read(bytes, random.nextInt(bytes.length + 1));
    }

    /** Every byte by itself, and in every place of a text that is right. */
    private static void everyByte() {
        for (int b = 0; b < 256; b++) {
            for (int many = 0; many <= 3; many++) read(new byte[] {(byte) b, (byte) b, (byte) b}, many);
            for (String text : TEXTS) {
                byte[] bytes = Twins.bytes(text);
                bytes[(b * 7) % bytes.length] = (byte) b;
                read(bytes, bytes.length);
            }
        }
        for (String text : TEXTS) {
            for (int many = 0; many <= text.length(); many++) read(Twins.bytes(text), many);
        }
    }

    private static void read(byte[] bytes, int many) {
        ShearHedge x = new ShearHedge();
        x.grow(0, -1);
        try {
            Check.feed(x, bytes);
            x.hedge(many);
            Check.feed(x, bytes);
            x.seasons(many);
            x.live(1);
            x.mean(1, 2);
            calls += 4;
        } catch (RuntimeException thrown) {
            Check.due("a text threw " + thrown + ": " + new String(bytes, 0, many, java.nio.charset.StandardCharsets.ISO_8859_1), false, true);
        }
    }
}
