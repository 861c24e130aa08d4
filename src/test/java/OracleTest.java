import java.lang.reflect.InvocationTargetException;
import java.lang.reflect.Method;
import java.lang.reflect.Modifier;
import java.util.Arrays;
import java.util.HashMap;
import java.util.Map;
import java.util.Random;

/**
 * Runs of calls of all kinds on one object, in any order, each answer with its STATUS and the FRACTION compared with the
 * Oracle's: so a call is looked at in states that no test thinks of, and behind all kinds of other calls.
 */
public final class OracleTest {
    private static final int MOST_CALLS = 512;
    private static final int[] ODD = {Integer.MIN_VALUE, Integer.MAX_VALUE, -2, -1, 3, 4, 5, 6, 16, 20, 21, 61, 901, 1 << 20, 20971521};
    private static final Map<String, Method> FACE = new HashMap<>();
    private static final Map<String, Method> DUE = new HashMap<>();

    /** What a call's arguments stand for, so that most of them can be: one sign for each. */
    private static final String[] CALLS = {"worth", "nimber", "outcome", "hottest", "balance", "balanceSet", "mark", "back", "fault c",
        "many q", "sprig sw", "sprig sw", "heap h", "bet bl", "copyColours t", "cut ls", "cut ls", "take lb", "take lb", "less hn", "less hn",
        "spend l", "spend l", "grow cg", "grow cg", "paint s", "pile n", "offer nn", "worthOf s", "nimOf s", "compare ss", "winner l", "moves l",
        "wins l", "bestOf lc", "bestOf lc", "stop l", "heat bl", "simplest pkpk", "birthday pk", "stalkAt pkn", "stalkWorth tm", "colourings *PK",
        "firstRed *PK", "oddsBlue *PKs", "ask *PK", "ask *PK", "luck l", "live d", "live d", "lived w", "mean dm", "tray tcn", "tray tyn", "write tmv",
        "write tml", "write tml", "read tm", "pour tmtmm", "pour tmtmm", "feed vvvvv", "hedge n", "seasons n"};

    static {
        for (Method method : ShearHedge.class.getDeclaredMethods()) {
            if (Modifier.isPublic(method.getModifiers())) FACE.put(method.getName(), method);
        }
        for (Method method : Oracle.class.getDeclaredMethods()) {
            if (!FACE.containsKey(method.getName())) continue;
            if (Arrays.equals(FACE.get(method.getName()).getParameterTypes(), method.getParameterTypes())) DUE.put(method.getName(), method);
        }
    }

    private final Random random;
    private final ShearHedge x = new ShearHedge();
    private final Oracle due = new Oracle();
    private final StringBuilder run = new StringBuilder();
    private int calls = 0;

    private OracleTest(int seed) {
        random = new Random(seed);
    }

    public static void main(String[] args) {
        Check.due("calls of the face", FACE.size(), 53);
        Check.due("calls of the Oracle", DUE.size(), 53);
        int runs = args.length > 0 ? Integer.parseInt(args[0]) : 400;
        for (int seed = 0; seed < runs; seed++) new OracleTest(seed).run();
        Check.end("OracleTest");
    }

    private void run() {
        int before = Check.wrong();
        int most = new int[] {4, 7, 12, 20}[random.nextInt(4)];
        for (int tray = random.nextInt(4); tray >= 0; tray--) compare("tray", tray, random.nextInt(3) == 0 ? 0 : 1, random.nextInt(30));
        text("hedge", RandomTexts.rightHedge(random, random.nextInt(most + 1), random.nextInt(4), random.nextInt(5)));
        while (calls < MOST_CALLS - 60 && Check.wrong() == before) {
            int kind = random.nextInt(60);
            if (kind == 0) text("hedge", RandomTexts.hedge(random, random.nextInt(8)));
            else if (kind <= 2) text("seasons", RandomTexts.seasons(random));
            else if (kind == 3) text(random.nextBoolean() ? "hedge" : "seasons", RandomTexts.spoilt(random, RandomTexts.seasons(random)));
            else any();
        }
        if (Check.wrong() > before) System.out.println("the run until then:" + run);
    }

    private void text(String call, String text) {
        byte[] bytes = Twins.bytes(text);
        if (bytes.length > 500) return;
        for (int at = 0; at < bytes.length; at += 20) {
            long[] five = new long[5];
            for (int i = 0; i < 20; i++) {
                int b = at + i < bytes.length ? bytes[at + i] : ' ';
                five[i / 4] = (int) five[i / 4] << 8 | b;
            }
            compare("feed", five);
        }
        compare(call, bytes.length);
        compare("fault", 0);
        compare("fault", 1);
    }

    private void any() {
        String[] call = CALLS[random.nextInt(CALLS.length)].split(" ");
        // the Oracle is slow at these
        if (call[0].startsWith("balance") && due.garden.sprigs() > 10 && random.nextInt(8) > 0) return;
        String kinds = call.length > 1 ? call[1] : "";
        long[] arguments = new long[kinds.length()];
        for (int i = 0; i < arguments.length; i++) arguments[i] = argument(kinds.charAt(i));
        if (kinds.contains("P")) aim(arguments);
        compare(call[0], arguments);
    }

    private int argument(char kind) {
        if (random.nextInt(25) == 0) return ODD[random.nextInt(ODD.length)];
        switch (kind) {
            case 'l': return random.nextInt(2);
            case 'c': case 't': return random.nextInt(3);
            case 'h': return someOf(due.garden.heaps.size());
            case 'b': return someOf(due.garden.bets.size());
            case 'w': return random.nextInt(5);
            case 'q': return random.nextInt(7);
            case 'n': return random.nextInt(16);
            case 'm': return random.nextInt(7);
            case 'y': return 1;
            case 's': return someOf(due.garden.sprigs());
            case 'g': return random.nextInt(due.garden.sprigs() + 1) - 1;
            case 'd': return random.nextInt(10000);
            case 'k': return random.nextInt(random.nextBoolean() ? 4 : 21);
            case 'p': return random.nextInt(41) - 20;
            case 'v': return random.nextInt();
            case '*': return setOf();
            default: return 0;
        }
    }

    /** Most often a number below. */
    private int someOf(int many) {
        return random.nextInt(Math.max(1, many) + (random.nextInt(8) == 0 ? 1 : 0));
    }

    /** A set of SPRIGS that are BLUE or RED and STAND, most often. */
    private int setOf() {
        int set = 0;
        int keep = 1 + random.nextInt(8);
        for (int i = 0; i < due.garden.sprigs(); i++) {
            boolean canBe = due.garden.stands(i) && !due.garden.isGreen(i);
            if (random.nextInt(canBe ? 8 : 200) < keep) set |= canBe || random.nextInt(4) == 0 ? 1 << i : 0;
        }
        return set;
    }

    /** In place of P by 2 to the K what the HEDGE is worth, or a little more or less. */
    private void aim(long[] arguments) {
        Fraction worth = due.garden.worth();
        arguments[1] = worth.top().intValueExact() + (random.nextInt(3) == 0 ? random.nextInt(5) - 2 : 0);
        arguments[2] = worth.bottom().bitLength() - 1;
    }

    private void compare(String call, long... arguments) {
        run.append(' ').append(call).append(Arrays.toString(arguments));
        long got = call(FACE.get(call), x, arguments);
        long want = call(DUE.get(call), due, arguments);
        Check.due(call, got, want);
        Check.due(call + ", then status()", x.status(), due.status());
        Check.due(call + ", then top()", x.top(), due.top());
        Check.due(call + ", then bottom()", x.bottom(), due.bottom());
        calls += 4;
    }

    private static long call(Method method, Object on, long... arguments) {
        Class<?>[] types = method.getParameterTypes();
        Object[] all = new Object[types.length];
        for (int i = 0; i < types.length; i++) {
            if (types[i] == int.class) all[i] = Math.toIntExact(arguments[i]);
            else all[i] = arguments[i];
        }
        try {
            Object answer = method.invoke(on, all);
            if (answer instanceof Boolean) return (Boolean) answer ? 1 : 0;
            return ((Number) answer).longValue();
        } catch (InvocationTargetException thrown) {
            throw new IllegalStateException(method.getName() + Arrays.toString(arguments) + " threw", thrown.getCause());
        } catch (IllegalAccessException hidden) {
            throw new IllegalStateException(hidden);
        }
    }
}
