import java.lang.management.ManagementFactory;
import java.util.Random;

/**
 * 512 calls of all kinds, with all kinds of arguments: none throws, a STATUS other than 0 changes nothing,
 * and no call makes more than a few objects.
 */
public final class CallsTest {
    private static final int[] ODD = {Integer.MIN_VALUE, Integer.MAX_VALUE, -2, -1, 0, 1, 2, 3, 4, 5, 15, 16, 19, 20, 21, 60, 61, 900,
        1023, 9999, 10000, 20971520, -20971520, 1 << 20, (1 << 20) - 1, 1 << 31 - 1};
    private static final String[] HEDGES = {"sprig blue;sprig red on 0;sprig blue on 1;sprig green;sprig green on 3;heap 3;bet 3 2;",
        "sprig red;".repeat(20) + "heap 15;".repeat(4) + "bet 20 20;".repeat(5), "", "sprig", "heap 99;", "bet 1 0;bet 0 1;sprig green;",
        "sprig blue;sprig blue on 0;sprig red;sprig red on 2;sprig blue;sprig red;sprig green;heap 1;"};
    private static final String[] SEASONS = {"any;", "loop 99;loop 99;loop 99;end;end;end;", "loop 99;any;when wins left;take left 0;end;end;",
        "loop 20;grow blue;any;end;", "", "end", "when worth > 1;less 0 1;end;grow green;"};

    public static void main(String[] args) {
        Random random = new Random(512);
        for (int run = 0; run < 200; run++) run(random);
        room();
        Check.end("CallsTest");
    }

    private static int number(Random random) {
        int kind = random.nextInt(10);
        if (kind == 0) return ODD[random.nextInt(ODD.length)];
        if (kind == 1) return random.nextInt();
        if (kind <= 5) return random.nextInt(4);
        return random.nextInt(22) - 1;
    }

    private static void run(Random random) {
        ShearHedge x = new ShearHedge();
        int calls = 0;
        while (calls < 512) {
            String before = Check.state(x);
            long told = call(x, random);
            int status = x.status();
            calls++;
            if (status == 0 || told == -2) continue;
            Check.due("NONE, or false", told, told == 0 ? 0 : -1);
            Check.due("a STATUS that there is", status >= 1 && status <= 11, true);
            String after = Check.state(x);
            if (status == 10) {
                before = before.substring(0, before.indexOf('f'));
                after = after.substring(0, after.indexOf('f'));
            }
            Check.due("nothing is changed but STATUS", after.equals(before), true);
        }
    }

    /** What the call answered, 1 or 0 of a boolean; -2 of one that has no STATUS. */
    private static long call(ShearHedge x, Random random) {
        int a = number(random);
        int b = number(random);
        int c = number(random);
        int d = number(random);
        int e = number(random);
        int which = random.nextInt(56);
        if (which < 18) return early(x, which, a, b, c, d, e, random);
        if (which < 38) return middle(x, which, a, b);
        return late(x, which, a, b, c, d, random);
    }

    private static long one(boolean yes) {
        return yes ? 1 : 0;
    }

    private static long early(ShearHedge x, int which, int a, int b, int c, int d, int e, Random random) {
        switch (which) {
            case 0: return one(x.tray(a, b, c));
            case 1: return one(x.write(a, b, random.nextLong()));
            case 2: return odd(x, x.read(a, b));
            case 3: return one(x.pour(a, b, c, d, e));
            case 4: x.feed(a, b, c, d, e); return -2;
            case 5: return x.hedge(a);
            case 6: return x.seasons(a);
            case 7: return Check.hedge(x, HEDGES[random.nextInt(HEDGES.length)]);
            case 8: return Check.seasons(x, SEASONS[random.nextInt(SEASONS.length)]);
            case 9: x.fault(a); return -2;
            case 10: return odd(x, x.many(a));
            case 11: return x.sprig(a, b);
            case 12: return x.heap(a);
            case 13: return x.bet(a, b);
            case 14: return x.copyColours(a);
            case 15: x.top(); return -2;
            case 16: x.bottom(); return -2;
            default: return one(x.tray(a & 3, b & 3, c & 31));
        }
    }

    /** A number that may be below 0 with STATUS 0. */
    private static long odd(ShearHedge x, long answer) {
        return x.status() == 0 ? 1 : answer;
    }

    private static long middle(ShearHedge x, int which, int a, int b) {
        switch (which) {
            case 18: return x.cut(a, b);
            case 19: return odd(x, x.take(a, b));
            case 20: return x.less(a, b);
            case 21: return odd(x, x.spend(a));
            case 22: return x.grow(a, b);
            case 23: return x.paint(a);
            case 24: return x.pile(a);
            case 25: return x.offer(a, b);
            case 26: return one(x.worth());
            case 27: return one(x.worthOf(a));
            case 28: return x.nimber();
            case 29: return x.nimOf(a);
            case 30: return x.compare(a, b);
            case 31: return x.outcome();
            case 32: return x.winner(a);
            case 33: return x.moves(a);
            case 34: return x.wins(a);
            case 35: return x.bestOf(a, b);
            case 36: return one(x.stop(a));
            default: return x.hottest();
        }
    }

    private static long late(ShearHedge x, int which, int a, int b, int c, int d, Random random) {
        switch (which) {
            case 38: return one(x.heat(a, b));
            case 39: return one(x.simplest(a, b, c, d));
            case 40: return x.birthday(a, b);
            case 41: return x.stalkAt(a, b, c);
            case 42: return one(x.stalkWorth(a, b));
            case 43: return x.colourings(a, b, c);
            case 44: return x.firstRed(a, b, c);
            case 45: return one(x.oddsBlue(a, b, c, d));
            case 46: return x.ask(a, b, c);
            case 47: return x.balance();
            case 48: return x.balanceSet();
            case 49: return one(x.luck(a));
            case 50: return x.live(a);
            case 51: return x.lived(a);
            case 52: return one(x.mean(a, b));
            case 53: return x.mark();
            case 54: return x.back();
            default: return x.live(random.nextInt(10000));
        }
    }

    /** The dearest calls of all, 512 of each: what they make must fit many times in one room. */
    private static void room() {
        com.sun.management.ThreadMXBean bean = (com.sun.management.ThreadMXBean) ManagementFactory.getThreadMXBean();
        ShearHedge x = Check.of("sprig blue;".repeat(10) + "sprig red;".repeat(9) + "sprig green;heap 15;heap 14;heap 13;heap 12;" + "bet 9 9;".repeat(5));
        Check.seasons(x, "loop 99;when wins left;any;end;end;");
        dear(x, 2);
        long before = bean.getCurrentThreadAllocatedBytes();
        dear(x, 40);
        long made = bean.getCurrentThreadAllocatedBytes() - before;
        Check.due("no call makes an object: " + made + " bytes", made < 100000, true);
    }

    private static void dear(ShearHedge x, int times) {
        for (int i = 0; i < times; i++) {
            x.mark();
            x.hedge(0);
            x.back();
            x.moves(0);
            x.wins(1);
            x.bestOf(1, 2);
            x.colourings(1023, 0, 0);
            x.ask(1023, 0, 0);
            x.oddsBlue(1023, 0, 0, 1);
            x.balance();
            x.balanceSet();
            x.luck(0);
            x.mean(0, 20);
            x.mark();
            x.live(i);
            x.back();
            x.tray(0, 3, 60);
            x.copyColours(0);
        }
        Check.due("still the HEDGE of first", x.many(0), 20);
    }
}
