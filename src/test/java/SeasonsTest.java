/** Promises 50 to 52: what the HEDGE becomes by its SEASONS. */
public final class SeasonsTest {
    public static void main(String[] args) {
        deeds();
        missed();
        draws();
        whens();
        loops();
        threeHundred();
        stops();
        seeds();
        livedStays();
        livesAreApart();
        means();
        Check.end("SeasonsTest");
    }

    private static ShearHedge of(String hedge, String seasons) {
        ShearHedge x = Check.of(hedge);
        Check.seasons(x, seasons);
        Check.due("seasons: " + seasons, x.status(), 0);
        return x;
    }

    private static void lived(ShearHedge x, int missed, int cuts, int fallen, int grown, int left) {
        Check.taken(x, "lived(0)", x.lived(0), missed);
        Check.taken(x, "lived(1)", x.lived(1), cuts);
        Check.taken(x, "lived(2)", x.lived(2), fallen);
        Check.taken(x, "lived(3)", x.lived(3), grown);
        Check.taken(x, "lived(4)", x.lived(4), left);
    }

    private static void deeds() {
        ShearHedge x = of("sprig blue;sprig red on 0;sprig green;heap 9;bet 4 1;bet 2 7;",
            "cut right 1;take left 0;take right 1;less 0 3;grow red;grow blue on 3;grow green on 2;cut left 2;");
        Check.taken(x, "live(0)", x.live(0), 8);
        lived(x, 0, 2, 3, 3, 0);
        Check.taken(x, "many(0)", x.many(0), 6);
        Check.taken(x, "many(3)", x.many(3), 1 + 8 + 16);
        Check.taken(x, "many(4)", x.many(4), 3);
        Check.taken(x, "many(5)", x.many(5), 2);
        Check.taken(x, "many(6)", x.many(6), -3);
        Check.taken(x, "heap(0)", x.heap(0), 3);
        Check.taken(x, "sprig(4, 1)", x.sprig(4, 1), 3);
        Check.taken(x, "sprig(4, 0)", x.sprig(4, 0), 0);
        Check.tells(x, "worth()", x.worth(), -5, 2);
        Check.taken(x, "live(0) goes on from there", x.live(0), 8);
        lived(x, 6, 0, 0, 2, 0);
        Check.taken(x, "many(0)", x.many(0), 8);
        Check.taken(x, "many(5)", x.many(5), 2);
    }

    private static void missed() {
        ShearHedge x = of("sprig blue;sprig red on 0;sprig green;heap 3;bet 4 1;",
            "cut left 1;cut right 0;cut left 3;take left 1;less 1 0;less 0 3;less 0 15;grow blue on 3;grow green on 0;grow red on 2;");
        Check.taken(x, "live(0)", x.live(0), 10);
        lived(x, 10, 0, 0, 0, 0);
        Check.taken(x, "many(3)", x.many(3), 7);
        Check.taken(x, "heap(0)", x.heap(0), 3);
        ShearHedge y = of("sprig blue;sprig red on 0;bet 4 1;", "cut left 0;cut left 0;cut right 1;grow blue on 0;take left 0;take left 0;take right 0;");
        Check.taken(y, "live(0)", y.live(0), 7);
        lived(y, 5, 1, 2, 0, 0);
        Check.taken(y, "many(6)", y.many(6), 4);
        ShearHedge z = of("", "loop 21;grow green;end;any;");
        Check.taken(z, "live(9999)", z.live(9999), 23);
        Check.taken(z, "lived(3)", z.lived(3), 20);
        Check.taken(z, "many(0)", z.many(0), 20);
        ShearHedge none = of("", "any;any;");
        Check.taken(none, "live(5)", none.live(5), 2);
        lived(none, 2, 0, 0, 0, 0);
    }

    private static int next(int s) {
        return (int) ((s * 2971L + 10987) % 65536);
    }

    /** What any does, by the draws that the document tells. */
    private static void draws() {
        String text = "sprig blue;sprig red on 0;sprig green;sprig green on 2;sprig red;sprig blue on 4;sprig blue on 4;";
        for (int seed = 0; seed <= 9999; seed += 101) {
            ShearHedge x = of(text, "any;any;any;grow blue;any;any;");
            ShearHedge y = Check.of(text);
            int s = seed;
            int cuts = 0;
            int fallen = 0;
            for (int i = 0; i < 5; i++) {
                if (i == 3) y.grow(0, -1);
                s = next(s);
                int side = s / 8 % 2;
                s = next(s);
                int fell = y.cut(side, s / 8 % y.many(0));
                if (fell > 0) {
                    cuts++;
                    fallen += fell;
                }
            }
            Check.taken(x, "live", x.live(seed), 6);
            Check.due("many(3) of seed " + seed, x.many(3), y.many(3));
            lived(x, 5 - cuts, cuts, fallen, 1, 0);
        }
        ShearHedge none = of("", "any;grow green;any;");
        int s = next(next(77));
        Check.taken(none, "any without SPRIGS draws nothing", none.live(77), 3);
        lived(none, 1, 1, 1, 1, 0);
        ShearHedge one = of("", "any;grow blue;any;any;any;any;");
        ShearHedge two = Check.of("sprig blue;");
        s = 4321;
        for (int i = 0; i < 4; i++) {
            s = next(s);
            two.cut(s / 8 % 2, 0);
            s = next(s);
        }
        Check.taken(one, "live(4321)", one.live(4321), 6);
        Check.due("many(3)", one.many(3), two.many(3));
    }

    private static void when(String hedge, String test, boolean holds) {
        ShearHedge x = of(hedge, "when " + test + ";loop 1;end;end;");
        Check.taken(x, "when " + test + " of " + hedge, x.live(0), holds ? 2 : 1);
    }

    private static void whens() {
        when("sprig blue;", "stands 0", true);
        when("sprig blue;", "stands 1", false);
        when("", "stands 0", false);
        when("sprig blue;sprig red on 0;", "worth < 1", true);
        when("sprig blue;sprig red on 0;", "worth > 0", true);
        when("sprig blue;sprig red on 0;", "worth = 0", false);
        when("sprig blue;sprig red on 0;", "worth = 1", false);
        when("sprig blue;sprig red on 0;", "worth < 0", false);
        when("sprig blue;sprig red on 0;", "worth > 1", false);
        when("sprig blue;", "worth = 1", true);
        when("sprig blue;", "worth > 1", false);
        when("sprig blue;", "worth < 1", false);
        when("sprig red;", "worth < 0", true);
        when("sprig blue;".repeat(20), "worth = 20", true);
        when("sprig green;heap 2;", "nimber = 3", true);
        when("sprig green;heap 2;", "nimber < 3", false);
        when("sprig green;heap 2;", "nimber > 3", false);
        when("sprig green;heap 2;", "nimber > 2", true);
        when("sprig green;heap 2;", "nimber < 31", true);
        when("sprig blue;", "wins left", true);
        when("sprig blue;", "wins right", false);
        when("sprig green;", "wins right", true);
        when("", "wins left", false);
        when("sprig red;bet 2 0;", "wins left", true);
        when("sprig red;bet 1 0;", "wins right", true);
        ShearHedge x = of("sprig blue;", "cut left 0;when stands 0;grow red;grow red;end;grow blue;when stands 1;when worth=1;grow green;end;grow green;end;");
        Check.taken(x, "live(0)", x.live(0), 7);
        lived(x, 0, 1, 1, 3, 0);
        ShearHedge y = of("", "when stands 0;loop 9;any;when wins left;any;end;end;end;grow blue;");
        Check.taken(y, "what is within is passed over", y.live(0), 2);
    }

    private static void loops() {
        ShearHedge x = of("", "loop 5;grow blue;end;");
        Check.taken(x, "live(0)", x.live(0), 6);
        lived(x, 0, 0, 0, 5, 0);
        ShearHedge y = of("", "loop 2;loop 3;grow blue;end;grow red;end;");
        Check.taken(y, "live(0)", y.live(0), 1 + 2 * (1 + 3 + 1));
        lived(y, 0, 0, 0, 8, 0);
        Check.tells(y, "worth()", y.worth(), 4, 1);
        ShearHedge z = of("", "loop 3;when stands 1;grow green;end;grow blue;end;loop 99;end;");
        Check.taken(z, "live(0)", z.live(0), 1 + 2 + 2 + 3 + 1);
        lived(z, 0, 0, 0, 4, 0);
        ShearHedge one = of("", "loop 1;loop 1;loop 1;grow red;end;end;end;");
        Check.taken(one, "live(0)", one.live(0), 4);
    }

    private static void threeHundred() {
        ShearHedge x = of("", "loop 99;any;any;any;end;any;any;");
        Check.taken(x, "300 STEPS", x.live(0), 300);
        lived(x, 299, 0, 0, 0, 0);
        ShearHedge y = of("", "loop 99;any;any;any;end;any;any;any;");
        Check.taken(y, "300 STEPS and one left", y.live(0), 300);
        lived(y, 299, 0, 0, 0, 1);
        ShearHedge z = of("", "loop 99;loop 99;loop 99;end;end;end;");
        Check.taken(z, "empty loops", z.live(0), 300);
        lived(z, 0, 0, 0, 0, 1);
        ShearHedge last = of("", "loop 99;any;any;any;end;any;loop 99;end;");
        Check.taken(last, "an empty loop as the last", last.live(0), 300);
        lived(last, 298, 0, 0, 0, 0);
        ShearHedge full = of("", "loop 99;any;any;any;end;any;loop 2;any;end;");
        Check.taken(full, "a loop as the last", full.live(0), 300);
        lived(full, 298, 0, 0, 0, 1);
        ShearHedge no = of("", "loop 99;any;any;any;end;any;when stands 3;any;end;");
        Check.taken(no, "a when that does not hold as the last", no.live(0), 300);
        lived(no, 298, 0, 0, 0, 0);
        ShearHedge yes = of("", "loop 99;any;any;any;end;any;when worth=0;any;end;");
        Check.taken(yes, "a when that holds as the last", yes.live(0), 300);
        lived(yes, 298, 0, 0, 0, 1);
        ShearHedge stop = of("", "loop 99;any;any;any;end;any;any;stop;");
        Check.taken(stop, "a stop left to be done", stop.live(0), 300);
        lived(stop, 299, 0, 0, 0, 1);
        ShearHedge stopped = of("", "loop 99;any;any;any;end;any;stop;any;");
        Check.taken(stopped, "stop as the last", stopped.live(0), 300);
        lived(stopped, 298, 0, 0, 0, 0);
        ShearHedge less = of("", "loop 99;any;any;any;end;any;");
        Check.taken(less, "299 STEPS", less.live(0), 299);
        lived(less, 298, 0, 0, 0, 0);
        ShearHedge inner = of("", "loop 99;any;any;any;end;loop 1;any;end;");
        Check.taken(inner, "300 STEPS and an end", inner.live(0), 300);
        lived(inner, 298, 0, 0, 0, 0);
        ShearHedge round = of("", "loop 99;any;any;any;end;loop 2;any;end;");
        Check.taken(round, "300 STEPS and once more", round.live(0), 300);
        lived(round, 298, 0, 0, 0, 1);
        ShearHedge deep = of("sprig blue;", "loop 99;loop 99;loop 99;grow blue;end;end;end;");
        Check.taken(deep, "three deep", deep.live(0), 300);
        lived(deep, 295 - 19, 0, 0, 19, 1);
    }

    private static void stops() {
        ShearHedge x = of("", "grow blue;stop;grow blue;");
        Check.taken(x, "live(0)", x.live(0), 2);
        lived(x, 0, 0, 0, 1, 0);
        ShearHedge y = of("", "loop 5;grow blue;when worth=3;stop;end;end;grow red;");
        Check.taken(y, "live(0)", y.live(0), 1 + 6 + 1);
        lived(y, 0, 0, 0, 3, 0);
    }

    private static void seeds() {
        ShearHedge x = new ShearHedge();
        Check.refused(x, "live(-1)", x.live(-1), 5);
        Check.refused(x, "live(10000)", x.live(10000), 5);
        Check.refused(x, "live(0)", x.live(0), 8);
        Check.refused(x, "lived(5)", x.lived(5), 5);
        Check.refused(x, "lived(-1)", x.lived(-1), 5);
        Check.refused(x, "lived(4)", x.lived(4), 8);
        Check.seasons(x, "grow blue;");
        Check.refused(x, "live(-1)", x.live(-1), 5);
        Check.refused(x, "lived(0)", x.lived(0), 8);
        Check.taken(x, "live(9999)", x.live(9999), 1);
        Check.taken(x, "lived(3)", x.lived(3), 1);
        Check.refused(x, "lived(5)", x.lived(5), 5);
        Check.seasons(x, "");
        Check.taken(x, "live(0) by SEASONS of no STEP", x.live(0), 0);
        lived(x, 0, 0, 0, 0, 0);
    }

    private static void livedStays() {
        ShearHedge x = of("sprig blue;sprig blue;", "cut left 0;any;cut right 9;grow red;");
        x.mark();
        x.live(3);
        int missed = x.lived(0);
        Check.hedge(x, "sprig green;");
        Check.refused(x, "live(0): no SEASONS", x.live(0), 8);
        Check.taken(x, "lived(0) behind another HEDGE", x.lived(0), missed);
        Check.taken(x, "lived(3) behind another HEDGE", x.lived(3), 1);
        x.back();
        Check.taken(x, "lived(3) behind back()", x.lived(3), 1);
        Check.taken(x, "mean(0, 1)", x.mean(0, 1));
        Check.taken(x, "lived(0) behind mean()", x.lived(0), missed);
        Check.refused(x, "live(10000)", x.live(10000), 5);
        Check.taken(x, "lived(3) behind a live() that is refused", x.lived(3), 1);
    }

    private static void livesAreApart() {
        ShearHedge x = of("sprig blue;sprig blue;", "loop 99;cut left 0;cut left 1;grow blue;stop;end;");
        x.live(0);
        lived(x, 0, 2, 2, 1, 0);
        Check.seasons(x, "loop 99;cut left 0;loop 2;any;any;any;end;end;");
        Check.taken(x, "live(0)", x.live(0), 300);
        Check.taken(x, "lived(4)", x.lived(4), 1);
        Check.seasons(x, "when worth<9;grow red;end;");
        Check.taken(x, "live(0): a when is no loop", x.live(0), 2);
        lived(x, 0, 0, 0, 1, 0);
        Check.seasons(x, "any;");
        Check.hedge(x, "");
        Check.seasons(x, "");
        x.live(0);
        lived(x, 0, 0, 0, 0, 0);
    }

    private static void means() {
        String hedge = "sprig blue;sprig red on 0;sprig blue on 1;sprig red;sprig blue on 3;sprig green;bet 3 1;";
        ShearHedge x = of(hedge, "any;any;when stands 0;take left 0;end;grow red on 3;any;");
        String before = Check.state(x);
        for (int from = 0; from < 40; from += 9) {
            for (int many = 1; many <= 20; many += 6) {
                long sum = 0;
                for (int seed = from; seed < from + many; seed++) {
                    ShearHedge y = of(hedge, "any;any;when stands 0;take left 0;end;grow red on 3;any;");
                    y.live(seed);
                    y.worth();
                    sum += y.top() * (1 << 20) / y.bottom();
                }
                Check.taken(x, "mean", x.mean(from, many));
                Check.due("mean of " + from + " " + many, x.top() * many * (1 << 20), sum * x.bottom());
                Check.due("without a common divisor", java.math.BigInteger.valueOf(x.top()).gcd(java.math.BigInteger.valueOf(x.bottom())).longValue(), 1);
            }
        }
        x.simplest(-1, 0, 1, 0);
        Check.due("all stays as it is", Check.state(x).equals(before), true);
        Check.taken(x, "mean(9999, 1)", x.mean(9999, 1));
        Check.taken(x, "mean(9980, 20)", x.mean(9980, 20));
        Check.refused(x, "mean(9981, 20)", x.mean(9981, 20), 5);
        Check.refused(x, "mean(10000, 1)", x.mean(10000, 1), 5);
        Check.refused(x, "mean(0, 0)", x.mean(0, 0), 5);
        Check.refused(x, "mean(0, 21)", x.mean(0, 21), 5);
        Check.refused(x, "mean(-1, 2)", x.mean(-1, 2), 5);
        Check.refused(x, "mean(max, 20)", x.mean(Integer.MAX_VALUE, 20), 5);
        Check.refused(x, "mean(0, min)", x.mean(0, Integer.MIN_VALUE), 5);
        ShearHedge none = new ShearHedge();
        Check.refused(none, "mean(0, 1)", none.mean(0, 1), 8);
        Check.refused(none, "mean(0, 0)", none.mean(0, 0), 5);
    }
}
