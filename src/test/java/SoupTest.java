import java.util.List;
import java.util.Random;

/**
 * Random texts, right ones and spoilt ones, against another reading of the grammar;
 * and SEASONS lived by calls of cut, take, less, grow on a second object.
 */
public final class SoupTest {
    public static void main(String[] args) {
        Random random = new Random(54);
        for (int run = 0; run < 3000; run++) hedge(random);
        for (int run = 0; run < 3000; run++) seasons(random);
        for (int run = 0; run < 1500; run++) lives(random);
        Check.end("SoupTest");
    }

    // ---- texts against another reading of the grammar

    private static void hedge(Random random) {
        String text = RandomTexts.spoilt(random, RandomTexts.hedge(random, random.nextInt(30)));
        ShearHedge x = new ShearHedge();
        try {
            List<Grammar.Part> parts = new Grammar(text).hedge();
            Check.taken(x, "hedge " + text, Check.hedge(x, text), Grammar.count(parts, 0));
            for (int what = 0; what <= 2; what++) Check.taken(x, "many", x.many(what), Grammar.count(parts, what));
        } catch (Grammar.Fault fault) {
            Check.faultyHedge(text, fault.kind, fault.place);
        }
    }

    private static void seasons(Random random) {
        StringBuilder long30 = new StringBuilder(random.nextInt(3) == 0 ? "any;stop;".repeat(12 + random.nextInt(4)) : "");
        String text = RandomTexts.spoilt(random, long30.append(RandomTexts.seasons(random)).toString());
        if (text.length() > 300) return;
        ShearHedge x = new ShearHedge();
        try {
            Grammar grammar = new Grammar(text);
            grammar.seasons();
            Check.taken(x, "seasons " + text, Check.seasons(x, text), grammar.steps);
        } catch (Grammar.Fault fault) {
            Check.faultySeasons(text, fault.kind, fault.place);
        }
    }

    // ---- SEASONS lived by calls

    /** Thrown when the SEASONS are at their end ahead of their text's. */
    private static final class Over extends RuntimeException {
        private static final long serialVersionUID = 1;

        Over() {
            super(null, null, false, false);
        }
    }

    private static final class Gardener {
        final ShearHedge x;
        long s;
        int steps = 0;
        int missed = 0;
        int cuts = 0;
        int fallen = 0;
        int grown = 0;
        int left = 0;

        Gardener(ShearHedge x, int seed) {
            this.x = x;
            this.s = seed;
        }

        int draw(int n) {
            s = (s * 2971 + 10987) % 65536;
            return (int) (s / 8 % n);
        }

        void all(List<Grammar.Step> row) {
            for (Grammar.Step step : row) {
                if (steps == 300) {
                    left = 1;
                    throw new Over();
                }
                steps++;
                one(step);
            }
        }

        void cut(int side, int sprig) {
            int fell = x.cut(side, sprig);
            if (x.status() != 0) {
                missed++;
                return;
            }
            cuts++;
            fallen += fell;
        }

        void one(Grammar.Step step) {
            switch (step.kind) {
                case 0: cut(step.a, step.b); break;
                case 1: x.take(step.a, step.b); if (x.status() != 0) missed++; break;
                case 2: x.less(step.a, step.b); if (x.status() != 0) missed++; break;
                case 3: x.grow(step.a, step.b); if (x.status() != 0) missed++; else grown++; break;
                case 4:
                    if (x.many(0) == 0) {
                        missed++;
                    } else {
                        int side = draw(2);
                        cut(side, draw(x.many(0)));
                    }
                    break;
                case 5: if (holds(step)) all(step.within); break;
                case 6: for (int i = 0; i < step.a; i++) all(step.within); break;
                default: throw new Over();
            }
        }

        boolean holds(Grammar.Step step) {
            if (step.a == 0) return x.sprig(step.b, 2) == 1;
            if (step.a == 3) return x.winner(step.b) == step.b;
            double value;
            if (step.a == 1) {
                x.worth();
                value = (double) x.top() / x.bottom();
            } else {
                value = x.nimber();
            }
            return step.c == 0 ? value < step.b : step.c == 1 ? value > step.b : value == step.b;
        }
    }

    private static void lives(Random random) {
        String hedge = RandomTexts.hedge(random, random.nextInt(12));
        String text = RandomTexts.seasons(random);
        ShearHedge x = new ShearHedge();
        Check.hedge(x, hedge);
        if (x.status() != 0 || text.length() > 300) return;
        ShearHedge by = Check.of(hedge);
        List<Grammar.Step> row;
        try {
            row = new Grammar(text).seasons();
        } catch (Grammar.Fault fault) {
            return;
        }
        int seed = random.nextInt(10000);
        Gardener gardener = new Gardener(by, seed);
        try {
            gardener.all(row);
        } catch (Over over) {
            // what was counted until then stands
        }
        Check.seasons(x, text);
        if (random.nextBoolean()) Check.taken(x, "mean", x.mean(seed, 1));
        else Check.taken(x, "worth", x.worth());
        Check.taken(x, "live " + text, x.live(seed), gardener.steps);
        int[] lived = {gardener.missed, gardener.cuts, gardener.fallen, gardener.grown, gardener.left};
        for (int what = 0; what <= 4; what++) Check.taken(x, "lived " + what + " of " + text, x.lived(what), lived[what]);
        for (int what = 0; what <= 6; what++) Check.taken(x, "many " + what, x.many(what), by.many(what));
        x.worth();
        by.worth();
        Check.due("top()", x.top(), by.top());
        Check.due("bottom()", x.bottom(), by.bottom());
        Check.taken(x, "nimber", x.nimber(), by.nimber());
    }
}
