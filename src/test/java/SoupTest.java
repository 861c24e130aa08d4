import java.util.ArrayList;
import java.util.List;
import java.util.Random;
import java.util.regex.Matcher;
import java.util.regex.Pattern;

/**
 * Random texts, right ones and spoilt ones, against another reading of the grammar;
 * and SEASONS lived by calls of cut, take, less, grow on a second object.
 */
public final class SoupTest {
    private static final String[] WORDS = {"sprig", "heap", "bet", "on", "blue", "red", "green", "cut", "take", "less", "grow", "any",
        "when", "loop", "end", "stop", "left", "right", "stands", "worth", "nimber", "wins", ";", ";", ";", "<", ">", "=", "0", "1", "2",
        "3", "15", "16", "19", "20", "21", "31", "32", "99", "100", "0000", "00000", "!", "A", "sprigs", "\t", " ", "\n"};

    public static void main(String[] args) {
        Random random = new Random(54);
        for (int run = 0; run < 3000; run++) hedge(random);
        for (int run = 0; run < 3000; run++) seasons(random);
        for (int run = 0; run < 1500; run++) lives(random);
        Check.end("SoupTest");
    }

    // ---- random texts

    private static String colour(Random random) {
        return new String[] {"blue", "red", "green"}[random.nextInt(3)];
    }

    private static String side(Random random) {
        return random.nextBoolean() ? "left" : "right";
    }

    private static String hedgeText(Random random, int parts) {
        StringBuilder text = new StringBuilder();
        int sprigs = 0;
        for (int i = 0; i < parts; i++) {
            int kind = random.nextInt(12);
            if (kind == 0) text.append("heap ").append(random.nextInt(16)).append(";");
            else if (kind == 1) text.append("bet ").append(random.nextInt(21)).append(" ").append(1 + random.nextInt(20)).append(";");
            else {
                text.append("sprig ").append(colour(random));
                if (sprigs > 0 && random.nextInt(4) == 0) text.append(" on ").append(random.nextInt(sprigs));
                text.append(";");
                sprigs++;
            }
        }
        return text.toString();
    }

    private static void step(Random random, StringBuilder text, int depth) {
        int kind = random.nextInt(depth < 3 ? 11 : 8);
        String small = " " + random.nextInt(6);
        if (kind == 0) text.append("cut ").append(side(random)).append(small);
        else if (kind == 1) text.append("take ").append(side(random)).append(" ").append(random.nextInt(5));
        else if (kind == 2) text.append("less ").append(random.nextInt(4)).append(" ").append(random.nextInt(10));
        else if (kind == 3) text.append("grow ").append(colour(random));
        else if (kind == 4) text.append("grow ").append(colour(random)).append(" on").append(small);
        else if (kind <= 6) text.append("any");
        else if (kind == 7) text.append(random.nextInt(8) == 0 ? "stop" : "any");
        else {
            if (kind <= 9) text.append("when ").append(test(random));
            else text.append("loop ").append(random.nextInt(5) == 0 ? 99 : 1 + random.nextInt(6));
            text.append(";");
            for (int i = random.nextInt(4); i > 0; i--) step(random, text, depth + 1);
            text.append("end");
        }
        text.append(";");
    }

    private static String test(Random random) {
        String comparison = new String[] {"<", ">", "="}[random.nextInt(3)];
        switch (random.nextInt(4)) {
            case 0: return "stands " + random.nextInt(8);
            case 1: return "worth " + comparison + " " + random.nextInt(3);
            case 2: return "nimber" + comparison + random.nextInt(4);
            default: return "wins " + side(random);
        }
    }

    private static String seasonsText(Random random) {
        StringBuilder text = new StringBuilder();
        for (int i = 1 + random.nextInt(6); i > 0; i--) step(random, text, 0);
        return text.toString();
    }

    private static String spoilt(Random random, String text) {
        StringBuilder soup = new StringBuilder(text);
        for (int i = random.nextInt(3); i > 0; i--) {
            int at = random.nextInt(soup.length() + 1);
            int many = Math.min(random.nextInt(4), soup.length() - at);
            String word = random.nextInt(3) == 0 ? "" : " " + WORDS[random.nextInt(WORDS.length)];
            soup.replace(at, at + many, word);
        }
        return soup.toString();
    }

    // ---- another reading of the grammar

    private static final class Fault extends RuntimeException {
        private static final long serialVersionUID = 1;
        final int kind;
        final int place;

        Fault(int kind, int place) {
            super(null, null, false, false);
            this.kind = kind;
            this.place = place;
        }
    }

    private static final class Reader {
        private static final Pattern TOKEN = Pattern.compile("[ \n]*(?:([a-z]+)|([0-9]+)|([;<>=])|(.)|$)", Pattern.DOTALL);
        final List<String> tokens = new ArrayList<>();
        final List<Integer> places = new ArrayList<>();
        int at = 0;
        int steps = 0;

        Reader(String text) {
            Matcher matcher = TOKEN.matcher(text);
            int from = 0;
            while (matcher.find(from)) {
                boolean found = false;
                for (int group = 1; group <= 4; group++) {
                    if (matcher.group(group) == null) continue;
                    boolean strange = group == 4 || group == 2 && matcher.group(2).length() > 4;
                    tokens.add(strange ? "?" : matcher.group(group));
                    places.add(matcher.start(group));
                    found = true;
                }
                if (!found) break;
                from = matcher.end();
            }
            tokens.add("");
            places.add(text.length());
        }

        String token() {
            return tokens.get(at);
        }

        Fault fault(int kind) {
            return new Fault(token().equals("?") ? 1 : kind, places.get(at));
        }

        int word(String... words) {
            for (int i = 0; i < words.length; i++) {
                if (!token().equals(words[i])) continue;
                at++;
                return i;
            }
            throw fault(2);
        }

        int number(int least, int most) {
            if (!token().matches("[0-9]+")) throw fault(2);
            int value = Integer.parseInt(token());
            if (value < least || value > most) throw fault(4);
            at++;
            return value;
        }

        void hedge(int[] counted) {
            List<Integer> colours = new ArrayList<>();
            while (!token().isEmpty()) {
                if (token().equals("sprig") && colours.size() == 20) throw fault(6);
                if (token().equals("heap") && counted[1] == 4) throw fault(6);
                if (token().equals("bet") && counted[2] == 5) throw fault(6);
                int part = word("sprig", "heap", "bet");
                if (part == 0) {
                    int colour = word("blue", "red", "green");
                    if (token().equals("on")) {
                        at++;
                        int on = number(0, colours.size() - 1);
                        at--;
                        if ((colour == 2) != (colours.get(on) == 2)) throw fault(5);
                        at++;
                    }
                    colours.add(colour);
                } else if (part == 1) {
                    number(0, 15);
                } else {
                    int left = number(0, 20);
                    number(left > 0 ? 0 : 1, 20);
                }
                word(";");
                counted[part]++;
            }
        }

        List<Step> block(int depth) {
            List<Step> all = new ArrayList<>();
            while (!(depth == 0 ? token().isEmpty() : token().equals("end"))) {
                if (token().isEmpty()) throw fault(2);
                all.add(step(depth));
            }
            if (depth > 0) {
                word("end");
                word(";");
            }
            return all;
        }

        private Step step(int depth) {
            String[] kinds = {"cut", "take", "less", "grow", "any", "when", "loop", "stop"};
            int before = at;
            int kind = word(kinds);
            at = before;
            if (steps == 30) throw fault(6);
            if ((kind == 5 || kind == 6) && depth == 3) throw fault(7);
            at++;
            steps++;
            Step step = new Step();
            step.kind = kind;
            if (kind <= 1) {
                step.a = word("left", "right");
                step.b = number(0, kind == 0 ? 19 : 4);
            } else if (kind == 2) {
                step.a = number(0, 3);
                step.b = number(0, 15);
            } else if (kind == 3) {
                step.a = word("blue", "red", "green");
                step.b = -1;
                if (token().equals("on")) {
                    at++;
                    step.b = number(0, 19);
                }
            } else if (kind == 5) {
                step.a = word("stands", "worth", "nimber", "wins");
                if (step.a == 1 || step.a == 2) step.c = word("<", ">", "=");
                if (step.a == 3) step.b = word("left", "right");
                else step.b = number(0, step.a == 0 ? 19 : step.a == 1 ? 20 : 31);
            } else if (kind == 6) {
                step.a = number(1, 99);
            }
            word(";");
            if (kind == 5 || kind == 6) step.within = block(depth + 1);
            return step;
        }
    }

    private static void hedge(Random random) {
        String text = spoilt(random, hedgeText(random, random.nextInt(30)));
        ShearHedge x = new ShearHedge();
        int[] counted = new int[3];
        try {
            new Reader(text).hedge(counted);
            Check.taken(x, "hedge " + text, Check.hedge(x, text), counted[0]);
            for (int what = 0; what <= 2; what++) Check.taken(x, "many", x.many(what), counted[what]);
        } catch (Fault fault) {
            Check.faultyHedge(text, fault.kind, fault.place);
        }
    }

    private static void seasons(Random random) {
        StringBuilder long30 = new StringBuilder(random.nextInt(3) == 0 ? "any;stop;".repeat(12 + random.nextInt(4)) : "");
        String text = spoilt(random, long30.append(seasonsText(random)).toString());
        if (text.length() > 300) return;
        ShearHedge x = new ShearHedge();
        try {
            Reader reader = new Reader(text);
            reader.block(0);
            Check.taken(x, "seasons " + text, Check.seasons(x, text), reader.steps);
        } catch (Fault fault) {
            Check.faultySeasons(text, fault.kind, fault.place);
        }
    }

    // ---- SEASONS lived by calls

    private static final class Step {
        int kind;
        int a;
        int b;
        int c;
        List<Step> within;
    }

    /** Thrown when the SEASONS are at their end ahead of their text's. */
    private static final class Over extends RuntimeException {
        private static final long serialVersionUID = 1;

        Over() {
            super(null, null, false, false);
        }
    }

    private static final class Gardener {
        final ShearHedge x;
        long s;
        int steps = 0;
        int missed = 0;
        int cuts = 0;
        int fallen = 0;
        int grown = 0;
        int left = 0;

        Gardener(ShearHedge x, int seed) {
            this.x = x;
            this.s = seed;
        }

        int draw(int n) {
            s = (s * 2971 + 10987) % 65536;
            return (int) (s / 8 % n);
        }

        void all(List<Step> row) {
            for (Step step : row) {
                if (steps == 300) {
                    left = 1;
                    throw new Over();
                }
                steps++;
                one(step);
            }
        }

        void cut(int side, int sprig) {
            int fell = x.cut(side, sprig);
            if (x.status() != 0) {
                missed++;
                return;
            }
            cuts++;
            fallen += fell;
        }

        void one(Step step) {
            switch (step.kind) {
                case 0: cut(step.a, step.b); break;
                case 1: x.take(step.a, step.b); if (x.status() != 0) missed++; break;
                case 2: x.less(step.a, step.b); if (x.status() != 0) missed++; break;
                case 3: x.grow(step.a, step.b); if (x.status() != 0) missed++; else grown++; break;
                case 4:
                    if (x.many(0) == 0) {
                        missed++;
                    } else {
                        int side = draw(2);
                        cut(side, draw(x.many(0)));
                    }
                    break;
                case 5: if (holds(step)) all(step.within); break;
                case 6: for (int i = 0; i < step.a; i++) all(step.within); break;
                default: throw new Over();
            }
        }

        boolean holds(Step step) {
            if (step.a == 0) return x.sprig(step.b, 2) == 1;
            if (step.a == 3) return x.winner(step.b) == step.b;
            double value;
            if (step.a == 1) {
                x.worth();
                value = (double) x.top() / x.bottom();
            } else {
                value = x.nimber();
            }
            return step.c == 0 ? value < step.b : step.c == 1 ? value > step.b : value == step.b;
        }
    }

    private static void lives(Random random) {
        String hedge = hedgeText(random, random.nextInt(12));
        String text = seasonsText(random);
        ShearHedge x = new ShearHedge();
        Check.hedge(x, hedge);
        if (x.status() != 0 || text.length() > 300) return;
        ShearHedge by = Check.of(hedge);
        Reader reader = new Reader(text);
        List<Step> row;
        try {
            row = reader.block(0);
        } catch (Fault fault) {
            return;
        }
        int seed = random.nextInt(10000);
        Gardener gardener = new Gardener(by, seed);
        try {
            gardener.all(row);
        } catch (Over over) {
            // what was counted until then stands
        }
        Check.seasons(x, text);
        if (random.nextBoolean()) Check.taken(x, "mean", x.mean(seed, 1));
        else Check.taken(x, "worth", x.worth());
        Check.taken(x, "live " + text, x.live(seed), gardener.steps);
        int[] lived = {gardener.missed, gardener.cuts, gardener.fallen, gardener.grown, gardener.left};
        for (int what = 0; what <= 4; what++) Check.taken(x, "lived " + what + " of " + text, x.lived(what), lived[what]);
        for (int what = 0; what <= 6; what++) Check.taken(x, "many " + what, x.many(what), by.many(what));
        x.worth();
        by.worth();
        Check.due("top()", x.top(), by.top());
        Check.due("bottom()", x.bottom(), by.bottom());
        Check.taken(x, "nimber", x.nimber(), by.nimber());
    }
}
