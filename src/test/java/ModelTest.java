import java.util.ArrayList;
import java.util.HashMap;
import java.util.List;
import java.util.Map;
import java.util.Random;

/**
 * Random small hedges against a model that plays out every game to its end by the MOVES of paragraph 2 alone,
 * and knows of WORTH only that it is the SIMPLEST number between what LEFT and RIGHT can make of it.
 */
public final class ModelTest {
    private static final long PART = 1L << 20;

    public static void main(String[] args) {
        Random random = new Random(20261118);
        for (int run = 0; run < 400; run++) whoWins(random);
        for (int run = 0; run < 150; run++) hotBets(random);
        for (int run = 0; run < 150; run++) worths(random);
        for (int run = 0; run < 150; run++) lucks(random);
        for (int run = 0; run < 150; run++) balances(random);
        for (int run = 0; run < 60; run++) colourings(random);
        Check.end("ModelTest");
    }

    /** A HEDGE as a model: rows that are never changed, but copied by each MOVE. */
    private static final class Model {
        final int[] colour;
        final int[] on;
        final int[][] bets;
        final int standing;
        final int taken;
        final int score;
        final int[] heaps;

        Model(int[] colour, int[] on, int[][] bets, int standing, int taken, int score, int[] heaps) {
            this.colour = colour;
            this.on = on;
            this.bets = bets;
            this.standing = standing;
            this.taken = taken;
            this.score = score;
            this.heaps = heaps;
        }

        static Model random(Random random, int sprigs, int colours, int heaps, int betsAtMost, int most) {
            int[] colour = new int[sprigs];
            int[] on = new int[sprigs];
            for (int i = 0; i < sprigs; i++) {
                colour[i] = random.nextInt(colours);
                on[i] = random.nextInt(i + 1) - 1;
                while (on[i] >= 0 && (colour[on[i]] == 2) != (colour[i] == 2)) on[i]--;
            }
            int[][] bets = new int[betsAtMost][2];
            for (int[] bet : bets) {
                bet[0] = random.nextInt(most);
                bet[1] = random.nextInt(most) + (bet[0] == 0 ? 1 : 0);
            }
            int[] heap = new int[heaps];
            for (int i = 0; i < heaps; i++) heap[i] = random.nextInt(4);
            return new Model(colour, on, bets, (1 << sprigs) - 1, 0, 0, heap);
        }

        ShearHedge real() {
            StringBuilder text = new StringBuilder();
            String[] names = {"blue", "red", "green"};
            for (int i = 0; i < colour.length; i++) {
                text.append("sprig ").append(names[colour[i]]);
                if (on[i] >= 0) text.append(" on ").append(on[i]);
                text.append(";");
            }
            for (int heap : heaps) text.append("heap ").append(heap).append(";");
            for (int[] bet : bets) text.append("bet ").append(bet[0]).append(" ").append(bet[1]).append(";");
            return Check.of(text.toString());
        }

        Model with(int newStanding, int newTaken, int newScore, int[] newHeaps) {
            return new Model(colour, on, bets, newStanding, newTaken, newScore, newHeaps);
        }

        boolean stands(int i) {
            return (standing >> i & 1) != 0;
        }

        boolean isUnder(int low, int high) {
            for (int at = high; at >= 0; at = on[at]) {
                if (at == low) return true;
            }
            return false;
        }

        int without(int cut) {
            int rest = standing;
            for (int i = 0; i < colour.length; i++) {
                if (isUnder(cut, i)) rest &= ~(1 << i);
            }
            return rest;
        }

        /** All MOVES in the order of bestOf; told gets kind, place, left of each. */
        List<Model> moves(int side, List<int[]> told) {
            List<Model> all = new ArrayList<>();
            for (int i = 0; i < colour.length; i++) {
                if (!stands(i) || colour[i] == 1 - side) continue;
                all.add(with(without(i), taken, score, heaps));
                told.add(new int[] {0, i, 0});
            }
            for (int i = 0; i < bets.length; i++) {
                if ((taken >> i & 1) != 0) continue;
                all.add(with(standing, taken | 1 << i, score + (side == 0 ? bets[i][0] : -bets[i][1]), heaps));
                told.add(new int[] {1, i, 0});
            }
            for (int i = 0; i < heaps.length; i++) {
                for (int n = 0; n < heaps[i]; n++) {
                    int[] less = heaps.clone();
                    less[i] = n;
                    all.add(with(standing, taken, score, less));
                    told.add(new int[] {2, i, n});
                }
            }
            if (side == 0 && score > 0 || side == 1 && score < 0) {
                all.add(with(standing, taken, score + (side == 0 ? -1 : 1), heaps));
                told.add(new int[] {3, 0, 0});
            }
            return all;
        }

        String key(int side) {
            StringBuilder key = new StringBuilder();
            key.append(standing).append(' ').append(taken).append(' ').append(score).append(' ').append(side);
            for (int heap : heaps) key.append(' ').append(heap);
            return key.toString();
        }

        boolean moverWins(int side, Map<String, Boolean> known) {
            Boolean was = known.get(key(side));
            if (was != null) return was;
            boolean wins = false;
            for (Model next : moves(side, new ArrayList<>())) {
                if (next.moverWins(1 - side, known)) continue;
                wins = true;
                break;
            }
            known.put(key(side), wins);
            return wins;
        }

        /** WORTH without SCORE and BETS, in parts of 2^-20, by what the two can make of it. */
        long worth(int set, Map<Integer, Long> known) {
            Long was = known.get(set);
            if (was != null) return was;
            long left = -100 * PART;
            long right = 100 * PART;
            Model here = with(set, taken, score, heaps);
            for (int i = 0; i < colour.length; i++) {
                if (!here.stands(i) || colour[i] == 2) continue;
                long next = worth(here.without(i), known);
                if (colour[i] == 0) left = Math.max(left, next);
                else right = Math.min(right, next);
            }
            long worth = simplest(left, right);
            known.put(set, worth);
            return worth;
        }

        int nim(int set, Map<Integer, Integer> known) {
            Integer was = known.get(set);
            if (was != null) return was;
            Model here = with(set, taken, score, heaps);
            long reached = 0;
            for (int i = 0; i < colour.length; i++) {
                if (here.stands(i) && colour[i] == 2) reached |= 1L << nim(here.without(i), known);
            }
            int nim = Long.numberOfTrailingZeros(~reached);
            known.put(set, nim);
            return nim;
        }
    }

    private static long simplest(long low, long high) {
        Check.due("left is below right", low < high, true);
        for (long size = 0; size <= 100; size++) {
            if (low < size * PART && size * PART < high) return size * PART;
            if (low < -size * PART && -size * PART < high) return -size * PART;
        }
        for (long step = PART / 2; step > 0; step /= 2) {
            long number = Math.floorDiv(low, step) * step + step;
            if (number < high) return number;
        }
        Check.due("a number between", false, true);
        return 0;
    }

    private static void whoWins(Random random) {
        Model model = Model.random(random, random.nextInt(6), 3, random.nextInt(3), random.nextInt(4), 1 + random.nextInt(3));
        play(model, model.real());
        ShearHedge moved = model.real();
        Model here = model;
        for (int turn = 0; turn < 3; turn++) {
            int side = random.nextInt(2);
            List<int[]> told = new ArrayList<>();
            List<Model> moves = here.moves(side, told);
            if (moves.isEmpty()) break;
            int which = random.nextInt(moves.size());
            int[] move = told.get(which);
            here = moves.get(which);
            if (move[0] == 0) moved.cut(side, move[1]);
            if (move[0] == 1) moved.take(side, move[1]);
            if (move[0] == 2) moved.less(move[1], move[2]);
            if (move[0] == 3) moved.spend(side);
            Check.due("the MOVE can be made", moved.status(), 0);
            play(here, moved);
        }
    }

    /** Many BETS of much the same HEAT, and a little else. */
    private static void hotBets(Random random) {
        Model model = Model.random(random, random.nextInt(4), 3, random.nextInt(2), 2 + random.nextInt(3), 2 + random.nextInt(4));
        play(model, model.real());
    }

    private static void play(Model model, ShearHedge x) {
        Map<String, Boolean> known = new HashMap<>();
        int outcome = 0;
        for (int side = 0; side <= 1; side++) {
            List<int[]> told = new ArrayList<>();
            List<Model> moves = model.moves(side, told);
            int[] first = null;
            int wins = 0;
            for (int i = 0; i < moves.size(); i++) {
                if (moves.get(i).moverWins(1 - side, known)) continue;
                wins++;
                if (first == null) first = told.get(i);
            }
            Check.taken(x, "moves", x.moves(side), moves.size());
            Check.taken(x, "wins", x.wins(side), wins);
            Check.taken(x, "winner", x.winner(side), wins > 0 ? side : 1 - side);
            if (wins > 0) outcome |= 1 << side;
            for (int what = 0; what <= 2; what++) {
                if (first == null) Check.refused(x, "bestOf", x.bestOf(side, what), 8);
                else Check.taken(x, "bestOf", x.bestOf(side, what), first[what]);
            }
        }
        int[] outcomes = {3, 0, 1, 2};
        Check.taken(x, "outcome", x.outcome(), outcomes[outcome]);
    }

    private static void due(ShearHedge x, String call, boolean got, long parts) {
        Check.taken(x, call, got);
        Check.due(call + " in parts", x.top() * PART, parts * x.bottom());
        Check.due("without a common divisor", x.bottom() == 1 || (x.top() & 1) != 0, true);
    }

    private static void worths(Random random) {
        Model model = Model.random(random, random.nextInt(10), 3, random.nextInt(3), 0, 1);
        ShearHedge x = model.real();
        Map<Integer, Long> known = new HashMap<>();
        Map<Integer, Integer> nims = new HashMap<>();
        due(x, "worth", x.worth(), model.worth(model.standing, known));
        int heaps = 0;
        for (int heap : model.heaps) heaps ^= heap;
        Check.taken(x, "nimber", x.nimber(), model.nim(model.standing, nims) ^ heaps);
        for (int i = 0; i < model.colour.length; i++) {
            int branch = model.standing & ~model.without(i);
            // a branch by itself is one on the ground
            Model alone = new Model(model.colour, model.on.clone(), model.bets, branch, 0, 0, model.heaps);
            alone.on[i] = -1;
            Check.taken(x, "sprig 4", x.sprig(i, 4), Integer.bitCount(branch));
            if (model.colour[i] == 2) Check.taken(x, "nimOf", x.nimOf(i), alone.nim(branch, new HashMap<>()));
            else due(x, "worthOf", x.worthOf(i), alone.worth(branch, new HashMap<>()));
        }
    }

    private static double odds(Model model, int side) {
        List<Model> moves = model.moves(side, new ArrayList<>());
        if (moves.isEmpty()) return side == 0 ? 0 : 1;
        double sum = 0;
        for (Model next : moves) sum += odds(next, 1 - side);
        return sum / moves.size();
    }

    private static void lucks(Random random) {
        Model model = Model.random(random, random.nextInt(7), 3, 0, 0, 1);
        ShearHedge x = model.real();
        for (int side = 0; side <= 1; side++) {
            Check.taken(x, "luck", x.luck(side));
            double odds = odds(model, side);
            Check.due("luck is near", Math.abs((double) x.top() / x.bottom() - odds) < 1e-12, true);
            long divisor = java.math.BigInteger.valueOf(x.top()).gcd(java.math.BigInteger.valueOf(x.bottom())).longValue();
            Check.due("without a common divisor", divisor, 1);
        }
    }

    private static void balances(Random random) {
        Model model = Model.random(random, random.nextInt(10), 3, random.nextInt(3), 0, 1);
        ShearHedge x = model.real();
        Map<Integer, Long> known = new HashMap<>();
        Map<Integer, Integer> nims = new HashMap<>();
        int heaps = 0;
        for (int heap : model.heaps) heaps ^= heap;
        int best = -1;
        for (int set = 0; set < 1 << model.colour.length; set++) {
            if (Integer.bitCount(set) > 3 || best >= 0 && Integer.bitCount(set) >= Integer.bitCount(best)) continue;
            int rest = model.standing;
            for (int i = 0; i < model.colour.length; i++) {
                if ((set >> i & 1) != 0) rest &= model.without(i);
            }
            if (model.worth(rest, known) == 0 && (model.nim(rest, nims) ^ heaps) == 0) best = set;
        }
        if (best < 0) {
            Check.refused(x, "balance", x.balance(), 8);
            Check.refused(x, "balanceSet", x.balanceSet(), 8);
        } else {
            Check.taken(x, "balance", x.balance(), Integer.bitCount(best));
            Check.taken(x, "balanceSet", x.balanceSet(), best);
        }
    }

    /** Each way is painted on another object, and its WORTH asked. */
    private static void colourings(Random random) {
        Model model = Model.random(random, 1 + random.nextInt(8), 3, 0, 0, 1);
        ShearHedge x = model.real();
        ShearHedge painted = model.real();
        int set = 0;
        for (int i = 0; i < model.colour.length; i++) {
            if (model.colour[i] != 2 && random.nextInt(4) > 0) set |= 1 << i;
        }
        painted.worth();
        int p = (int) painted.top();
        int k = Long.numberOfTrailingZeros(painted.bottom());
        int ways = 0;
        int first = -1;
        int[] blue = new int[20];
        for (int reds = 0; reds < 1 << model.colour.length; reds++) {
            if ((reds & ~set) != 0) continue;
            for (int i = 0; i < model.colour.length; i++) {
                if ((set >> i & 1) != 0 && painted.sprig(i, 0) != (reds >> i & 1)) painted.paint(i);
            }
            painted.worth();
            if (painted.top() != p || painted.bottom() != 1L << k) continue;
            ways++;
            if (first < 0) first = reds;
            for (int i = 0; i < 20; i++) blue[i] += 1 - (reds >> i & 1);
        }
        Check.taken(x, "colourings", x.colourings(set, p, k), ways);
        Check.taken(x, "firstRed", x.firstRed(set, p, k), first);
        int ask = -1;
        for (int i = 0; i < 20; i++) {
            if ((set >> i & 1) == 0) continue;
            Check.taken(x, "oddsBlue", x.oddsBlue(set, p, k, i));
            Check.due("oddsBlue", x.top() * ways, blue[i] * x.bottom());
            if (ask < 0 || Math.max(blue[i], ways - blue[i]) < Math.max(blue[ask], ways - blue[ask])) ask = i;
        }
        if (ways < 2) Check.refused(x, "ask", x.ask(set, p, k), 8);
        else Check.taken(x, "ask", x.ask(set, p, k), ask);
    }
}
