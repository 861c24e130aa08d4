import java.util.ArrayList;
import java.util.HashMap;
import java.util.HashSet;
import java.util.List;
import java.util.Map;
import java.util.Set;

/** A HEDGE with all that became of it, as the Oracle has it: lists that are copied, and trees that are walked. */
final class Garden {
    static final int GREEN = 2;

    /** What a SIDE may do: 0 CUT, 1 TAKE, 2 LESSEN, 3 SPEND; of what; to what. */
    record Move(int kind, int place, int left) {
    }

    final List<Integer> colour = new ArrayList<>();
    final List<Integer> on = new ArrayList<>();
    final Set<Integer> fell = new HashSet<>();
    final List<Integer> heaps = new ArrayList<>();
    final List<int[]> bets = new ArrayList<>();
    final Set<Integer> taken = new HashSet<>();
    int score = 0;
    int cuts = 0;

    Garden copy() {
        Garden copy = new Garden();
        copy.colour.addAll(colour);
        copy.on.addAll(on);
        copy.fell.addAll(fell);
        copy.heaps.addAll(heaps);
        copy.bets.addAll(bets);
        copy.taken.addAll(taken);
        copy.score = score;
        copy.cuts = cuts;
        return copy;
    }

    static Garden of(List<Grammar.Part> parts) {
        Garden garden = new Garden();
        for (Grammar.Part part : parts) {
            if (part.kind == Grammar.SPRIG) {
                garden.colour.add(part.a);
                garden.on.add(part.b);
            } else if (part.kind == Grammar.HEAP) {
                garden.heaps.add(part.a);
            } else {
                garden.bets.add(new int[] {part.a, part.b});
            }
        }
        return garden;
    }

    int sprigs() {
        return colour.size();
    }

    boolean has(int sprig) {
        return sprig >= 0 && sprig < sprigs();
    }

    boolean stands(int sprig) {
        return has(sprig) && !fell.contains(sprig);
    }

    boolean isGreen(int sprig) {
        return colour.get(sprig) == GREEN;
    }

    List<Integer> standing() {
        List<Integer> all = new ArrayList<>();
        for (int i = 0; i < sprigs(); i++) {
            if (stands(i)) all.add(i);
        }
        return all;
    }

    /** The SPRIGS that STAND right on one; on the ground for -1. */
    List<Integer> rightOn(int sprig) {
        List<Integer> all = new ArrayList<>();
        for (int i : standing()) {
            if (on.get(i) == sprig) all.add(i);
        }
        return all;
    }

    List<Integer> branch(int sprig) {
        List<Integer> all = new ArrayList<>();
        all.add(sprig);
        for (int i : rightOn(sprig)) all.addAll(branch(i));
        return all;
    }

    static int set(Iterable<Integer> numbers) {
        int set = 0;
        for (int number : numbers) set += 1 << number;
        return set;
    }

    // ---- what is done

    boolean mayCut(int side, int sprig) {
        return stands(sprig) && (isGreen(sprig) || colour.get(sprig) == side);
    }

    /** How many FALL. */
    int cut(int sprig) {
        List<Integer> falling = branch(sprig);
        fell.addAll(falling);
        cuts++;
        return falling.size();
    }

    boolean mayTake(int bet) {
        return bet >= 0 && bet < bets.size() && !taken.contains(bet);
    }

    void take(int side, int bet) {
        score += gain(side, bet);
        taken.add(bet);
    }

    int gain(int side, int bet) {
        return side == 0 ? bets.get(bet)[0] : -bets.get(bet)[1];
    }

    boolean mayLessen(int heap, int n) {
        return heap >= 0 && heap < heaps.size() && heaps.get(heap) > n;
    }

    boolean maySpend(int side) {
        return side == 0 && score > 0 || side == 1 && score < 0;
    }

    void spend(int side) {
        if (side == 0) score--;
        else score++;
    }

    boolean mayGrow(int newColour, int ground) {
        if (sprigs() == 20) return false;
        return ground == -1 || stands(ground) && isGreen(ground) == (newColour == GREEN);
    }

    void grow(int newColour, int ground) {
        colour.add(newColour);
        on.add(ground);
    }

    List<Move> moves(int side) {
        List<Move> all = new ArrayList<>();
        for (int i : standing()) {
            if (mayCut(side, i)) all.add(new Move(0, i, 0));
        }
        for (int i = 0; i < bets.size(); i++) {
            if (mayTake(i)) all.add(new Move(1, i, 0));
        }
        for (int i = 0; i < heaps.size(); i++) {
            for (int n = 0; n < heaps.get(i); n++) all.add(new Move(2, i, n));
        }
        if (maySpend(side)) all.add(new Move(3, 0, 0));
        return all;
    }

    Garden after(int side, Move move) {
        Garden next = copy();
        switch (move.kind()) {
            case 0: next.cut(move.place()); break;
            case 1: next.take(side, move.place()); break;
            case 2: next.heaps.set(move.place(), move.left()); break;
            default: next.spend(side);
        }
        return next;
    }

    // ---- what it is worth

    static Fraction branchWorth(int ofColour, Fraction together) {
        if (ofColour == 1) return branchWorth(0, together.less()).less();
        int n = 1;
        while (together.plus(n).compareTo(Fraction.of(1)) <= 0) n++;
        return together.plus(n).by(1L << n - 1);
    }

    Fraction worthOf(int sprig) {
        return branchWorth(colour.get(sprig), worthOn(sprig));
    }

    private Fraction worthOn(int ground) {
        Fraction together = Fraction.ZERO;
        for (int i : rightOn(ground)) {
            if (!isGreen(i)) together = together.plus(worthOf(i));
        }
        return together;
    }

    Fraction worth() {
        return worthOn(-1).plus(score);
    }

    int nimOf(int sprig) {
        return 1 + nimOn(sprig);
    }

    private int nimOn(int ground) {
        int together = 0;
        for (int i : rightOn(ground)) {
            if (isGreen(i)) together ^= nimOf(i);
        }
        return together;
    }

    int nimber() {
        int together = nimOn(-1);
        for (int heap : heaps) together ^= heap;
        return together;
    }

    // ---- who wins

    /** All that is left of the BETS is tried in every order. */
    boolean beginnerWins(int side) {
        Fraction end = worth().plus(settled(side, taken, new HashMap<>()));
        if (end.sign() != 0) return end.sign() > 0 == (side == 0);
        boolean begins = (bets.size() - taken.size()) % 2 == 0;
        return begins == (nimber() != 0);
    }

    /** By how much the SCORE is more in the end, if LEFT wants it to be the most and RIGHT the least. */
    private int settled(int side, Set<Integer> gone, Map<Set<Integer>, Integer> known) {
        Integer was = known.get(gone);
        if (was != null) return was;
        int best = gone.size() == bets.size() ? 0 : side == 0 ? -1000 : 1000;
        for (int i = 0; i < bets.size(); i++) {
            if (gone.contains(i)) continue;
            Set<Integer> then = new HashSet<>(gone);
            then.add(i);
            int end = gain(side, i) + settled(1 - side, then, known);
            best = side == 0 ? Math.max(best, end) : Math.min(best, end);
        }
        known.put(gone, best);
        return best;
    }

    List<Move> winning(int side) {
        List<Move> all = new ArrayList<>();
        for (Move move : moves(side)) {
            if (!after(side, move).beginnerWins(1 - side)) all.add(move);
        }
        return all;
    }

    int hottest() {
        int hottest = -1;
        for (int i = 0; i < bets.size(); i++) {
            if (taken.contains(i)) continue;
            if (hottest < 0 || bets.get(i)[0] + bets.get(i)[1] > bets.get(hottest)[0] + bets.get(hottest)[1]) hottest = i;
        }
        return hottest;
    }

    Fraction stop(int side) {
        Garden end = copy();
        for (int turn = side; end.hottest() >= 0; turn = 1 - turn) end.take(turn, end.hottest());
        return end.worth();
    }

    // ---- balance, luck

    /** The SPRIGS of BALANCE; null, if there are none. */
    Set<Integer> balance() {
        for (int many = 0; many <= 3; many++) {
            for (Set<Integer> some : choices(many)) {
                Garden rest = copy();
                for (int sprig : some) {
                    if (rest.stands(sprig)) rest.cut(sprig);
                }
                if (rest.worth().sign() == 0 && rest.nimber() == 0) return some;
            }
        }
        return null;
    }

    /** The sets of so many SPRIGS that STAND, the least as a number first. */
    private List<Set<Integer>> choices(int many) {
        List<Set<Integer>> all = new ArrayList<>();
        choose(many, 0, new HashSet<>(), all);
        all.sort((a, b) -> Integer.compare(set(a), set(b)));
        return all;
    }

    private void choose(int many, int from, Set<Integer> some, List<Set<Integer>> all) {
        if (some.size() == many) all.add(new HashSet<>(some));
        if (some.size() >= many) return;
        for (int i = from; i < sprigs(); i++) {
            if (!stands(i)) continue;
            some.add(i);
            choose(many, i + 1, some, all);
            some.remove(i);
        }
    }

    boolean isLeftToLuck() {
        for (int heap : heaps) {
            if (heap > 0) return false;
        }
        return standing().size() <= 6 && taken.size() == bets.size() && score == 0;
    }

    Fraction luck(int side) {
        Fraction sum = Fraction.ZERO;
        int cutsOfSide = 0;
        for (int i : standing()) {
            if (!mayCut(side, i)) continue;
            Garden next = copy();
            next.cut(i);
            sum = sum.plus(next.luck(1 - side));
            cutsOfSide++;
        }
        return cutsOfSide > 0 ? sum.by(cutsOfSide) : Fraction.of(side);
    }
}
