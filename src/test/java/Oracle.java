import java.io.ByteArrayOutputStream;
import java.math.BigInteger;
import java.nio.charset.StandardCharsets;
import java.util.ArrayList;
import java.util.HashSet;
import java.util.List;
import java.util.Set;

/**
 * The whole document once more, in the words of the document and as plainly as can be, however slow: each call as ShearHedge
 * has it. OracleTest compares the two.
 */
final class Oracle {
    private static final int NONE = -1;

    private int status = 0;
    private Fraction told = Fraction.ZERO;
    private final List<Tray> trays = new ArrayList<>(List.of(new Tray(), new Tray(), new Tray(), new Tray()));
    private final ByteArrayOutputStream tape = new ByteArrayOutputStream();
    private int fault = NONE;
    private int faultPlace = NONE;
    Garden garden = new Garden();
    private List<Grammar.Step> seasons = null;
    private final List<Garden> keptGardens = new ArrayList<>();
    private final List<List<Grammar.Step>> keptSeasons = new ArrayList<>();
    private int[] lived = null;

    /** A row of numbers; null if MISSING. */
    private static final class Tray {
        int sort = 0;
        long[] row = null;

        long cutToSort(long v) {
            return BigInteger.valueOf(v).shiftLeft(64 - (8 << sort)).longValue() >> 64 - (8 << sort);
        }

        boolean hasPlace(int place) {
            return place >= 0 && place < row.length;
        }
    }

    // ---- STATUS, the FRACTION

    int status() {
        return status;
    }

    long top() {
        return told.top().longValueExact();
    }

    long bottom() {
        return told.bottom().longValueExact();
    }

    private int none(int why) {
        status = why;
        return NONE;
    }

    private boolean no(int why) {
        status = why;
        return false;
    }

    private int tell(int answer) {
        status = 0;
        return answer;
    }

    private boolean tell(Fraction number) {
        status = 0;
        told = number;
        return true;
    }

    /** The first STATUS that holds: why[i] if holds[i]; 0 if none does. */
    private static int first(int[] why, boolean... holds) {
        for (int i = 0; i < why.length; i++) {
            if (holds[i]) return why[i];
        }
        return 0;
    }

    private static int[] why(int... numbers) {
        return numbers;
    }

    private static boolean isFrom(int least, int number, int most) {
        return least <= number && number <= most;
    }

    private static boolean isSide(int side) {
        return isFrom(0, side, 1);
    }

    // ---- TRAYS

    boolean tray(int tray, int sort, int many) {
        int refused = first(why(1, 5, 6), !isFrom(0, tray, 3) || !isFrom(0, sort, 3), many > 60, many < 0);
        if (refused != 0) return no(refused);
        trays.get(tray).sort = sort;
        trays.get(tray).row = new long[many];
        status = 0;
        return true;
    }

    private boolean isMissing(int tray) {
        return trays.get(tray).row == null;
    }

    boolean write(int tray, int place, long v) {
        read(tray, place);
        if (status != 0) return false;
        trays.get(tray).row[place] = trays.get(tray).cutToSort(v);
        return true;
    }

    long read(int tray, int place) {
        if (!isFrom(0, tray, 3)) return none(1);
        if (isMissing(tray)) return none(3);
        if (!trays.get(tray).hasPlace(place)) return none(4);
        status = 0;
        return trays.get(tray).row[place];
    }

    boolean pour(int tray, int i, int to, int j, int many) {
        if (!isFrom(0, tray, 3) || !isFrom(0, to, 3)) return no(1);
        if (isMissing(tray) || isMissing(to)) return no(3);
        if (trays.get(tray).sort != trays.get(to).sort) return no(11);
        if (many < 0) return no(6);
        long[] from = trays.get(tray).row.clone();
        long[] row = trays.get(to).row;
        if (i < 0 || (long) i + many > from.length || j < 0 || (long) j + many > row.length) return no(4);
        for (int at = 0; at < many; at++) row[j + at] = from[i + at];
        status = 0;
        return true;
    }

    // ---- texts

    int feed(int a, int b, int c, int d, int e) {
        if (tape.size() + 20 > 900) return NONE;
        for (int four : new int[] {a, b, c, d, e}) {
            for (int nth = 3; nth >= 0; nth--) tape.write(four >>> 8 * nth & 255);
        }
        return tape.size();
    }

    private String textOf(int n) {
        String text = new String(tape.toByteArray(), 0, n, StandardCharsets.ISO_8859_1);
        tape.reset();
        return text;
    }

    private int faulty(Grammar.Fault why) {
        fault = why.kind;
        faultPlace = why.place;
        return none(10);
    }

    int hedge(int n) {
        if (!isFrom(0, n, tape.size())) return none(5);
        try {
            garden = Garden.of(new Grammar(textOf(n)).hedge());
        } catch (Grammar.Fault why) {
            return faulty(why);
        }
        fault = 0;
        faultPlace = NONE;
        seasons = null;
        return tell(garden.sprigs());
    }

    int seasons(int n) {
        if (!isFrom(0, n, Math.min(300, tape.size()))) return none(5);
        Grammar grammar = new Grammar(textOf(n));
        try {
            seasons = grammar.seasons();
        } catch (Grammar.Fault why) {
            return faulty(why);
        }
        fault = 0;
        faultPlace = NONE;
        return tell(grammar.steps);
    }

    int fault(int what) {
        return what == 0 ? fault : what == 1 ? faultPlace : NONE;
    }

    int many(int what) {
        if (!isFrom(0, what, 6)) return none(5);
        int[] all = {garden.sprigs(), garden.heaps.size(), garden.bets.size(), Garden.set(garden.standing()), Garden.set(garden.taken),
            garden.cuts, garden.score};
        return tell(all[what]);
    }

    int sprig(int sprig, int what) {
        int refused = first(why(2, 5), !garden.has(sprig), !isFrom(0, what, 4));
        if (refused != 0) return none(refused);
        boolean stands = garden.stands(sprig);
        if (what == 1 && garden.on.get(sprig) == NONE || what == 4 && !stands) return none(8);
        switch (what) {
            case 0: return tell(garden.colour.get(sprig));
            case 1: return tell(garden.on.get(sprig));
            case 2: return tell(stands ? 1 : 0);
            case 3: return tell(Garden.set(garden.rightOn(sprig)));
            default: return tell(garden.branch(sprig).size());
        }
    }

    int heap(int heap) {
        return isFrom(0, heap, garden.heaps.size() - 1) ? tell(garden.heaps.get(heap)) : none(2);
    }

    private boolean hasBet(int bet) {
        return isFrom(0, bet, garden.bets.size() - 1);
    }

    int bet(int bet, int side) {
        return hasBet(bet) && isSide(side) ? tell(garden.bets.get(bet)[side]) : none(2);
    }

    int copyColours(int tray) {
        if (!isFrom(0, tray, 3)) return none(1);
        if (isMissing(tray)) return none(3);
        if (trays.get(tray).row.length < garden.sprigs()) return none(4);
        for (int i = 0; i < garden.sprigs(); i++) trays.get(tray).row[i] = garden.stands(i) ? garden.colour.get(i) : 3;
        return tell(garden.sprigs());
    }

    // ---- what is done

    int cut(int side, int sprig) {
        if (!isSide(side) || !garden.has(sprig)) return none(2);
        return garden.mayCut(side, sprig) ? tell(garden.cut(sprig)) : none(9);
    }

    int take(int side, int bet) {
        if (!isSide(side) || !hasBet(bet)) return none(2);
        if (!garden.mayTake(bet)) return none(9);
        garden.take(side, bet);
        return tell(garden.score);
    }

    int less(int heap, int n) {
        if (!isFrom(0, heap, garden.heaps.size() - 1)) return none(2);
        int refused = first(why(5, 9), !isFrom(0, n, 15), !garden.mayLessen(heap, n));
        if (refused != 0) return none(refused);
        garden.heaps.set(heap, n);
        return tell(garden.nimber());
    }

    int spend(int side) {
        int refused = first(why(2, 9), !isSide(side), !garden.maySpend(side));
        if (refused != 0) return none(refused);
        garden.spend(side);
        return tell(garden.score);
    }

    int grow(int colour, int on) {
        int refused = first(why(2, 5, 7, 9), on != NONE && !garden.has(on), !isFrom(0, colour, 2), garden.sprigs() == 20,
            garden.sprigs() < 20 && (on == NONE || garden.has(on)) && !garden.mayGrow(colour, on));
        if (refused != 0) return none(refused);
        garden.grow(colour, on);
        return tell(garden.sprigs() - 1);
    }

    private boolean hasWorth(int sprig) {
        return garden.stands(sprig) && !garden.isGreen(sprig);
    }

    int paint(int sprig) {
        int refused = first(why(2, 9), !garden.has(sprig), !hasWorth(sprig));
        if (refused != 0) return none(refused);
        garden.colour.set(sprig, 1 - garden.colour.get(sprig));
        return tell(garden.colour.get(sprig));
    }

    int pile(int n) {
        int refused = first(why(5, 7), !isFrom(0, n, 15), garden.heaps.size() == 4);
        if (refused != 0) return none(refused);
        garden.heaps.add(n);
        return tell(garden.heaps.size() - 1);
    }

    int offer(int left, int right) {
        boolean canBe = isFrom(0, left, 20) && isFrom(0, right, 20) && !(left == 0 && right == 0);
        int refused = first(why(5, 7), !canBe, garden.bets.size() == 5);
        if (refused != 0) return none(refused);
        garden.bets.add(new int[] {left, right});
        return tell(garden.bets.size() - 1);
    }

    // ---- what it is worth

    boolean worth() {
        return tell(garden.worth());
    }

    boolean worthOf(int sprig) {
        int refused = first(why(2, 9), !garden.has(sprig), !hasWorth(sprig));
        return refused == 0 ? tell(garden.worthOf(sprig)) : no(refused);
    }

    int nimber() {
        return tell(garden.nimber());
    }

    int nimOf(int sprig) {
        int refused = first(why(2, 9), !garden.has(sprig), !garden.stands(sprig) || !garden.isGreen(sprig));
        return refused == 0 ? tell(garden.nimOf(sprig)) : none(refused);
    }

    int compare(int sprig, int other) {
        if (!garden.has(sprig) || !garden.has(other)) return none(2);
        if (!hasWorth(sprig) || !hasWorth(other)) return none(9);
        return tell(1 + Integer.signum(garden.worthOf(sprig).compareTo(garden.worthOf(other))));
    }

    // ---- who wins

    int outcome() {
        int ifLeftBegins = garden.beginnerWins(0) ? 0 : 1;
        int ifRightBegins = garden.beginnerWins(1) ? 1 : 0;
        if (ifLeftBegins == ifRightBegins) return tell(ifLeftBegins);
        return tell(ifLeftBegins == 0 ? 2 : 3);
    }

    int winner(int side) {
        return isSide(side) ? tell(garden.beginnerWins(side) ? side : 1 - side) : none(2);
    }

    int moves(int side) {
        return isSide(side) ? tell(garden.moves(side).size()) : none(2);
    }

    int wins(int side) {
        return isSide(side) ? tell(garden.winning(side).size()) : none(2);
    }

    int bestOf(int side, int what) {
        int refused = first(why(2, 5), !isSide(side), !isFrom(0, what, 2));
        if (refused != 0) return none(refused);
        List<Garden.Move> all = garden.winning(side);
        if (all.isEmpty()) return none(8);
        Garden.Move best = all.get(0);
        return tell(what == 0 ? best.kind() : what == 1 ? best.place() : best.left());
    }

    boolean stop(int side) {
        return isSide(side) ? tell(garden.stop(side)) : no(2);
    }

    int hottest() {
        return garden.hottest() >= 0 ? tell(garden.hottest()) : none(8);
    }

    boolean heat(int bet, int what) {
        int refused = first(why(2, 5), !hasBet(bet), !isFrom(0, what, 1));
        if (refused != 0) return no(refused);
        int[] both = garden.bets.get(bet);
        return tell(Fraction.of(what == 0 ? both[0] + both[1] : both[0] - both[1]).by(2));
    }

    // ---- numbers

    private static boolean canBe(int p, int k) {
        if (!isFrom(-20971520, p, 20971520) || !isFrom(0, k, 20)) return false;
        return Fraction.of(p, k).withoutSign().compareTo(Fraction.of(20)) <= 0;
    }

    boolean simplest(int p, int k, int q, int m) {
        if (!canBe(p, k) || !canBe(q, m)) return no(5);
        Fraction low = Fraction.of(p, k);
        Fraction high = Fraction.of(q, m);
        if (low.compareTo(high) >= 0) return no(9);
        return tell(simplest(low, high));
    }

    private static boolean isBetween(Fraction low, Fraction number, Fraction high) {
        return low.compareTo(number) < 0 && number.compareTo(high) < 0;
    }

    /** All numbers of a BIRTHDAY are tried, from the least BIRTHDAY on. */
    private static Fraction simplest(Fraction low, Fraction high) {
        for (int birthday = 0; birthday < 100; birthday++) {
            for (int sign = 1; sign >= -1; sign -= 2) {
                Fraction whole = Fraction.of(sign * birthday);
                if (isBetween(low, whole, high)) return whole;
                for (int k = 1; k < birthday; k++) {
                    Fraction part = firstPart(low, high, k);
                    if (part != null && birthday(part) == birthday) return part;
                }
            }
        }
        throw new IllegalStateException("no number between");
    }

    /** The first one between the two that times 2 to the k is whole, and no k below will do; null if there is none. */
    private static Fraction firstPart(Fraction low, Fraction high, int k) {
        BigInteger parts = BigInteger.TWO.pow(k);
        BigInteger top = low.times(parts).floor().add(BigInteger.ONE);
        if (!top.testBit(0)) top = top.add(BigInteger.ONE);
        Fraction number = Fraction.of(top, parts);
        return isBetween(low, number, high) ? number : null;
    }

    private static int birthday(Fraction number) {
        Fraction size = number.withoutSign();
        int whole = size.floor().intValueExact();
        if (size.isWhole()) return whole;
        int k = 0;
        while (!size.times(BigInteger.TWO.pow(k)).isWhole()) k++;
        return whole + k + 1;
    }

    int birthday(int p, int k) {
        return canBe(p, k) ? tell(birthday(Fraction.of(p, k))) : none(5);
    }

    private static Fraction rowWorth(List<Integer> row) {
        Fraction worth = Fraction.ZERO;
        for (int i = row.size() - 1; i >= 0; i--) worth = Garden.branchWorth(row.get(i), worth);
        return worth;
    }

    private static List<Integer> stalk(Fraction number) {
        List<Integer> row = new ArrayList<>();
        if (number.sign() < 0) {
            for (int colour : stalk(number.less())) row.add(1 - colour);
            return row;
        }
        int whole = number.floor().intValueExact();
        for (int i = 0; i < whole; i++) row.add(0);
        if (number.isWhole()) return row;
        row.add(0);
        row.add(1);
        while (rowWorth(row).compareTo(number) != 0) row.add(rowWorth(row).compareTo(number) < 0 ? 0 : 1);
        return row;
    }

    int stalkAt(int p, int k, int i) {
        if (!canBe(p, k)) return none(5);
        List<Integer> row = stalk(Fraction.of(p, k));
        return isFrom(0, i, row.size() - 1) ? tell(row.get(i)) : none(8);
    }

    boolean stalkWorth(int tray, int n) {
        if (!isFrom(0, tray, 3)) return no(1);
        if (isMissing(tray)) return no(3);
        long[] row = trays.get(tray).row;
        if (n > row.length) return no(4);
        if (!isFrom(0, n, 20)) return no(5);
        List<Integer> colours = new ArrayList<>();
        for (int i = 0; i < n; i++) {
            if (row[i] != 0 && row[i] != 1) return no(5);
            colours.add((int) row[i]);
        }
        return tell(rowWorth(colours));
    }

    // ---- colourings, balance, luck

    private boolean canBeSet(int set) {
        if (set < 0 || set >= 1 << 20 || Integer.bitCount(set) > 10) return false;
        for (int i : members(set)) {
            if (!hasWorth(i)) return false;
        }
        return true;
    }

    private static List<Integer> members(int set) {
        List<Integer> all = new ArrayList<>();
        for (int i = 0; i < 20; i++) {
            if ((set >> i) % 2 == 1) all.add(i);
        }
        return all;
    }

    /** The sets of those that are RED, in all ways, the least as a number first; null, if set or number can't be. */
    private List<Integer> ways(int set, int p, int k) {
        if (!canBeSet(set) || !canBe(p, k)) return null;
        List<Integer> ways = new ArrayList<>();
        List<Integer> members = members(set);
        for (int choice = 0; choice < 1 << members.size(); choice++) {
            Garden painted = garden.copy();
            Set<Integer> reds = new HashSet<>();
            for (int i = 0; i < members.size(); i++) {
                int colour = choice >> i & 1;
                painted.colour.set(members.get(i), colour);
                if (colour == 1) reds.add(members.get(i));
            }
            if (painted.worth().compareTo(Fraction.of(p, k)) == 0) ways.add(Garden.set(reds));
        }
        ways.sort(null);
        return ways;
    }

    private static int blueWays(List<Integer> ways, int sprig) {
        int blue = 0;
        for (int reds : ways) {
            if (!members(reds).contains(sprig)) blue++;
        }
        return blue;
    }

    int colourings(int set, int p, int k) {
        List<Integer> ways = ways(set, p, k);
        return ways == null ? none(5) : tell(ways.size());
    }

    int firstRed(int set, int p, int k) {
        List<Integer> ways = ways(set, p, k);
        if (ways == null) return none(5);
        return ways.isEmpty() ? none(8) : tell(ways.get(0));
    }

    boolean oddsBlue(int set, int p, int k, int sprig) {
        if (!garden.has(sprig)) return no(2);
        List<Integer> ways = ways(set, p, k);
        if (ways == null) return no(5);
        if (ways.isEmpty()) return no(8);
        if (!members(set).contains(sprig)) return no(9);
        return tell(Fraction.of(blueWays(ways, sprig)).by(ways.size()));
    }

    int ask(int set, int p, int k) {
        List<Integer> ways = ways(set, p, k);
        if (ways == null) return none(5);
        if (ways.size() < 2) return none(8);
        int best = NONE;
        int least = 2000;
        for (int i : members(set)) {
            int blue = blueWays(ways, i);
            int greater = Math.max(blue, ways.size() - blue);
            if (greater < least) best = i;
            least = Math.min(least, greater);
        }
        return tell(best);
    }

    int balance() {
        Set<Integer> set = garden.balance();
        return set == null ? none(8) : tell(set.size());
    }

    int balanceSet() {
        Set<Integer> set = garden.balance();
        return set == null ? none(8) : tell(Garden.set(set));
    }

    boolean luck(int side) {
        if (!isSide(side)) return no(2);
        return garden.isLeftToLuck() ? tell(garden.luck(side)) : no(9);
    }

    // ---- SEASONS

    int live(int seed) {
        if (!isFrom(0, seed, 9999)) return none(5);
        if (seasons == null) return none(8);
        Year year = new Year(garden, seed);
        lived = year.live(seasons);
        return tell(year.steps);
    }

    int lived(int what) {
        if (!isFrom(0, what, 4)) return none(5);
        return lived == null ? none(8) : tell(lived[what]);
    }

    boolean mean(int seed, int many) {
        if (!isFrom(1, many, 20) || !isFrom(0, seed, 9999) || seed + many - 1 > 9999) return no(5);
        if (seasons == null) return no(8);
        Fraction sum = Fraction.ZERO;
        for (int i = 0; i < many; i++) {
            Year year = new Year(garden.copy(), seed + i);
            year.live(seasons);
            sum = sum.plus(year.garden.worth());
        }
        return tell(sum.by(many));
    }

    /** Thrown when SEASONS end ahead of their last STEP. */
    private static final class Over extends RuntimeException {
        private static final long serialVersionUID = 1;

        Over() {
            super(null, null, false, false);
        }
    }

    /** SEASONS as they are LIVED by a seed. */
    private static final class Year {
        final Garden garden;
        int steps = 0;
        private long s;
        private int missed = 0;
        private int cuts = 0;
        private int fallen = 0;
        private int grew = 0;
        private int left = 0;

        Year(Garden garden, int seed) {
            this.garden = garden;
            this.s = seed;
        }

        int[] live(List<Grammar.Step> all) {
            try {
                row(all);
            } catch (Over over) {
                // what came ahead of it stands
            }
            return new int[] {missed, cuts, fallen, grew, left};
        }

        private void row(List<Grammar.Step> all) {
            for (Grammar.Step step : all) {
                if (steps == 300) {
                    left = 1;
                    throw new Over();
                }
                steps++;
                one(step);
            }
        }

        private void one(Grammar.Step step) {
            switch (step.kind) {
                case Grammar.CUT: cut(step.a, step.b); break;
                case Grammar.TAKE:
                    if (garden.mayTake(step.b)) garden.take(step.a, step.b);
                    else missed++;
                    break;
                case Grammar.LESS:
                    if (garden.mayLessen(step.a, step.b)) garden.heaps.set(step.a, step.b);
                    else missed++;
                    break;
                case Grammar.GROW: grow(step.a, step.b); break;
                case Grammar.ANY: any(); break;
                case Grammar.WHEN: if (holds(step)) row(step.within); break;
                case Grammar.LOOP: for (int i = 0; i < step.a; i++) row(step.within); break;
                default: throw new Over();
            }
        }

        private void cut(int side, int sprig) {
            if (garden.mayCut(side, sprig)) {
                fallen += garden.cut(sprig);
                cuts++;
            } else {
                missed++;
            }
        }

        private void grow(int colour, int on) {
            if (garden.mayGrow(colour, on)) {
                garden.grow(colour, on);
                grew++;
            } else {
                missed++;
            }
        }

        private void any() {
            if (garden.sprigs() == 0) {
                missed++;
                return;
            }
            int side = draw(2);
            int sprig = draw(garden.sprigs());
            cut(side, sprig);
        }

        private int draw(int n) {
            s = (s * 2971 + 10987) % 65536;
            return (int) (s / 8 % n);
        }

        private boolean holds(Grammar.Step step) {
            switch (step.a) {
                case 0: return garden.stands(step.b);
                case 1: return compares(garden.worth().compareTo(Fraction.of(step.b)), step.c);
                case 2: return compares(garden.nimber() - step.b, step.c);
                default: return garden.beginnerWins(step.b);
            }
        }

        private static boolean compares(int difference, int comparison) {
            return comparison == 0 ? difference < 0 : comparison == 1 ? difference > 0 : difference == 0;
        }
    }

    // ---- MARKS

    int mark() {
        if (keptGardens.size() == 3) return none(7);
        keptGardens.add(garden.copy());
        keptSeasons.add(seasons);
        return tell(keptGardens.size());
    }

    int back() {
        if (keptGardens.isEmpty()) return none(8);
        int latest = keptGardens.size() - 1;
        garden = keptGardens.remove(latest);
        seasons = keptSeasons.remove(latest);
        return tell(latest);
    }
}
