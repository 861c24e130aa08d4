/** The boundaries in paragraph 2 and in the sentences of promises 18 to 25: what is done. */
public final class BoundsOfDeedsTest {
    private static final long[] NO_SIDES = Twins.outside(0, 1);
    /** 0 BLUE, 1 RED on 0, 2 BLUE on 1, 3 GREEN, 4 GREEN on 3, 5 RED, 6 BLUE on 5 (FELL), 7 GREEN (FELL). */
    private static final Twins RICH = Twins.rich();
    /** Twenty SPRIGS: 0 GREEN, 1 BLUE (FELL), the others RED. */
    private static final Twins FULL = Twins.of("sprig green;sprig blue;" + "sprig red;".repeat(18)).and(x -> x.cut(0, 1));

    public static void main(String[] args) {
        Sentences.run(BoundsOfDeedsTest.class);
    }

    /** Twins with this SCORE. */
    private static Twins score(int score) {
        Twins twins = Twins.of("sprig blue;sprig red;bet 20 20;");
        if (score == 0) return twins;
        return twins.and(x -> {
            int side = score > 0 ? 0 : 1;
            x.take(side, 0);
            for (int spent = Math.abs(score); spent < 20; spent++) x.spend(side);
        });
    }

    // ---- paragraph 2

    @Sentence("SIDE: LEFT (0), RIGHT (1).")
    static void paragraph2_sidesAre0And1() {
        RICH.takes(3, "bet", 0, 0);
        RICH.takes(1, "bet", 0, 1);
        RICH.takes(3, "cut", 0, 0);
        RICH.takes(1, "cut", 1, 5);
        RICH.takes(1, "take", 0, 1);
        RICH.takes(-8, "take", 1, 1);
        RICH.takes(0, "spend", 1);
        score(1).takes(0, "spend", 0);
        for (int side = 0; side <= 1; side++) {
            RICH.takes(side, "winner", side);
            RICH.asks(side, "winner", side);
        }
        String[] last = {"spend", "winner", "moves", "wins", "stop", "luck"};
        for (String call : last) RICH.refusesEach(2, NO_SIDES, 0, call, 0);
        RICH.refusesEach(2, NO_SIDES, 0, "cut", 0, 0);
        RICH.refusesEach(2, NO_SIDES, 0, "take", 0, 1);
        RICH.refusesEach(2, NO_SIDES, 0, "bestOf", 0, 0);
        RICH.refusesEach(2, NO_SIDES, 1, "bet", 0, 0);
    }

    @Sentence("LEFT a BLUE or GREEN one, RIGHT a RED or GREEN one")
    static void paragraph2_whichColoursASideMayCut() {
        Twins three = Twins.of("sprig blue;sprig red;sprig green;");
        three.takes(1, "cut", 0, 0);
        three.refuses(9, "cut", 0, 1);
        three.takes(1, "cut", 0, 2);
        three.refuses(9, "cut", 1, 0);
        three.takes(1, "cut", 1, 1);
        three.takes(1, "cut", 1, 2);
        three.takes(2, "moves", 0);
        three.takes(2, "moves", 1);
    }

    @Sentence("A MOVE of a SIDE: CUT a SPRIG that STANDS")
    static void paragraph2_aSprigThatFellIsNotCut() {
        Twins fell = Twins.of("sprig green;sprig green on 0;sprig green;").and(x -> x.cut(0, 0));
        for (int side = 0; side <= 1; side++) {
            fell.refuses(9, "cut", side, 0);
            fell.refuses(9, "cut", side, 1);
            fell.takes(1, "cut", side, 2);
            fell.takes(1, "moves", side);
        }
    }

    @Sentence("it and all that is on it, on that, and so on, FALLS.")
    static void paragraph2_andSoOn() {
        StringBuilder stalk = new StringBuilder("sprig green;");
        for (int i = 0; i < 19; i++) stalk.append("sprig green on ").append(i).append(';');
        Twins tall = Twins.of(stalk.toString());
        Check.taken(tall.made(), "all of it", tall.takes(20, "cut", 0, 0).many(3), 0);
        ShearHedge x = tall.takes(1, "cut", 1, 19);
        Check.taken(x, "the highest alone", x.many(3), (1 << 19) - 1);
        ShearHedge y = tall.takes(10, "cut", 1, 10);
        Check.taken(y, "the upper half", y.many(3), (1 << 10) - 1);
        ShearHedge wide = Twins.of("sprig blue;sprig blue;" + "sprig red on 0;sprig red on 1;".repeat(9)).takes(10, "cut", 0, 1);
        Check.taken(wide, "what is on another one stands", wide.many(3), 0b0101_0101_0101_0101_0101);
        ShearHedge twice = Twins.of("sprig blue;sprig red on 0;sprig blue on 1;sprig red on 0;").and(z -> z.cut(1, 1)).takes(2, "cut", 0, 0);
        Check.taken(twice, "what FELL does not FALL again", twice.many(3), 0);
    }

    @Sentence("TAKE a BET that is not TAKEN: the SCORE is more by what it is for LEFT, if LEFT does, less by what it is for RIGHT, if RIGHT does.")
    static void paragraph2_takenOnce() {
        Twins bet = Twins.of("bet 20 0;bet 0 20;");
        bet.takes(20, "take", 0, 0);
        bet.takes(0, "take", 1, 0);
        bet.takes(0, "take", 0, 1);
        bet.takes(-20, "take", 1, 1);
        Twins taken = bet.and(x -> x.take(1, 0));
        taken.refuses(9, "take", 0, 0);
        taken.refuses(9, "take", 1, 0);
        taken.takes(-20, "take", 1, 1);
        ShearHedge all = Twins.of("bet 20 1;".repeat(5)).made();
        for (int i = 0; i < 5; i++) Check.taken(all, "take(0, " + i + ")", all.take(0, i), 20 * i + 20);
        ShearHedge least = Twins.of("bet 1 20;".repeat(5)).made();
        for (int i = 0; i < 5; i++) Check.taken(least, "take(1, " + i + ")", least.take(1, i), -20 * i - 20);
    }

    @Sentence("LESSEN a HEAP to any number below.")
    static void paragraph2_anyNumberBelow() {
        for (int many = 0; many <= 15; many++) {
            Twins heap = Twins.of("heap " + many + ";");
            heap.takes(many, "moves", 0);
            heap.takes(many, "moves", 1);
            if (many > 0) heap.takes(many - 1, "less", 0, many - 1);
            if (many > 0) heap.takes(0, "less", 0, 0);
            heap.refuses(9, "less", 0, many);
            if (many < 15) heap.refuses(9, "less", 0, 15);
        }
    }

    @Sentence("SPEND: the SCORE is 1 less by LEFT, if it is above 0, 1 more by RIGHT, if it is below 0.")
    static void paragraph2_spendAboveAndBelow0() {
        score(1).takes(0, "spend", 0);
        score(2).takes(1, "spend", 0);
        score(0).refuses(9, "spend", 0);
        score(-1).refuses(9, "spend", 0);
        score(-1).takes(0, "spend", 1);
        score(-2).takes(-1, "spend", 1);
        score(0).refuses(9, "spend", 1);
        score(1).refuses(9, "spend", 1);
        int[] left = {1, 1, 2};
        int[] right = {2, 1, 1};
        for (int score = -1; score <= 1; score++) {
            // besides a SPRIG for each, and a BET while the SCORE is still 0
            int bet = score == 0 ? 1 : 0;
            score(score).takes(left[score + 1] + bet, "moves", 0);
            score(score).takes(right[score + 1] + bet, "moves", 1);
        }
    }

    @Sentence("By turns each makes one MOVE; who has none at his turn loses.")
    static void paragraph2_whoHasNoneLoses() {
        Twins nothing = Twins.of("");
        nothing.takes(1, "winner", 0);
        nothing.takes(0, "winner", 1);
        nothing.takes(0, "moves", 0);
        Twins others = Twins.of("sprig red;");
        others.takes(1, "winner", 0);
        others.takes(1, "winner", 1);
        others.takes(0, "moves", 0);
        Twins heap = Twins.of("heap 0;");
        heap.takes(1, "winner", 0);
        heap.takes(0, "winner", 1);
        Twins one = Twins.of("heap 1;");
        one.takes(0, "winner", 0);
        one.takes(1, "winner", 1);
    }

    // ---- cut, take, less, spend

    @Sentence("CUT: how many FELL (2; 9).")
    static void promise18_noSuchSideOrSprigIs2() {
        RICH.takes(3, "cut", 0, 0);
        RICH.refusesEach(2, NO_SIDES, 0, "cut", 0, 0);
        RICH.refusesEach(2, new long[] {Twins.MIN, -1, 8, 20, Twins.MAX}, 1, "cut", 0, 0);
        RICH.refusesEach(2, new long[] {Twins.MIN, -1, 8, 20, Twins.MAX}, 1, "cut", 1, 0);
        FULL.takes(1, "cut", 1, 19);
        FULL.refuses(2, "cut", 1, 20);
        Twins.of("").refuses(2, "cut", 0, 0);
    }

    @Sentence("(2; 9)")
    static void promise18_whatASideMayNotIs9() {
        RICH.refuses(9, "cut", 0, 1);
        RICH.refuses(9, "cut", 0, 5);
        RICH.refuses(9, "cut", 1, 0);
        RICH.refuses(9, "cut", 1, 2);
        RICH.refuses(9, "cut", 0, 6);
        RICH.refuses(9, "cut", 1, 6);
        RICH.refuses(9, "cut", 0, 7);
        RICH.refuses(9, "cut", 1, 7);
        RICH.takes(2, "cut", 0, 3);
        RICH.takes(2, "cut", 1, 3);
        RICH.takes(2, "cut", 1, 1);
        RICH.takes(1, "cut", 0, 2);
    }

    @Sentence("TAKE: the SCORE then; STATUS tells NONE from -1 (2; 9).")
    static void promise19_noSuchSideOrBetIs2() {
        RICH.takes(1, "take", 0, 1);
        RICH.takes(-8, "take", 1, 1);
        RICH.refusesEach(2, NO_SIDES, 0, "take", 0, 1);
        RICH.refusesEach(2, Twins.outside(0, 2), 1, "take", 0, 1);
        RICH.refusesEach(2, Twins.outside(0, 2), 1, "take", 1, 1);
        Twins full = Twins.of("bet 1 2;".repeat(5));
        full.takes(1, "take", 0, 4);
        full.refuses(2, "take", 0, 5);
        Twins.of("").refuses(2, "take", 0, 0);
    }

    @Sentence("STATUS tells NONE from -1")
    static void promise19_statusTellsNoneFromMinus1() {
        Twins.of("bet 0 1;").takes(-1, "take", 1, 0);
        Twins.of("bet 0 1;").takes(0, "take", 0, 0);
        Twins.of("bet 1 0;").takes(0, "take", 1, 0);
        Twins.of("bet 0 2;bet 1 0;").and(x -> x.take(1, 0)).takes(-1, "take", 0, 1);
    }

    @Sentence("(2; 9)")
    static void promise19_takenIs9() {
        for (int side = 0; side <= 1; side++) {
            RICH.refuses(9, "take", side, 0);
            RICH.refuses(9, "take", side, 2);
        }
        ShearHedge x = RICH.takes(1, "take", 0, 1);
        Check.taken(x, "many(4)", x.many(4), 7);
    }

    @Sentence("LESSEN a HEAP to n: NIMBER then (2; 5: n 0 to 15; 9: it is not above that).")
    static void promise20_noSuchHeapIs2() {
        RICH.takes(2 ^ 15, "less", 0, 0);
        RICH.takes(2 ^ 5 ^ 14, "less", 2, 14);
        RICH.refusesEach(2, Twins.outside(0, 2), 0, "less", 0, 0);
        Twins full = Twins.of("heap 1;".repeat(4));
        full.takes(1, "less", 3, 0);
        full.refuses(2, "less", 4, 0);
        Twins.of("").refuses(2, "less", 0, 0);
    }

    @Sentence("5: n 0 to 15")
    static void promise20_n0To15() {
        RICH.takes(2 ^ 5, "less", 2, 0);
        RICH.refusesEach(5, Twins.outside(0, 15), 1, "less", 2, 0);
        RICH.refusesEach(5, Twins.outside(0, 15), 1, "less", 1, 0);
        RICH.refuses(9, "less", 2, 15);
    }

    @Sentence("9: it is not above that")
    static void promise20_itIsNotAboveThat() {
        ShearHedge x = RICH.takes(2 ^ 4 ^ 15, "less", 0, 4);
        Check.taken(x, "heap(0)", x.heap(0), 4);
        RICH.refuses(9, "less", 0, 5);
        RICH.refuses(9, "less", 0, 6);
        RICH.refuses(9, "less", 0, 15);
        RICH.refuses(9, "less", 1, 0);
        RICH.refuses(9, "less", 1, 15);
        RICH.refuses(9, "less", 2, 15);
    }

    @Sentence("SPEND: the SCORE then; STATUS tells NONE from -1 (2; 9).")
    static void promise21_noSuchSideIs2() {
        RICH.refusesEach(2, NO_SIDES, 0, "spend", 0);
        score(3).refusesEach(2, NO_SIDES, 0, "spend", 0);
    }

    @Sentence("STATUS tells NONE from -1")
    static void promise21_statusTellsNoneFromMinus1() {
        score(-2).takes(-1, "spend", 1);
        score(-1).refuses(9, "spend", 0);
    }

    @Sentence("(2; 9)")
    static void promise21_ofASide() {
        RICH.takes(0, "spend", 1);
        RICH.refuses(9, "spend", 0);
        score(20).takes(19, "spend", 0);
        score(20).refuses(9, "spend", 1);
        score(0).refuses(9, "spend", 0);
        score(0).refuses(9, "spend", 1);
    }

    // ---- grow, paint, pile, offer

    @Sentence("A SPRIG more ON one (-1: on the ground): its number")
    static void promise22_onTheGroundAndOnTheLast() {
        ShearHedge x = RICH.takes(8, "grow", 0, -1);
        Check.refused(x, "on the ground", x.sprig(8, 1), 8);
        Check.taken(x, "it STANDS", x.many(3), 63 + 256);
        Check.taken(x, "on the last", x.grow(1, 8), 9);
        Check.taken(x, "sprig(9, 1)", x.sprig(9, 1), 8);
        Check.taken(x, "sprig(8, 3)", x.sprig(8, 3), 512);
        Twins.of("").takes(0, "grow", 2, -1);
    }

    @Sentence("2: on one that there is not")
    static void promise22_onOneThatThereIsNot() {
        RICH.refusesEach(2, new long[] {Twins.MIN, -2, 8, 19, 20, Twins.MAX}, 1, "grow", 0, 0);
        Twins.of("").refuses(2, "grow", 0, 0);
        Twins.of("sprig red;").takes(1, "grow", 0, 0);
    }

    @Sentence("5: a COLOUR 0 to 2")
    static void promise22_colours0To2() {
        for (int colour = 0; colour <= 2; colour++) {
            ShearHedge x = RICH.takes(8, "grow", colour, -1);
            Check.taken(x, "sprig(8, 0)", x.sprig(8, 0), colour);
        }
        RICH.refusesEach(5, Twins.outside(0, 2), 0, "grow", 0, -1);
        RICH.refusesEach(5, Twins.outside(0, 2), 0, "grow", 0, 0);
        RICH.refusesEach(5, Twins.outside(0, 2), 0, "grow", 0, 6);
    }

    @Sentence("7: a 21st")
    static void promise22_a21st() {
        Twins nineteen = Twins.of("sprig red;".repeat(19));
        ShearHedge x = nineteen.takes(19, "grow", 0, -1);
        Check.refused(x, "a 21st", x.grow(0, -1), 7);
        Twins twenty = nineteen.and(y -> y.grow(0, 18));
        for (int colour = 0; colour <= 2; colour++) twenty.refuses(7, "grow", colour, -1);
        twenty.refuses(7, "grow", 0, 19);
        FULL.refuses(7, "grow", 2, -1);
    }

    @Sentence("9: that FELL, by its COLOUR")
    static void promise22_thatFellOrByItsColour() {
        RICH.refuses(9, "grow", 0, 6);
        RICH.refuses(9, "grow", 1, 6);
        RICH.refuses(9, "grow", 2, 7);
        RICH.refuses(9, "grow", 2, 0);
        RICH.refuses(9, "grow", 2, 1);
        RICH.refuses(9, "grow", 0, 3);
        RICH.refuses(9, "grow", 1, 4);
        RICH.takes(8, "grow", 0, 0);
        RICH.takes(8, "grow", 1, 0);
        RICH.takes(8, "grow", 0, 1);
        RICH.takes(8, "grow", 1, 1);
        RICH.takes(8, "grow", 2, 4);
    }

    @Sentence("A BLUE SPRIG is RED, a RED one BLUE: its COLOUR then (2; 9: it is GREEN, it FELL).")
    static void promise23_noSuchSprigIs2() {
        ShearHedge x = RICH.takes(1, "paint", 0);
        Check.taken(x, "sprig(0, 0)", x.sprig(0, 0), 1);
        Check.taken(x, "back again", x.paint(0), 0);
        RICH.takes(0, "paint", 1);
        RICH.refusesEach(2, new long[] {Twins.MIN, -1, 8, 20, Twins.MAX}, 0, "paint", 0);
        FULL.takes(0, "paint", 19);
        FULL.refuses(2, "paint", 20);
        Twins.of("").refuses(2, "paint", 0);
    }

    @Sentence("9: it is GREEN, it FELL")
    static void promise23_itIsGreenOrItFell() {
        RICH.refuses(9, "paint", 3);
        RICH.refuses(9, "paint", 4);
        RICH.refuses(9, "paint", 6);
        RICH.refuses(9, "paint", 7);
        RICH.takes(0, "paint", 5);
    }

    @Sentence("A HEAP more (0 to 15): its number (5; 7: a fifth).")
    static void promise24_0To15() {
        for (int n : new int[] {0, 1, 14, 15}) {
            ShearHedge x = RICH.takes(3, "pile", n);
            Check.taken(x, "heap(3)", x.heap(3), n);
        }
        RICH.refusesEach(5, Twins.outside(0, 15), 0, "pile", 0);
        Twins.of("").takes(0, "pile", 15);
    }

    @Sentence("7: a fifth")
    static void promise24_aFifth() {
        ShearHedge x = RICH.takes(3, "pile", 1);
        Check.refused(x, "a fifth", x.pile(1), 7);
        Twins full = RICH.and(y -> y.pile(2));
        full.refuses(7, "pile", 0);
        full.refuses(7, "pile", 15);
        full.and(y -> y.less(3, 0)).refuses(7, "pile", 1);
    }

    @Sentence("A BET more (for LEFT, for RIGHT, 0 to 20, not both 0): its number (5; 7: a sixth).")
    static void promise25_0To20NotBoth0() {
        long[][] fine = {{0, 1}, {1, 0}, {0, 20}, {20, 0}, {20, 20}};
        for (long[] bet : fine) {
            ShearHedge x = RICH.takes(3, "offer", bet);
            Check.taken(x, "bet(3, 0)", x.bet(3, 0), bet[0]);
            Check.taken(x, "bet(3, 1)", x.bet(3, 1), bet[1]);
            Check.taken(x, "it is not TAKEN", x.many(4), 5);
        }
        RICH.refusesEach(5, Twins.outside(0, 20), 0, "offer", 1, 1);
        RICH.refusesEach(5, Twins.outside(0, 20), 1, "offer", 1, 1);
        RICH.refuses(5, "offer", 0, 0);
        RICH.refuses(5, "offer", -1, 1);
        RICH.refuses(5, "offer", 1, -1);
        RICH.refuses(5, "offer", -1, 20);
        RICH.refuses(5, "offer", Twins.MAX, Twins.MAX);
        RICH.refuses(5, "offer", Twins.MIN, Twins.MIN);
    }

    @Sentence("7: a sixth")
    static void promise25_aSixth() {
        Twins four = RICH.and(x -> x.offer(5, 5));
        ShearHedge x = four.takes(4, "offer", 6, 6);
        Check.refused(x, "a sixth", x.offer(7, 7), 7);
        Twins full = four.and(y -> y.offer(6, 6));
        full.refuses(7, "offer", 1, 0);
        full.refuses(7, "offer", 20, 20);
        full.and(y -> y.take(0, 4)).refuses(7, "offer", 1, 0);
    }
}
