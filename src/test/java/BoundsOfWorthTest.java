/** The boundaries in paragraph 3 and in the sentences of promises 26 to 38: what it is worth, and who wins. */
public final class BoundsOfWorthTest {
    private static final int MIN = Twins.MIN;
    private static final int MAX = Twins.MAX;
    private static final long[] NO_SIDES = Twins.outside(0, 1);
    private static final long[] NO_SPRIGS = {MIN, -1, 8, 20, MAX};
    /** 0 BLUE, 1 RED on 0, 2 BLUE on 1, 3 GREEN, 4 GREEN on 3, 5 RED, 6 BLUE on 5 (FELL), 7 GREEN (FELL). */
    private static final Twins RICH = Twins.rich();

    public static void main(String[] args) {
        Sentences.run(BoundsOfWorthTest.class);
    }

    private static void worth(String hedge, long top, long bottom) {
        Twins twins = Twins.of(hedge);
        twins.tells(top, bottom, "worth");
        twins.asks(1, "worth");
    }

    /** OUTCOME, and who wins if LEFT begins, if RIGHT begins. */
    private static void outcome(Twins twins, int outcome) {
        twins.asks(outcome, "outcome");
        twins.takes(outcome == 0 || outcome == 2 ? 0 : 1, "winner", 0);
        twins.takes(outcome == 1 || outcome == 2 ? 1 : 0, "winner", 1);
    }

    private static void best(Twins twins, int side, int kind, int place, int left) {
        twins.asks(kind, "bestOf", side, 0);
        twins.takes(place, "bestOf", side, 1);
        twins.takes(left, "bestOf", side, 2);
    }

    // ---- paragraph 3: WORTH, NIM

    @Sentence("NUMBERS here are wholes and halves of halves.")
    static void paragraph3_halvesOfHalvesExactly() {
        // of the most that is added up each part is still told
        Twins.of("sprig blue;" + "sprig red on 0;".repeat(18) + "bet 20 0;").and(x -> x.take(0, 0)).tells((20L << 18) + 1, 1 << 18, "worth");
        Twins.of("sprig blue;" + "sprig red on 0;".repeat(9) + "sprig red;" + "sprig blue on 10;".repeat(9)).tells(0, 1, "worth");
        Twins.of("sprig blue;" + "sprig red on 0;".repeat(9) + "sprig red;" + "sprig blue on 10;".repeat(8)).tells(-1, 1 << 9, "worth");
    }

    @Sentence("WORTH of a BRANCH (a SPRIG that STANDS, BLUE or RED, with all that is on it): of the WORTHS of the BRANCHES right on it together, x: "
        + "if it is BLUE, (x + n) by 2 to the n less 1, as n is the least of 1, 2 .. by which x + n is above 1;")
    static void paragraph3_theLeastNOfABlueOne() {
        worth("sprig blue;", 1, 1);
        worth("sprig blue;sprig blue on 0;", 2, 1);
        worth("sprig blue;sprig blue on 0;sprig red on 1;", 3, 2);
        // x a little above 0, 0 and a little below
        worth("sprig blue;sprig blue on 0;sprig red on 1;sprig red on 2;", 5, 4);
        worth("sprig blue;sprig blue on 0;sprig red on 0;", 1, 1);
        worth("sprig blue;sprig red on 0;sprig blue on 1;sprig blue on 2;", 7, 8);
        // x 1, -1, -2 and between these
        worth("sprig blue;sprig red on 0;", 1, 2);
        worth("sprig blue;sprig red on 0;sprig blue on 1;", 3, 4);
        worth("sprig blue;sprig red on 0;sprig red on 0;", 1, 4);
        worth("sprig blue;sprig red on 0;sprig red on 1;", 1, 4);
        worth("sprig blue;sprig red on 0;sprig red on 1;sprig blue on 2;", 3, 8);
    }

    @Sentence("if it is RED, the same of less x, with the other sign.")
    static void paragraph3_aRedOne() {
        worth("sprig red;", -1, 1);
        worth("sprig red;sprig red on 0;", -2, 1);
        worth("sprig red;sprig blue on 0;", -1, 2);
        worth("sprig red;sprig blue on 0;sprig red on 0;", -1, 1);
        worth("sprig red;sprig red on 0;sprig blue on 1;sprig blue on 2;", -5, 4);
        worth("sprig red;sprig blue on 0;sprig red on 1;sprig red on 2;", -7, 8);
        worth("sprig red;sprig blue on 0;sprig blue on 0;", -1, 4);
    }

    @Sentence("WORTH of the HEDGE: the SCORE and the WORTHS of all BRANCHES on the ground, together.")
    static void paragraph3_worthFromOneEndToTheOther() {
        worth("", 0, 1);
        worth("sprig green;heap 15;bet 20 0;", 0, 1);
        worth("sprig blue;".repeat(20), 20, 1);
        worth("sprig red;".repeat(20), -20, 1);
        worth("sprig blue;" + "sprig red on 0;".repeat(19), 1, 1 << 19);
        worth("sprig red;" + "sprig blue on 0;".repeat(19), -1, 1 << 19);
        Twins most = Twins.of("bet 20 20;".repeat(5) + "sprig blue;".repeat(20)).and(x -> {
            for (int i = 0; i < 5; i++) x.take(0, i);
        });
        most.tells(120, 1, "worth");
        Twins least = Twins.of("bet 20 20;".repeat(5) + "sprig red;".repeat(20)).and(x -> {
            for (int i = 0; i < 5; i++) x.take(1, i);
        });
        least.tells(-120, 1, "worth");
        // what FELL is worth nothing
        Twins.of("sprig blue;sprig red on 0;sprig blue;bet 2 1;").and(x -> x.cut(0, 0)).tells(1, 1, "worth");
    }

    @Sentence("NIM of a GREEN BRANCH: 1 more than the NIMS of the BRANCHES right on it, together by exclusive or;")
    static void paragraph3_nims() {
        StringBuilder stalk = new StringBuilder("sprig green;");
        for (int i = 0; i < 19; i++) stalk.append("sprig green on ").append(i).append(';');
        Twins tall = Twins.of(stalk.toString());
        for (int i = 0; i < 20; i++) tall.asks(20 - i, "nimOf", i);
        tall.asks(20, "nimber");
        Twins.of("sprig green;sprig green on 0;sprig green on 0;").takes(1, "nimOf", 0);
        Twins.of("sprig green;sprig green on 0;sprig green on 1;sprig green on 0;").takes(1 + (2 ^ 1), "nimOf", 0);
        RICH.takes(2, "nimOf", 3);
        RICH.and(x -> x.cut(1, 4)).takes(1, "nimOf", 3);
    }

    @Sentence("NIMBER of the HEDGE: those of all GREEN ones on the ground and of all HEAPS, by exclusive or.")
    static void paragraph3_nimberFrom0To31() {
        Twins.of("").takes(0, "nimber");
        Twins.of("sprig blue;sprig red;bet 3 4;").takes(0, "nimber");
        Twins.of("heap 15;").takes(15, "nimber");
        Twins.of("heap 15;heap 15;heap 0;heap 0;").takes(0, "nimber");
        StringBuilder stalk = new StringBuilder("sprig green;");
        for (int i = 0; i < 15; i++) stalk.append("sprig green on ").append(i).append(';');
        Twins.of(stalk + "heap 15;").takes(31, "nimber");
        Twins.of(stalk + "heap 15;").and(x -> x.cut(0, 15)).takes(0, "nimber");
    }

    // ---- paragraph 3: OUTCOME, STOP, HEAT

    @Sentence("OUTCOME: 0 LEFT wins, 1 RIGHT wins, whoever begins, 2 who begins wins, 3 who does not, as both play their best.")
    static void paragraph3_outcomes() {
        outcome(Twins.of("bet 1 0;bet 1 0;"), 0);
        outcome(Twins.of("bet 0 1;bet 0 1;"), 1);
        outcome(Twins.of("bet 1 0;"), 2);
        outcome(Twins.of("bet 1 1;bet 1 1;"), 3);
        outcome(Twins.of("bet 1 1;sprig blue;"), 2);
        outcome(Twins.of("bet 1 1;sprig blue;heap 1;"), 0);
        outcome(Twins.of("bet 1 1;sprig blue;sprig blue;"), 0);
        outcome(Twins.of("bet 0 1;heap 1;"), 1);
        outcome(Twins.of("bet 0 1;sprig blue;sprig red on 0;"), 2);
    }

    @Sentence("(With all BETS TAKEN: by the sign of WORTH; if that is 0, who begins wins, if NIMBER is not 0, else who does not.)")
    static void paragraph3_withAllBetsTaken() {
        Twins taken = Twins.of("bet 1 1;");
        outcome(taken.and(x -> x.take(0, 0)), 0);
        outcome(taken.and(x -> x.take(1, 0)), 1);
        outcome(taken.and(x -> x.take(0, 0)).and(x -> x.spend(0)), 3);
        outcome(taken.and(x -> x.take(0, 0)).and(x -> x.spend(0)).and(x -> x.pile(1)), 2);
        outcome(Twins.of(""), 3);
        outcome(Twins.of("heap 1;"), 2);
        outcome(Twins.of("heap 15;heap 15;"), 3);
        outcome(Twins.of("heap 15;sprig blue;sprig red;"), 2);
        // the least WORTH that there is, with the most of NIMBER
        outcome(Twins.of("sprig blue;" + "sprig red on 0;".repeat(18) + "sprig green;heap 15;"), 0);
        outcome(Twins.of("sprig red;" + "sprig blue on 0;".repeat(18) + "sprig green;heap 15;"), 1);
    }

    @Sentence("the HOTTEST first (for LEFT and for RIGHT together the most, of several the first)")
    static void paragraph3_ofSeveralTheFirst() {
        Twins.of("bet 3 3;bet 6 0;bet 0 6;").takes(0, "hottest");
        Twins.of("bet 3 2;bet 6 0;bet 0 6;").takes(1, "hottest");
        Twins.of("bet 3 2;bet 5 0;bet 0 6;").takes(2, "hottest");
        Twins.of("bet 0 1;bet 1 0;").takes(0, "hottest");
        Twins.of("bet 3 3;bet 6 0;bet 0 6;").and(x -> x.take(0, 0)).takes(1, "hottest");
        Twins.of("bet 20 20;bet 20 19;bet 20 20;").and(x -> x.take(0, 0)).takes(2, "hottest");
    }

    @Sentence("STOP of a SIDE: from that on by turns all BETS are TAKEN, the HOTTEST first (for LEFT and for RIGHT together the most, "
        + "of several the first): the WORTH then.")
    static void paragraph3_stopOfNoneAndOfAll() {
        Twins none = Twins.of("sprig blue;sprig red on 0;heap 3;");
        none.tells(1, 2, "stop", 0);
        none.tells(1, 2, "stop", 1);
        Twins all = Twins.of("bet 20 20;".repeat(5));
        all.tells(20, 1, "stop", 0);
        all.tells(-20, 1, "stop", 1);
        Twins left = Twins.of("bet 20 0;".repeat(5));
        left.tells(60, 1, "stop", 0);
        left.tells(40, 1, "stop", 1);
        left.and(x -> x.take(1, 4)).tells(40, 1, "stop", 0);
        left.and(x -> {
            for (int i = 0; i < 5; i++) x.take(0, i);
        }).tells(100, 1, "stop", 1);
    }

    @Sentence("HEAT of a BET: half of both together; MIDDLE: half of what it is for LEFT less for RIGHT.")
    static void paragraph3_heatAndMiddle() {
        Twins bets = Twins.of("bet 0 1;bet 1 0;bet 20 20;bet 0 20;bet 20 0;");
        bets.tells(1, 2, "heat", 0, 0);
        bets.tells(-1, 2, "heat", 0, 1);
        bets.tells(1, 2, "heat", 1, 1);
        bets.tells(20, 1, "heat", 2, 0);
        bets.tells(0, 1, "heat", 2, 1);
        bets.tells(-10, 1, "heat", 3, 1);
        bets.tells(10, 1, "heat", 4, 1);
        bets.tells(10, 1, "heat", 4, 0);
    }

    // ---- worth, worthOf, nimber, nimOf, compare

    @Sentence("The FRACTION is WORTH of the HEDGE.")
    static void promise26_worth() {
        RICH.tells(-5, 4, "worth");
        RICH.asks(1, "worth");
        Twins.of("").tells(0, 1, "worth");
    }

    @Sentence("The FRACTION is WORTH of a BRANCH (2; 9: it is GREEN, it FELL).")
    static void promise27_noSuchSprigIs2() {
        RICH.tells(3, 4, "worthOf", 0);
        RICH.tells(-1, 1, "worthOf", 5);
        RICH.asks(1, "worthOf", 0);
        RICH.refusesEach(2, NO_SPRIGS, 0, "worthOf", 0);
        Twins full = Twins.of("sprig red;".repeat(20));
        full.tells(-1, 1, "worthOf", 19);
        full.refuses(2, "worthOf", 20);
        Twins.of("").refuses(2, "worthOf", 0);
    }

    @Sentence("9: it is GREEN, it FELL")
    static void promise27_itIsGreenOrItFell() {
        RICH.refuses(9, "worthOf", 3);
        RICH.refuses(9, "worthOf", 4);
        RICH.refuses(9, "worthOf", 6);
        RICH.refuses(9, "worthOf", 7);
        RICH.tells(1, 1, "worthOf", 2);
    }

    @Sentence("NIMBER of the HEDGE.")
    static void promise28_nimber() {
        RICH.asks(2 ^ 5 ^ 15, "nimber");
        Twins.of("").asks(0, "nimber");
    }

    @Sentence("NIM of a GREEN BRANCH (2; 9: it is not GREEN, it FELL).")
    static void promise29_noSuchSprigIs2() {
        RICH.asks(2, "nimOf", 3);
        RICH.takes(1, "nimOf", 4);
        RICH.refusesEach(2, NO_SPRIGS, 0, "nimOf", 0);
        Twins full = Twins.of("sprig green;".repeat(20));
        full.takes(1, "nimOf", 19);
        full.refuses(2, "nimOf", 20);
        Twins.of("").refuses(2, "nimOf", 0);
    }

    @Sentence("9: it is not GREEN, it FELL")
    static void promise29_itIsNotGreenOrItFell() {
        RICH.refuses(9, "nimOf", 0);
        RICH.refuses(9, "nimOf", 1);
        RICH.refuses(9, "nimOf", 6);
        RICH.refuses(9, "nimOf", 7);
    }

    @Sentence("0 if the WORTH of the first BRANCH is less than that of the second one, 1 if it is the same, 2 if it is more")
    static void promise30_lessTheSameMore() {
        StringBuilder text = new StringBuilder("sprig blue;");
        // 1 by 2 to the 8, 1 by 2 to the 9, 1 by 2 to the 8 again
        text.append("sprig red on 0;".repeat(8)).append("sprig blue;").append("sprig red on 9;".repeat(7)).append("sprig red;sprig blue;");
        Twins near = Twins.of(text.toString());
        near.asks(0, "compare", 0, 9);
        near.takes(2, "compare", 9, 0);
        near.takes(1, "compare", 0, 0);
        near.takes(1, "compare", 1, 17);
        near.takes(0, "compare", 17, 18);
        near.takes(2, "compare", 18, 17);
    }

    @Sentence("(2; 9: one is GREEN, FELL)")
    static void promise30_noSuchSprigIs2() {
        RICH.takes(2, "compare", 0, 1);
        RICH.refusesEach(2, NO_SPRIGS, 0, "compare", 0, 1);
        RICH.refusesEach(2, NO_SPRIGS, 1, "compare", 0, 1);
        RICH.refuses(2, "compare", -1, 8);
    }

    @Sentence("9: one is GREEN, FELL")
    static void promise30_oneIsGreenOrFell() {
        for (int none : new int[] {3, 4, 6, 7}) {
            RICH.refuses(9, "compare", none, 0);
            RICH.refuses(9, "compare", 0, none);
            RICH.refuses(9, "compare", none, none);
        }
    }

    // ---- outcome, winner, moves, wins, bestOf

    @Sentence("OUTCOME.")
    static void promise31_outcome() {
        RICH.asks(2, "outcome");
        RICH.and(x -> x.take(0, 1)).takes(0, "outcome");
        RICH.and(x -> x.take(1, 1)).takes(1, "outcome");
        Twins.of("").asks(3, "outcome");
    }

    @Sentence("Which SIDE wins, if a SIDE begins (2).")
    static void promise32_noSuchSideIs2() {
        RICH.asks(0, "winner", 0);
        RICH.asks(1, "winner", 1);
        RICH.refusesEach(2, NO_SIDES, 0, "winner", 0);
        Twins.of("").refusesEach(2, NO_SIDES, 0, "winner", 0);
    }

    @Sentence("How many MOVES a SIDE has (2).")
    static void promise33_noneAndAllOfThem() {
        // LEFT may cut 0, 2, 3, 4, RIGHT 1, 3, 4, 5; 5 and 15 LESSENINGS, one BET, RIGHT may SPEND
        RICH.asks(4 + 20 + 1, "moves", 0);
        RICH.asks(4 + 20 + 1 + 1, "moves", 1);
        Twins.of("").takes(0, "moves", 0);
        Twins most = Twins.of("sprig green;".repeat(20) + "heap 15;".repeat(4) + "bet 1 1;".repeat(5));
        most.takes(85, "moves", 0);
        most.and(x -> x.take(1, 4)).takes(85, "moves", 1);
        most.and(x -> x.take(1, 4)).takes(84, "moves", 0);
    }

    @Sentence("(2)")
    static void promise33_noSuchSideIs2() {
        RICH.refusesEach(2, NO_SIDES, 0, "moves", 0);
    }

    @Sentence("How many of these win (the other SIDE begins then, and loses) (2).")
    static void promise34_noneAndAllOfThem() {
        RICH.asks(1, "wins", 0);
        RICH.asks(1, "wins", 1);
        Twins.of("").takes(0, "wins", 0);
        Twins lost = Twins.of("heap 3;heap 3;sprig green;sprig green;");
        lost.takes(0, "wins", 0);
        lost.takes(8, "moves", 0);
        Twins won = Twins.of("sprig red;sprig red;bet 1 1;heap 2;heap 1;").and(x -> x.take(1, 0));
        won.takes(6, "moves", 1);
        won.takes(6, "wins", 1);
        won.takes(0, "wins", 0);
        // SPEND brings the SCORE to 0: who has none of the HEAP left wins then
        Twins spend = Twins.of("bet 1 1;heap 1;");
        for (int i = 0; i <= 1; i++) {
            int side = i;
            Twins one = spend.and(x -> x.take(side, 0));
            one.takes(2, "moves", side);
            one.asks(1, "wins", side);
            best(one, side, 2, 0, 0);
            one.and(x -> x.less(0, 0)).takes(1, "wins", side);
        }
        // to WORTH 0 a MOVE wins if NIMBER is 0 then
        Twins.of("sprig blue;").takes(1, "wins", 0);
        Twins.of("sprig blue;heap 1;").takes(1, "wins", 0);
        Twins.of("heap 7;heap 4;sprig green;").takes(1, "wins", 1);
    }

    @Sentence("(2)")
    static void promise34_noSuchSideIs2() {
        RICH.refusesEach(2, NO_SIDES, 0, "wins", 0);
    }

    @Sentence("Of the first MOVE that wins (CUTS by SPRIGS, then TAKINGS by BETS, then LESSENINGS by HEAPS, to the least first, then SPEND)")
    static void promise35_theFirstThatWins() {
        best(Twins.of("sprig blue;sprig blue;sprig blue;bet 1 0;heap 1;"), 0, 0, 0, 0);
        best(Twins.of("sprig blue;sprig green;sprig red;bet 9 9;"), 1, 1, 0, 0);
        best(Twins.of("sprig blue;sprig green;sprig red;sprig red;sprig red;bet 0 9;"), 1, 0, 1, 0);
        best(Twins.of("bet 1 1;bet 3 3;bet 3 3;bet 2 2;"), 1, 1, 1, 0);
        best(Twins.of("heap 0;heap 7;heap 3;"), 0, 2, 1, 3);
        best(Twins.of("heap 15;"), 1, 2, 0, 0);
        best(Twins.of("heap 0;heap 14;heap 0;heap 15;"), 0, 2, 3, 14);
        best(Twins.of("heap 3;bet 2 2;"), 1, 1, 0, 0);
        Twins spends = Twins.of("bet 3 3;").and(x -> x.take(0, 0));
        best(spends, 0, 3, 0, 0);
        best(spends.and(x -> x.pile(2)), 0, 2, 0, 0);
    }

    @Sentence("what 0: 0 CUT, 1 TAKE, 2 LESSEN, 3 SPEND, 1: the SPRIG, BET, HEAP (0 for SPEND), 2: to what a HEAP is LESSENED (0 for others)")
    static void promise35_what0To2() {
        best(RICH, 0, 1, 1, 0);
        best(RICH, 1, 1, 1, 0);
        RICH.refusesEach(5, Twins.outside(0, 2), 1, "bestOf", 0, 0);
        RICH.refusesEach(5, Twins.outside(0, 2), 1, "bestOf", 1, 0);
    }

    @Sentence("(2; 5; 8: none wins)")
    static void promise35_noneWins() {
        Twins lost = Twins.of("heap 3;heap 3;bet 1 1;bet 1 1;");
        for (int what = 0; what <= 2; what++) {
            lost.refuses(8, "bestOf", 0, what);
            lost.refuses(8, "bestOf", 1, what);
            Twins.of("").refuses(8, "bestOf", 0, what);
        }
        Twins one = Twins.of("sprig blue;sprig blue;");
        one.takes(0, "bestOf", 0, 0);
        one.refuses(8, "bestOf", 1, 0);
    }

    @Sentence("(2; 5; 8: none wins)")
    static void promise35_noSuchSideIs2() {
        for (int what = 0; what <= 2; what++) RICH.refusesEach(2, NO_SIDES, 0, "bestOf", 0, what);
    }

    // ---- stop, hottest, heat

    @Sentence("The FRACTION is STOP of a SIDE (2).")
    static void promise36_noSuchSideIs2() {
        RICH.tells(3, 4, "stop", 0);
        RICH.tells(-33, 4, "stop", 1);
        RICH.asks(1, "stop", 0);
        RICH.refusesEach(2, NO_SIDES, 0, "stop", 0);
        Twins.of("").tells(0, 1, "stop", 1);
    }

    @Sentence("The HOTTEST BET that is not TAKEN (8: there is none).")
    static void promise37_thereIsNone() {
        RICH.asks(1, "hottest");
        RICH.and(x -> x.take(0, 1)).refuses(8, "hottest");
        Twins.of("").refuses(8, "hottest");
        Twins full = Twins.of("bet 1 0;bet 1 1;bet 1 0;bet 0 1;bet 1 2;");
        int[] due = {4, 1, 0, 2, 3};
        ShearHedge x = full.made();
        for (int i = 0; i < 5; i++) {
            Check.taken(x, "hottest()", x.hottest(), due[i]);
            x.take(1, due[i]);
        }
        Check.refused(x, "hottest()", x.hottest(), 8);
    }

    @Sentence("The FRACTION is HEAT (what 0), MIDDLE (1) of a BET (2; 5).")
    static void promise38_noSuchBetIs2WhatIs5() {
        RICH.tells(2, 1, "heat", 0, 0);
        RICH.tells(-5, 2, "heat", 1, 1);
        RICH.tells(4, 1, "heat", 2, 0);
        RICH.asks(1, "heat", 1, 0);
        RICH.refusesEach(2, Twins.outside(0, 2), 0, "heat", 0, 0);
        RICH.refusesEach(5, Twins.outside(0, 1), 1, "heat", 0, 0);
        RICH.refusesEach(5, Twins.outside(0, 1), 1, "heat", 2, 0);
        Twins.of("bet 1 1;".repeat(5)).tells(1, 1, "heat", 4, 0);
        Twins.of("bet 1 1;".repeat(5)).refuses(2, "heat", 5, 0);
        Twins.of("").refuses(2, "heat", 0, 0);
    }
}
