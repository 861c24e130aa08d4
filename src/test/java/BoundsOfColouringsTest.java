/** The boundaries in paragraph 3 and in the sentences of promises 43 to 49: COLOURINGS, BALANCE, LUCK. */
public final class BoundsOfColouringsTest {
    private static final int MIN = Twins.MIN;
    private static final int MAX = Twins.MAX;
    /** 0 BLUE, 1 RED on 0, 2 BLUE on 1, 3 GREEN, 4 GREEN on 3, 5 RED, 6 BLUE on 5 (FELL), 7 GREEN (FELL). */
    private static final Twins RICH = Twins.rich();
    /** Sets that can't be, of RICH: SPRIGS that are GREEN, that FELL, that there are not, numbers that are no set. */
    private static final long[] NO_SETS = {MIN, -1, 8, 16, 64, 128, 256, 1 << 19, 1 << 20, 1 << 30, MAX, 1 + 8, 1 + 64, 1 + 256};
    private static final Twins TEN = Twins.of("sprig blue;".repeat(10));
    private static final Twins TWENTY = Twins.of("sprig blue;".repeat(20));
    private static final Twins FOUR = Twins.of("sprig blue;".repeat(4) + "sprig green;");

    public static void main(String[] args) {
        Sentences.run(BoundsOfColouringsTest.class);
    }

    // ---- COLOURINGS

    @Sentence("COLOURINGS of a set of SPRIGS (1 for SPRIG 0 ..; at most 10, that STAND, BLUE or RED) by a number")
    static void paragraph3_setsOfAtMost10() {
        TEN.asks(1, "colourings", 1023, 10, 0);
        TEN.takes(252, "colourings", 1023, 0, 0);
        TWENTY.takes(1, "colourings", 1023 << 10, 20, 0);
        TWENTY.takes(10, "colourings", 1023 << 10, 18, 0);
        TWENTY.refuses(5, "colourings", 2047, 20, 0);
        TWENTY.refuses(5, "colourings", 2047 << 9, 20, 0);
        TWENTY.refuses(5, "colourings", (1 << 20) - 1, 20, 0);
        TWENTY.takes(1, "colourings", 1 << 19, 20, 0);
        TWENTY.refuses(5, "colourings", 1 << 20, 20, 0);
        RICH.takes(1, "colourings", 1 + 2 + 4 + 32, -5, 2);
        RICH.refusesEach(5, NO_SETS, 0, "colourings", 0, 0, 0);
    }

    @Sentence("in how many ways these can be BLUE or RED so that the HEDGE has just that WORTH (all else as it is)")
    static void paragraph3_justThatWorth() {
        RICH.takes(1, "colourings", 0, -5, 2);
        RICH.takes(0, "colourings", 0, -(5 << 18) + 1, 20);
        RICH.takes(0, "colourings", 0, -(5 << 18) - 1, 20);
        RICH.takes(1, "colourings", 0, -(5 << 18), 20);
        // 5 RED, BLUE: 2 more
        RICH.takes(1, "colourings", 32, 3, 2);
        RICH.takes(1, "colourings", 32, -5, 2);
        RICH.takes(0, "colourings", 32, 0, 0);
        ShearHedge x = RICH.takes(0, "colourings", 32, 0, 0);
        Check.taken(x, "COLOURS are as they were", x.sprig(5, 0), 1);
        Check.tells(x, "WORTH, too", x.worth(), -5, 4);
    }

    @Sentence("the first: the set of those that are RED, the least as a number.")
    static void paragraph3_theFirst() {
        FOUR.takes(0, "firstRed", 15, 4, 0);
        FOUR.takes(1, "firstRed", 15, 2, 0);
        FOUR.takes(3, "firstRed", 15, 0, 0);
        FOUR.takes(7, "firstRed", 15, -2, 0);
        FOUR.takes(15, "firstRed", 15, -4, 0);
        FOUR.takes(2, "firstRed", 14, 2, 0);
        FOUR.takes(8, "firstRed", 8, 2, 0);
        FOUR.takes(2 + 8, "firstRed", 2 + 8, 0, 0);
        TWENTY.takes(1 << 19, "firstRed", 1 << 19, 18, 0);
        TWENTY.takes(1 << 10, "firstRed", 1023 << 10, 18, 0);
        // what is RED and not of the set is not told
        RICH.takes(0, "firstRed", 1, -5, 2);
        RICH.takes(32, "firstRed", 1 + 32, -5, 2);
    }

    @Sentence("ODDS THAT one is BLUE: in how many of these ways it is, by all.")
    static void paragraph3_oddsFrom0To1() {
        FOUR.tells(0, 1, "oddsBlue", 15, -4, 0, 3);
        FOUR.tells(1, 4, "oddsBlue", 15, -2, 0, 3);
        FOUR.tells(1, 2, "oddsBlue", 15, 0, 0, 3);
        FOUR.tells(3, 4, "oddsBlue", 15, 2, 0, 0);
        FOUR.tells(1, 1, "oddsBlue", 15, 4, 0, 0);
    }

    @Sentence("ASK: the SPRIG of the set by which they are parted the best: the greater number of those by which it is BLUE, RED, is the least; of several the first.")
    static void paragraph3_askOfSeveralTheFirst() {
        FOUR.takes(0, "ask", 15, 0, 0);
        FOUR.takes(0, "ask", 15, 2, 0);
        FOUR.takes(1, "ask", 14, 2, 0);
        FOUR.takes(2, "ask", 12, 2, 0);
        // 0 is RED and 1 BLUE in all three ways; of 2, 3, 4 each is RED in one
        Twins.of("sprig blue;sprig blue on 0;sprig blue;sprig blue;sprig blue;").takes(2, "ask", 31, 1, 1);
        // 0 parts three ways to 2 and 1, 3 to 3 and 0
        Twins.of("sprig blue;sprig blue;sprig blue;sprig red on 2;").takes(0, "ask", 15, 1, 1);
        TWENTY.asks(10, "ask", 1023 << 10, 18, 0);
        for (int i = 10; i < 20; i++) TWENTY.and(x -> x.ask(1023 << 10, 18, 0)).tells(9, 10, "oddsBlue", 1023 << 10, 18, 0, i);
    }

    @Sentence("COLOURINGS of a set by p by 2 to the k: how many ways (5: a set that can't be, too).")
    static void promise43_aSetThatCantBe() {
        RICH.refusesEach(5, NO_SETS, 0, "colourings", 0, -5, 2);
        RICH.takes(1, "colourings", 32, -5, 2);
        RICH.takes(1, "colourings", 0, -5, 2);
        Twins.of("").takes(1, "colourings", 0, 0, 0);
        Twins.of("").takes(0, "colourings", 0, 1, 0);
        Twins.of("").refuses(5, "colourings", 1, 0, 0);
        TEN.takes(1, "colourings", 1023, -10, 0);
        TEN.and(x -> x.grow(0, -1)).refuses(5, "colourings", 2047, 0, 0);
        TEN.refuses(5, "colourings", 1, 21, 0);
        TEN.refuses(5, "colourings", 1, 0, 21);
    }

    @Sentence("The first of them: the set of those that are RED (5; 8: there is none).")
    static void promise44_thereIsNone() {
        RICH.refusesEach(5, NO_SETS, 0, "firstRed", 0, -5, 2);
        FOUR.asks(1, "firstRed", 15, 2, 0);
        FOUR.refuses(8, "firstRed", 15, 1, 0);
        FOUR.refuses(8, "firstRed", 15, 5, 0);
        FOUR.refuses(8, "firstRed", 0, 3, 0);
        FOUR.takes(0, "firstRed", 0, 4, 0);
        FOUR.refuses(5, "firstRed", 15, 21, 0);
        FOUR.refuses(5, "firstRed", 31, 1, 0);
    }

    @Sentence("The FRACTION is ODDS THAT a SPRIG of the set is BLUE (2; 5; 8: there is no way; 9: it is not of the set).")
    static void promise45_noSuchSprigIs2() {
        FOUR.asks(1, "oddsBlue", 15, 2, 0, 0);
        FOUR.tells(3, 4, "oddsBlue", 15, 2, 0, 3);
        FOUR.refusesEach(2, Twins.outside(0, 4), 3, "oddsBlue", 15, 2, 0, 0);
        TWENTY.tells(1, 1, "oddsBlue", 1 << 19, 20, 0, 19);
        TWENTY.refuses(2, "oddsBlue", 1 << 19, 20, 0, 20);
        Twins.of("").refuses(2, "oddsBlue", 0, 0, 0, 0);
    }

    @Sentence("(2; 5; 8: there is no way; 9: it is not of the set)")
    static void promise45_aSetThatCantBeNoWayNotOfTheSet() {
        RICH.refusesEach(5, NO_SETS, 0, "oddsBlue", 0, -5, 2, 0);
        FOUR.refuses(5, "oddsBlue", 15, 21, 0, 0);
        FOUR.refuses(8, "oddsBlue", 15, 1, 0, 0);
        FOUR.refuses(9, "oddsBlue", 14, 2, 0, 0);
        FOUR.refuses(9, "oddsBlue", 7, 2, 0, 3);
        FOUR.refuses(9, "oddsBlue", 15, 2, 0, 4);
        FOUR.refuses(9, "oddsBlue", 0, 4, 0, 0);
        RICH.refuses(9, "oddsBlue", 1, -5, 2, 6);
    }

    @Sentence("ASK (5; 8: fewer than two ways).")
    static void promise46_fewerThanTwoWays() {
        RICH.refusesEach(5, NO_SETS, 0, "ask", 0, -5, 2);
        FOUR.refuses(5, "ask", 15, 21, 0);
        FOUR.refuses(8, "ask", 15, 1, 0);
        FOUR.refuses(8, "ask", 15, 4, 0);
        FOUR.refuses(8, "ask", 0, 4, 0);
        FOUR.refuses(8, "ask", 0, 3, 0);
        FOUR.refuses(8, "ask", 8, 2, 0);
        FOUR.asks(2, "ask", 12, 2, 0);
    }

    // ---- BALANCE

    private static void balances(Twins twins, int many, int set) {
        twins.asks(many, "balance");
        twins.asks(set, "balanceSet");
    }

    private static void byNone(Twins twins) {
        twins.refuses(8, "balance");
        twins.refuses(8, "balanceSet");
    }

    @Sentence("BALANCE: the fewest SPRIGS that STAND (at most 3) without which and all that is on them WORTH and NIMBER of the HEDGE are 0")
    static void paragraph3_atMost3() {
        balances(Twins.of(""), 0, 0);
        balances(Twins.of("sprig blue;"), 1, 1);
        balances(Twins.of("sprig blue;sprig blue;"), 2, 3);
        balances(Twins.of("sprig blue;sprig blue;sprig blue;"), 3, 7);
        byNone(Twins.of("sprig blue;sprig blue;sprig blue;sprig blue;"));
        balances(Twins.of("sprig red;sprig blue;sprig blue;sprig blue;sprig blue;"), 3, 2 + 4 + 8);
        byNone(Twins.of("sprig blue;sprig blue;sprig blue;sprig green;"));
        balances(Twins.of("sprig blue;sprig blue;sprig green;"), 3, 7);
        balances(Twins.of("sprig green;sprig green;sprig green;sprig green;"), 0, 0);
        balances(Twins.of("sprig green;sprig green;sprig green;"), 1, 1);
        balances(Twins.of("sprig green;heap 1;"), 0, 0);
        balances(Twins.of("sprig green;sprig green on 0;heap 1;"), 1, 2);
        byNone(Twins.of("heap 1;"));
        byNone(Twins.of("sprig green;heap 2;"));
    }

    @Sentence("without which and all that is on them")
    static void paragraph3_allThatIsOnThem() {
        balances(Twins.of("sprig blue;" + "sprig blue on 0;".repeat(19)), 1, 1);
        balances(Twins.of("sprig blue;sprig red on 0;sprig blue on 1;sprig red;"), 1, 2);
        Twins.of("sprig blue;sprig red on 0;").takes(1, "balanceSet");
    }

    @Sentence("(BETS are not looked at)")
    static void paragraph3_betsAreNotLookedAt() {
        balances(Twins.of("bet 20 1;bet 3 0;"), 0, 0);
        balances(Twins.of("bet 20 1;sprig red;"), 1, 1);
        // what a BET that is TAKEN made of the SCORE is
        byNone(Twins.of("bet 1 1;").and(x -> x.take(0, 0)));
        balances(Twins.of("bet 1 1;").and(x -> x.take(0, 0)).and(x -> x.spend(0)), 0, 0);
        balances(Twins.of("bet 1 1;sprig red;sprig blue;").and(x -> x.take(0, 0)), 1, 2);
    }

    @Sentence("of several sets the least as a number.")
    static void paragraph3_theLeastAsANumber() {
        balances(Twins.of("sprig blue;sprig blue;sprig red;"), 1, 1);
        balances(Twins.of("sprig red;sprig blue;sprig blue;"), 1, 2);
        balances(Twins.of("sprig blue;sprig red;sprig blue;sprig blue;sprig green;"), 3, 1 + 4 + 16);
        balances(Twins.of("sprig green;sprig blue;sprig green;sprig blue;sprig green;"), 3, 1 + 2 + 8);
        String balanced = "sprig red;".repeat(8) + "sprig blue;".repeat(8);
        balances(Twins.of(balanced + "sprig blue;sprig green;"), 2, (1 << 8) + (1 << 17));
        // the only set of three, at the end of all
        Twins last = Twins.of("sprig blue;" + "sprig blue on 0;".repeat(16) + "sprig red;sprig red;sprig red;bet 0 17;").and(x -> x.take(1, 0));
        balances(last, 3, 7 << 17);
    }

    @Sentence("SPRIGS that STAND")
    static void paragraph3_sprigsThatFellAreNotTaken() {
        balances(Twins.of("sprig blue;sprig blue;").and(x -> x.cut(0, 0)), 1, 2);
        balances(Twins.of("sprig red;sprig blue on 0;sprig red;").and(x -> x.cut(1, 0)), 1, 4);
        balances(Twins.of("sprig blue;sprig blue;").and(x -> x.cut(0, 0)).and(x -> x.cut(0, 1)), 0, 0);
    }

    @Sentence("BALANCE: how many (8: by none).")
    static void promise47_byNone() {
        RICH.refuses(8, "balance");
        Twins.of("sprig blue;sprig blue;sprig blue;").asks(3, "balance");
        Twins.of("sprig blue;sprig blue;sprig blue;sprig blue;").refuses(8, "balance");
        Twins.of("heap 15;").refuses(8, "balance");
    }

    @Sentence("BALANCE: the set (8).")
    static void promise48_byNone() {
        RICH.refuses(8, "balanceSet");
        Twins.of("sprig blue;sprig blue;sprig blue;").asks(7, "balanceSet");
        Twins.of("sprig blue;sprig blue;sprig blue;sprig blue;").refuses(8, "balanceSet");
        Twins.of("").asks(0, "balanceSet");
    }

    // ---- LUCK

    @Sentence("(of a HEDGE in which at most 6 SPRIGS STAND, without BETS that are not TAKEN, without HEAPS above 0, with SCORE 0)")
    static void paragraph3_ofWhichHedges() {
        Twins six = Twins.of("sprig blue;sprig blue;sprig blue;sprig red;sprig red;sprig red;");
        six.asks(1, "luck", 0);
        six.and(x -> x.grow(0, -1)).refuses(9, "luck", 0);
        six.and(x -> x.grow(2, -1)).refuses(9, "luck", 1);
        six.and(x -> x.grow(0, -1)).and(x -> x.cut(1, 3)).tells(1, 1, "luck", 0);
        six.and(x -> x.grow(0, 0)).and(x -> x.cut(0, 0)).tells(0, 1, "luck", 0);
        six.and(x -> x.pile(0)).tells(0, 1, "luck", 0);
        six.and(x -> x.pile(1)).refuses(9, "luck", 0);
        six.and(x -> x.pile(0)).and(x -> x.pile(1)).refuses(9, "luck", 0);
        six.and(x -> x.pile(1)).and(x -> x.less(0, 0)).tells(1, 1, "luck", 1);
        six.and(x -> x.offer(1, 0)).refuses(9, "luck", 0);
        six.and(x -> x.offer(0, 1)).refuses(9, "luck", 0);
        six.and(x -> x.offer(0, 1)).and(x -> x.take(0, 0)).tells(0, 1, "luck", 0);
        six.and(x -> x.offer(0, 1)).and(x -> x.take(1, 0)).refuses(9, "luck", 0);
        six.and(x -> x.offer(1, 0)).and(x -> x.take(0, 0)).refuses(9, "luck", 0);
        six.and(x -> x.offer(1, 0)).and(x -> x.take(0, 0)).and(x -> x.spend(0)).tells(0, 1, "luck", 0);
        six.and(x -> x.offer(1, 0)).and(x -> x.offer(1, 1)).and(x -> x.take(1, 0)).refuses(9, "luck", 0);
        Twins many = Twins.of("sprig blue;".repeat(19) + "sprig red on 0;").and(x -> {
            for (int i = 6; i < 19; i++) x.cut(0, i);
        });
        many.refuses(9, "luck", 0);
        many.and(x -> x.cut(1, 19)).tells(1, 1, "luck", 0);
        // those that STAND are behind those that FELL
        Twins last = Twins.of("sprig red;".repeat(14) + "sprig blue;sprig red;sprig blue;sprig green;sprig green on 17;sprig red;").and(x -> {
            for (int i = 0; i < 14; i++) x.cut(1, i);
        });
        Twins same = Twins.of("sprig blue;sprig red;sprig blue;sprig green;sprig green on 3;sprig red;");
        for (int side = 0; side <= 1; side++) {
            ShearHedge x = same.takes(1, "luck", side);
            last.tells(x.top(), x.bottom(), "luck", side);
        }
        // what was asked of a HEDGE ahead is nothing to the next one
        Twins other = Twins.of("sprig green;sprig green on 0;sprig green on 1;").and(x -> x.luck(0)).and(x -> x.cut(0, 0));
        other.and(x -> x.grow(0, -1)).and(x -> x.grow(1, -1)).and(x -> x.grow(1, -1)).tells(0, 1, "luck", 0);
    }

    @Sentence("LUCK of a SIDE: both CUT at random, each SPRIG that may be CUT as likely, that SIDE first: the odds that LEFT wins")
    static void paragraph3_eachAsLikely() {
        Twins.of("").tells(0, 1, "luck", 0);
        Twins.of("").tells(1, 1, "luck", 1);
        Twins.of("sprig blue;").tells(1, 1, "luck", 0);
        Twins.of("sprig green;").tells(1, 1, "luck", 0);
        Twins.of("sprig green;").tells(0, 1, "luck", 1);
        Twins.of("sprig green;sprig green on 0;").tells(1, 2, "luck", 0);
        Twins.of("sprig blue;sprig red on 0;sprig green;").tells(1, 2, "luck", 0);
        Twins.of("sprig blue;sprig red on 0;sprig green;").tells(3, 4, "luck", 1);
        // of six on each other each may be the one that is CUT
        Twins.of("sprig green;sprig green on 0;sprig green on 1;sprig green on 2;sprig green on 3;sprig green on 4;").tells(1, 2, "luck", 0);
        Twins.of("sprig green;sprig green on 0;sprig green on 1;sprig green on 0;").tells(5, 12, "luck", 1);
    }

    @Sentence("The FRACTION is LUCK of a SIDE (2; 9: of another HEDGE).")
    static void promise49_noSuchSideOrAnotherHedge() {
        Twins one = Twins.of("sprig blue;");
        one.asks(1, "luck", 0);
        one.refusesEach(2, Twins.outside(0, 1), 0, "luck", 0);
        RICH.refusesEach(2, Twins.outside(0, 1), 0, "luck", 0);
        RICH.refuses(9, "luck", 0);
        RICH.refuses(9, "luck", 1);
    }
}
