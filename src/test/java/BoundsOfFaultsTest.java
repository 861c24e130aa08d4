/** The boundaries that the Terms and paragraph 4 name for texts: what is a TOKEN, what may stand where, and the FAULTS. */
public final class BoundsOfFaultsTest {
    private static final String SPRIGS = "sprig red;".repeat(20);
    private static final String HEAPS = "heap 1;".repeat(4);
    private static final String BETS = "bet 1 1;".repeat(5);
    private static final String STEPS = "any;".repeat(30);

    public static void main(String[] args) {
        Sentences.run(BoundsOfFaultsTest.class);
    }

    private static ShearHedge hedge(String text, int sprigs) {
        ShearHedge x = Twins.untapedRich().made();
        Check.taken(x, "hedge of " + text, Check.hedge(x, text), sprigs);
        Check.due("fault(0) of " + text, x.fault(0), 0);
        return x;
    }

    private static ShearHedge seasons(String text, int steps) {
        ShearHedge x = Twins.untapedRich().made();
        Check.taken(x, "seasons of " + text, Check.seasons(x, text), steps);
        Check.due("fault(0) of " + text, x.fault(0), 0);
        return x;
    }

    private static void faulty(String text, int fault, int place) {
        Twins.faultyHedge(text, fault, place);
    }

    private static void faultySeasons(String text, int fault, int place) {
        Twins.faultySeasons(text, fault, place);
    }

    // ---- TOKENS

    @Sentence("A HEDGE is a TEXT of at most 900 bytes.")
    static void terms_aHedgeOfAtMost900Bytes() {
        hedge(" ".repeat(893) + "heap 1;", 0);
        hedge("heap 1;" + "\n".repeat(893), 0);
        String longest = "sprig green ; ".repeat(20) + "heap 15 ; ".repeat(4) + "bet 20 20 ; ".repeat(5);
        hedge(longest + " ".repeat(900 - longest.length()), 20);
        faulty(" ".repeat(894) + "heap 1", 2, 900);
        ShearHedge x = Twins.untapedRich().made();
        Check.feed(x, new byte[900]);
        Check.refused(x, "hedge(901)", x.hedge(901), 5);
    }

    @Sentence("TOKENS, as long as they go")
    static void terms_tokensAsLongAsTheyGo() {
        hedge("heap 1;heap2;bet 3 4;", 0);
        hedge("bet 3 04;bet 0003 0004;", 0);
        hedge("sprig blue;sprig red on 0000;", 2);
        faulty("sprigblue;", 2, 0);
        faulty("sprig bluered;", 2, 6);
        faulty("sprigs blue;", 2, 0);
        faulty("spri g blue;", 2, 0);
        faulty("bet 12;", 2, 6);
        faulty("bet 3 4 5;", 2, 8);
        faulty("heap 1 5;", 2, 7);
        seasons("when worth<1;end;when worth>1;end;when nimber=1;end;", 3);
        faultySeasons("when worth <> 1;end;", 2, 12);
        faultySeasons("when worth << 1;end;", 2, 12);
        faultySeasons("any;;", 2, 4);
    }

    @Sentence("between them blanks (10, 32)")
    static void terms_blanksAre10And32() {
        hedge("\n sprig\n\nblue \n;\n heap  3;", 1);
        seasons("\n loop\n 2 \n; end\n;\n", 1);
        for (int blank : new int[] {0, 9, 11, 12, 13, 31, 33, 127, 128, 160, 255}) {
            faulty("heap" + (char) blank + "3;", 1, 4);
            faultySeasons("loop" + (char) blank + "3;end;", 1, 4);
            faulty("heap 3;" + (char) blank, 1, 7);
        }
    }

    @Sentence("WORDS (small letters)")
    static void terms_wordsAreSmallLetters() {
        faulty("a", 2, 0);
        faulty("z", 2, 0);
        faulty("`", 1, 0);
        faulty("{", 1, 0);
        faulty("A", 1, 0);
        faulty("Z", 1, 0);
        faulty("Heap 1;", 1, 0);
        faulty("heaP 1;", 2, 0);
        faulty("heap\u00e9 1;", 1, 4);
        faulty("sprig bluE;", 2, 6);
        faultySeasons("aNy;", 2, 0);
        faultySeasons("_any;", 1, 0);
    }

    /** All words of a text that is right, each spoilt at its first letter, at its last, by one more and by one less. */
    private static void spoilt(String call, String text) {
        for (int from = 0; from < text.length(); from++) {
            if (!isLetter(text, from) || isLetter(text, from - 1)) continue;
            int to = from;
            while (isLetter(text, to)) to++;
            String ahead = text.substring(0, from);
            String word = text.substring(from, to);
            String behind = text.substring(to);
            Twins untaped = Twins.untapedRich();
            untaped.faulty(call, ahead + "q" + word.substring(1) + behind, 2, from);
            untaped.faulty(call, ahead + word.substring(0, word.length() - 1) + "q" + behind, 2, from);
            untaped.faulty(call, ahead + word + "q" + behind, 2, from);
            untaped.faulty(call, ahead + "q" + word + behind, 2, from);
            untaped.faulty(call, ahead + word.substring(1) + behind, 2, from);
            untaped.faulty(call, ahead + word.substring(0, word.length() - 1) + behind, 2, from);
            untaped.faulty(call, ahead + word.toUpperCase() + behind, 1, from);
        }
    }

    private static boolean isLetter(String text, int at) {
        return at >= 0 && at < text.length() && text.charAt(at) >= 'a' && text.charAt(at) <= 'z';
    }

    @Sentence("WORDS (small letters)")
    static void terms_wordsThatAreNone() {
        spoilt("hedge", "sprig blue;sprig red on 0;sprig green;heap 1;bet 1 1;");
        spoilt("seasons", "cut left 0;take right 0;less 0 0;grow blue;grow red on 0;grow green;any;loop 1;end;stop;");
        spoilt("seasons", "when stands 0;end;when worth<1;end;when nimber>1;end;when wins left;end;when wins right;end;");
    }

    @Sentence("NUMBERS (1 to 4 digits)")
    static void terms_numbersOf1To4Digits() {
        Check.taken(hedge("heap 7;", 0), "heap(0)", hedge("heap 7;", 0).heap(0), 7);
        Check.due("heap(0)", hedge("heap 0007;", 0).heap(0), 7);
        Check.due("heap(0)", hedge("heap 0010;", 0).heap(0), 10);
        faulty("heap 00007;", 1, 5);
        faulty("heap 1234;", 4, 5);
        faulty("heap 9999;", 4, 5);
        faulty("heap 10000;", 1, 5);
        faulty("heap 99999999999999999999;", 1, 5);
        faulty("heap 4294967297;", 1, 5);
        seasons("loop 0099;end;", 1);
        faultySeasons("loop 00099;end;", 1, 5);
        faulty("0", 2, 0);
        faulty("9", 2, 0);
        faulty("/", 1, 0);
        faulty(":", 1, 0);
        faulty("heap -1;", 1, 5);
        faulty("heap +1;", 1, 5);
        faulty("heap 1.;", 1, 6);
    }

    @Sentence("SIGNS ; < > =")
    static void terms_signs() {
        for (String sign : new String[] {";", "<", ">", "="}) {
            faulty(sign, 2, 0);
            faulty("heap 1;" + sign, 2, 7);
            faultySeasons(sign, 2, 0);
        }
        for (String none : new String[] {":", "?", "@", "!", ",", "(", "}", "\u00bb"}) {
            faulty(none, 1, 0);
            faultySeasons(none, 1, 0);
        }
    }

    // ---- a HEDGE as a text

    @Sentence("HEDGE: {PART}.")
    static void terms_anyNumberOfParts() {
        Check.taken(hedge("", 0), "no PART", hedge(" \n", 0).many(1), 0);
        ShearHedge x = hedge("bet 1 2;heap 3;sprig blue;heap 4;bet 5 6;sprig red on 0;", 2);
        Check.taken(x, "many(1)", x.many(1), 2);
        Check.taken(x, "many(2)", x.many(2), 2);
        ShearHedge all = hedge(BETS + HEAPS + SPRIGS, 20);
        Check.taken(all, "many(1)", all.many(1), 4);
        Check.taken(all, "many(2)", all.many(2), 5);
    }

    @Sentence("PART: sprig COLOUR [on NUMBER] ; or heap NUMBER ; or bet NUMBER NUMBER ;")
    static void terms_whatMayStandInAPart() {
        faulty("any;", 2, 0);
        faulty("blue;", 2, 0);
        faulty("on 0;", 2, 0);
        faulty("sprig;", 2, 5);
        faulty("sprig 0;", 2, 6);
        faulty("sprig on 0;", 2, 6);
        faulty("sprig blue 0;", 2, 11);
        faulty("sprig blue on;", 2, 13);
        faulty("sprig blue;sprig red on blue;", 2, 24);
        faulty("sprig blue;sprig red on 0 0;", 2, 26);
        faulty("sprig blue;sprig red on 0 on 0;", 2, 26);
        faulty("sprig blue on 0 sprig", 4, 14);
        faulty("heap;", 2, 4);
        faulty("heap red;", 2, 5);
        faulty("heap 1 1;", 2, 7);
        faulty("bet;", 2, 3);
        faulty("bet 1;", 2, 5);
        faulty("bet 1 1 1;", 2, 8);
        faulty("bet 1;1;", 2, 5);
        faulty("heap < 1;", 2, 5);
    }

    @Sentence("({ } any number of times, [ ] perhaps.)")
    static void terms_noneOneAndMany() {
        hedge("", 0);
        hedge("sprig blue;", 1);
        hedge("sprig blue;sprig blue on 0;", 2);
        seasons("", 0);
        seasons("grow red;", 1);
        seasons("grow red on 1;", 1);
        seasons("loop 1;end;", 1);
        seasons("loop 1;any;any;end;", 3);
    }

    @Sentence("SPRIGS, at most 20: BLUE (0), RED (1) or GREEN (2), ON a SPRIG told ahead")
    static void terms_coloursByTheirNumbers() {
        ShearHedge x = hedge("sprig green;sprig red;sprig blue;sprig green on 0;", 4);
        int[] due = {2, 1, 0, 2};
        for (int i = 0; i < 4; i++) Check.taken(x, "sprig(" + i + ", 0)", x.sprig(i, 0), due[i]);
    }

    @Sentence("COLOUR: blue or red or green.")
    static void terms_colours() {
        ShearHedge x = hedge("sprig blue;sprig red;sprig green;", 3);
        for (int i = 0; i <= 2; i++) Check.taken(x, "sprig(" + i + ", 0)", x.sprig(i, 0), i);
        faulty("sprig black;", 2, 6);
        faulty("sprig left;", 2, 6);
    }

    @Sentence("SPRIGS, at most 20:")
    static void terms_atMost20Sprigs() {
        ShearHedge x = hedge(SPRIGS, 20);
        Check.taken(x, "many(3)", x.many(3), (1 << 20) - 1);
        faulty(SPRIGS + "sprig red;", 6, 200);
        hedge("sprig red;".repeat(19) + "sprig blue on 18;", 20);
    }

    @Sentence("ON a SPRIG told ahead (on the ground without)")
    static void terms_onASprigToldAhead() {
        ShearHedge x = hedge("sprig blue;sprig red on 0;sprig red on 1;sprig red on 0;", 4);
        Check.refused(x, "sprig(0, 1): the ground", x.sprig(0, 1), 8);
        Check.taken(x, "sprig(2, 1)", x.sprig(2, 1), 1);
        Check.taken(x, "sprig(3, 1)", x.sprig(3, 1), 0);
        faulty("sprig blue on 0;", 4, 14);
        faulty("sprig blue;sprig blue on 1;", 4, 25);
        faulty("sprig blue;sprig blue on 2;sprig blue;", 4, 25);
        faulty(SPRIGS.substring(10) + "sprig red on 19;", 4, 203);
    }

    @Sentence("a GREEN one on the ground or a GREEN one, others not on a GREEN one.")
    static void terms_coloursOnEachOther() {
        String[] colours = {"blue", "red", "green"};
        for (int below = 0; below <= 2; below++) {
            for (int above = 0; above <= 2; above++) {
                String text = "sprig " + colours[below] + ";sprig " + colours[above] + " on 0;";
                if ((below == 2) == (above == 2)) hedge(text, 2);
                else faulty(text, 5, text.length() - 2);
            }
        }
    }

    @Sentence("HEAPS, at most 4: 0 to 15.")
    static void terms_atMost4HeapsOf0To15() {
        ShearHedge x = hedge("heap 0;heap 15;heap 1;heap 14;", 0);
        int[] due = {0, 15, 1, 14};
        for (int i = 0; i < 4; i++) Check.taken(x, "heap(" + i + ")", x.heap(i), due[i]);
        faulty("heap 16;", 4, 5);
        faulty("heap 0;heap 16;", 4, 12);
        faulty("heap 9999;", 4, 5);
        faulty(HEAPS + "heap 0;", 6, 28);
    }

    @Sentence("BETS, at most 5: for LEFT, for RIGHT (0 to 20 each, not both 0).")
    static void terms_atMost5BetsOf0To20NotBoth0() {
        ShearHedge x = hedge("bet 0 20;bet 20 0;bet 20 20;bet 0 1;bet 1 0;", 0);
        int[] left = {0, 20, 20, 0, 1};
        int[] right = {20, 0, 20, 1, 0};
        for (int i = 0; i < 5; i++) {
            Check.taken(x, "bet(" + i + ", 0)", x.bet(i, 0), left[i]);
            Check.taken(x, "bet(" + i + ", 1)", x.bet(i, 1), right[i]);
        }
        faulty("bet 21 1;", 4, 4);
        faulty("bet 1 21;", 4, 6);
        faulty("bet 0 0;", 4, 6);
        faulty("bet 0000 0000;", 4, 9);
        faulty("bet 21 21;", 4, 4);
        faulty(BETS + "bet 1 1;", 6, 40);
    }

    @Sentence("All are numbered as they stand.")
    static void terms_numberedAsTheyStand() {
        ShearHedge x = hedge("heap 3;sprig green;bet 1 2;sprig blue;heap 4;sprig red on 1;bet 3 4;", 3);
        Check.taken(x, "sprig(1, 0)", x.sprig(1, 0), 0);
        Check.taken(x, "sprig(2, 1)", x.sprig(2, 1), 1);
        Check.taken(x, "heap(1)", x.heap(1), 4);
        Check.taken(x, "bet(1, 1)", x.bet(1, 1), 4);
    }

    // ---- FAULTS

    @Sentence("FAULTS, the first along the text")
    static void terms_theFirstAlongTheText() {
        faulty("heap 16;!", 4, 5);
        faulty("heap 15;!heap 16;", 1, 8);
        faulty("heap 15 heap 16;", 2, 8);
        faulty("sprig pink on 3;", 2, 6);
        faulty("bet 21 0", 4, 4);
        faulty("bet 0 0", 4, 6);
        faulty("sprig blue;sprig green on 0", 5, 26);
        faulty(SPRIGS + "sprig pink", 6, 200);
    }

    @Sentence("(of one TOKEN the least kind)")
    static void terms_ofOneTokenTheLeastKind() {
        // a NUMBER of 5 digits where none can stand, or one that is too great
        faulty("12345", 1, 0);
        faulty("heap 12345;", 1, 5);
        faulty("sprig 12345;", 1, 6);
        faulty("sprig blue;sprig green on 00000;", 1, 26);
        // a NUMBER that can't stand there and could not be
        faulty("heap 1 99;", 2, 7);
        // a SPRIG that there is not has no COLOUR
        faulty("sprig green;sprig blue on 1;", 4, 26);
        // a 21st sprig is one by its WORD, whatever comes behind
        faulty(SPRIGS + "sprigs red;", 2, 200);
        faulty(SPRIGS + "?", 1, 200);
        faulty(SPRIGS + "red;", 2, 200);
        faultySeasons("any;".repeat(27) + "loop 1;".repeat(3) + "when", 6, 129);
        faultySeasons(STEPS + "nay;", 2, 120);
    }

    @Sentence("1 no TOKEN begins so (a NUMBER of 5 digits and more: at its first).")
    static void terms_fault1() {
        faulty("heap 1;  $", 1, 9);
        faulty("heap 1;  00001", 1, 9);
        faulty("heap 12345;", 1, 5);
        faulty("heap 123456;", 1, 5);
        faulty("heap 12a;", 2, 7);
        faulty("heap 12A;", 1, 7);
    }

    @Sentence("2 it can't stand there (the end: the text's length).")
    static void terms_fault2AtTheEnd() {
        faulty("sprig", 2, 5);
        faulty("sprig  \n", 2, 8);
        faulty("sprig blue", 2, 10);
        faulty("sprig blue;sprig red on", 2, 23);
        faulty("sprig blue;sprig red on 0", 2, 25);
        faulty("heap", 2, 4);
        faulty("heap 1", 2, 6);
        faulty("bet", 2, 3);
        faulty("bet 1", 2, 5);
        faulty("bet 1 1 ", 2, 8);
        faulty("heap 1;" + " ".repeat(889) + "heap", 2, 900);
    }

    @Sentence("4 a NUMBER that can't be (no such SPRIG told ahead; a bet's second one, if both are 0).")
    static void terms_fault4() {
        faulty("sprig blue;sprig red on 1;", 4, 24);
        hedge("sprig blue;sprig red on 0;", 2);
        faulty("heap 16;", 4, 5);
        faulty("bet 0 0;", 4, 6);
        hedge("bet 0 1;bet 1 0;", 0);
        faulty("bet 21 0;", 4, 4);
        faulty("bet 0 21;", 4, 6);
    }

    @Sentence("5 a SPRIG that can't be on that one by its COLOUR (at that NUMBER).")
    static void terms_fault5() {
        faulty("sprig blue;sprig green on 0;", 5, 26);
        faulty("sprig red;sprig green on 0;", 5, 25);
        faulty("sprig green;sprig blue on 0;", 5, 26);
        faulty("sprig green;sprig red on  0;", 5, 26);
        faulty("sprig blue;sprig green;sprig green on 0;", 5, 38);
        hedge("sprig blue;sprig green;sprig green on 1;", 3);
    }

    @Sentence("6 a 21st sprig, a fifth heap, a sixth bet (at that WORD).")
    static void terms_fault6() {
        faulty(SPRIGS + "  sprig", 6, 202);
        faulty(HEAPS + "\nheap", 6, 29);
        faulty(BETS + " bet", 6, 41);
        faulty(SPRIGS + HEAPS + BETS + "heap", 6, 268);
        faulty(SPRIGS + HEAPS + BETS + "bet", 6, 268);
        faulty(SPRIGS + HEAPS + BETS + "sprig", 6, 268);
        hedge(SPRIGS + HEAPS + BETS, 20);
        // what was refused with a text counts for none
        ShearHedge x = Twins.untapedRich().made();
        Check.refused(x, "a faulty hedge", Check.hedge(x, SPRIGS + HEAPS + BETS + "!"), 10);
        Check.taken(x, "the next one", Check.hedge(x, SPRIGS + HEAPS + BETS), 20);
    }

    @Sentence("A HEDGE that is taken is there in place of that ahead; all SPRIGS STAND, no BET is TAKEN, the SCORE is 0; there are no SEASONS.")
    static void terms_aHedgeInPlaceOfThatAhead() {
        ShearHedge x = hedge("sprig blue;sprig red;bet 1 1;", 2);
        int[] due = {2, 0, 1, 3, 0, 0, 0};
        for (int what = 0; what <= 6; what++) Check.taken(x, "many(" + what + ")", x.many(what), due[what]);
        Check.refused(x, "live(0)", x.live(0), 8);
        Check.refused(x, "mean(0, 1)", x.mean(0, 1), 8);
        Check.refused(x, "sprig(2, 0)", x.sprig(2, 0), 2);
        Check.refused(x, "heap(0)", x.heap(0), 2);
        Check.refused(x, "bet(1, 0)", x.bet(1, 0), 2);
        Check.taken(x, "moves(0): none is left of that ahead", x.moves(0), 2);
        Check.taken(x, "nimber()", x.nimber(), 0);
        Check.tells(x, "worth()", x.worth(), 0, 1);
        Check.taken(x, "hottest()", x.hottest(), 0);
        Check.taken(x, "MARKS are there still", x.back(), 1);
        Check.taken(x, "and the SEASONS of then", x.live(0), 4);
    }

    // ---- SEASONS as a text

    @Sentence("SEASONS are a TEXT of at most 300 bytes, of such TOKENS (none at first).")
    static void paragraph4_seasonsOfAtMost300Bytes() {
        seasons(" ".repeat(296) + "any;", 1);
        seasons("any;" + "\n".repeat(296), 1);
        faultySeasons(" ".repeat(297) + "any", 2, 300);
        ShearHedge x = Twins.untapedRich().made();
        Check.refused(x, "301 bytes", Check.seasons(x, " ".repeat(297) + "any;"), 5);
    }

    @Sentence("SEASONS: {STEP}.")
    static void paragraph4_anyNumberOfSteps() {
        ShearHedge x = seasons("", 0);
        Check.taken(x, "SEASONS of no STEP", x.live(0), 0);
        seasons("stop;", 1);
        seasons(STEPS, 30);
    }

    @Sentence("STEP: cut SIDE NUMBER ; or take SIDE NUMBER ; or less NUMBER NUMBER ; or grow COLOUR [on NUMBER] ; or any ; "
        + "or when TEST ; {STEP} end ; or loop NUMBER ; {STEP} end ; or stop ;")
    static void paragraph4_whatMayStandInAStep() {
        seasons("cut left 0;take right 0;less 0 0;grow blue;grow red on 0;any;when wins left;end;loop 1;end;stop;", 9);
        String[] faulty = {"heap 1;", "cut;", "cut 0;", "cut blue 0;", "cut left;", "cut left left;", "cut left 0 0;", "take;", "take 0;",
            "take left;", "take left 0 0;", "less;", "less left 0;", "less 0;", "less 0 left;", "less 0 0 0;", "grow;", "grow left;", "grow 0;",
            "grow blue 0;", "grow blue on;", "grow blue on red;", "grow blue on 0 0;", "any 1;", "when;", "when any;", "when 1;", "when end;",
            "loop;", "loop left;", "loop 1 1;end;", "stop 1;", "stop stop;"};
        int[] places = {0, 3, 4, 4, 8, 9, 11, 4, 5, 9, 12, 4, 5, 6, 7, 9, 4, 5, 5, 10, 12, 13, 15, 4, 4, 5, 5, 5, 4, 5, 7, 5, 5};
        for (int i = 0; i < faulty.length; i++) faultySeasons(faulty[i], 2, places[i]);
    }

    @Sentence("SIDE: left or right.")
    static void paragraph4_sides() {
        seasons("cut left 0;cut right 0;take left 0;take right 0;when wins left;end;when wins right;end;", 6);
        faultySeasons("cut both 0;", 2, 4);
        faultySeasons("take up 0;", 2, 5);
        faultySeasons("when wins red;end;", 2, 10);
    }

    @Sentence("TEST: stands NUMBER, or worth COMPARES NUMBER, or nimber COMPARES NUMBER, or wins SIDE.   COMPARES: < or > or =")
    static void paragraph4_tests() {
        seasons("when worth < 1;end;when worth > 1;end;when worth = 1;end;when nimber<1;end;when nimber>1;end;when nimber=1;end;", 6);
        seasons("when stands 1;end;when wins left;end;", 2);
        String[] faulty = {"when stands;", "when stands = 1;", "when worth;", "when worth 1;", "when worth ; 1;", "when worth =;", "when worth = =;",
            "when worth = left;", "when nimber 1;", "when nimber >;", "when wins;", "when wins 1;", "when wins left 1;", "when worth = 1 1;", "when stands 1 1;"};
        int[] places = {11, 12, 10, 11, 11, 12, 13, 13, 12, 13, 9, 10, 15, 15, 14};
        for (int i = 0; i < faulty.length; i++) faultySeasons(faulty[i], 2, places[i]);
    }

    @Sentence("FAULTS: 1, 2 as above (an end without a beginning; the text's end ahead of an end: 2).")
    static void paragraph4_fault1AndFault2() {
        faultySeasons("any;?", 1, 4);
        faultySeasons("cut left 00000;", 1, 9);
        faultySeasons("any", 2, 3);
        faultySeasons("end;", 2, 0);
        faultySeasons("any; end;", 2, 5);
        faultySeasons("loop 2;end;end;", 2, 11);
        faultySeasons("when wins left;end;any;end;", 2, 23);
        faultySeasons("loop 2;", 2, 7);
        faultySeasons("loop 2;any; ", 2, 12);
        faultySeasons("loop 2;when wins left;end;", 2, 26);
        faultySeasons("loop 2;end", 2, 10);
        faultySeasons("loop 2;end end;", 2, 11);
        faultySeasons("loop 2;end 2;", 2, 11);
        seasons("loop 2;end;", 1);
        seasons("loop 2;when wins left;end;end;", 2);
    }

    @Sentence("4 a NUMBER that can't be.")
    static void paragraph4_fault4() {
        seasons("cut left 19;take left 4;less 3 15;grow red on 19;when stands 19;end;when worth=20;end;when nimber=31;end;loop 99;end;", 8);
        seasons("cut left 0;take left 0;less 0 0;grow red on 0;when stands 0;end;when worth=0;end;when nimber=0;end;loop 1;end;", 8);
        faultySeasons("cut left 20;", 4, 9);
        faultySeasons("cut right 9999;", 4, 10);
        faultySeasons("take left 5;", 4, 10);
        faultySeasons("less 4 0;", 4, 5);
        faultySeasons("less 3 16;", 4, 7);
        faultySeasons("less 0 16;", 4, 7);
        faultySeasons("grow red on 20;", 4, 12);
        faultySeasons("when stands 20;end;", 4, 12);
        faultySeasons("when worth < 21;end;", 4, 13);
        faultySeasons("when nimber > 32;end;", 4, 14);
        faultySeasons("loop 0;end;", 4, 5);
        faultySeasons("loop 100;end;", 4, 5);
        faultySeasons("loop 0000;end;", 4, 5);
    }

    @Sentence("cut, grow on, stands: a SPRIG (0 to 19); take: a BET (0 to 4); less: a HEAP (0 to 3) to a number (0 to 15); "
        + "worth: against 0 to 20; nimber: against 0 to 31;")
    static void paragraph4_numbersOfTheNext() {
        // a SPRIG, BET, HEAP may be named that there is not: it is MISSED then
        ShearHedge x = seasons("cut left 19;take left 4;less 3 15;grow red on 19;when stands 19;any;end;", 6);
        Check.taken(x, "live(0)", x.live(0), 5);
        Check.taken(x, "lived(0)", x.lived(0), 4);
    }

    @Sentence("6 a 31st STEP (at its WORD; end is none).")
    static void paragraph4_fault6() {
        seasons(STEPS, 30);
        seasons("any;".repeat(27) + "loop 1;loop 2;when wins left;end;end;end;", 30);
        seasons("loop 1;end;".repeat(27), 27);
        String blocks = "when wins left;end;".repeat(2) + "any;".repeat(28);
        seasons(blocks, 30);
        faultySeasons(blocks + " any;", 6, blocks.length() + 1);
        faultySeasons(STEPS + "any", 6, 120);
        faultySeasons(STEPS + "stop;", 6, 120);
        faultySeasons(STEPS + "when", 6, 120);
        faultySeasons(STEPS + "loop", 6, 120);
        faultySeasons(STEPS + "grow pink;", 6, 120);
        faultySeasons(STEPS + "end;", 2, 120);
        faultySeasons("loop 1;" + "any;".repeat(29) + "any;end;", 6, 123);
    }

    @Sentence("7 a when, loop within three others (at its WORD).")
    static void paragraph4_fault7() {
        String[] blocks = {"loop 1;", "when wins left;"};
        for (int i = 0; i < 8; i++) {
            String three = blocks[i & 1] + blocks[i >> 1 & 1] + blocks[i >> 2];
            seasons(three + "any;end;end;end;", 4);
            faultySeasons(three + " loop 1;", 7, three.length() + 1);
            faultySeasons(three + "when", 7, three.length());
            faultySeasons(three + "end;" + blocks[0] + blocks[1], 7, three.length() + 11);
            seasons(three + "end;" + blocks[0] + "end;end;end;", 4);
        }
        seasons("loop 1;end;".repeat(4) + "loop 1;loop 1;loop 1;end;end;end;", 7);
        ShearHedge x = Twins.untapedRich().made();
        Check.refused(x, "three left open", Check.seasons(x, "loop 1;loop 1;loop 1;"), 10);
        Check.taken(x, "are not open in the next text", Check.seasons(x, "loop 1;loop 1;loop 1;end;end;end;"), 3);
    }
}
