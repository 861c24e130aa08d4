/** The boundaries in the sentences of promises 9 to 17: the tape, texts that are taken, and what is asked of the HEDGE. */
public final class BoundsOfTextsTest {
    private static final int MIN = Twins.MIN;
    private static final int MAX = Twins.MAX;
    private static final Twins RICH = Twins.rich();
    private static final Twins UNTAPED = Twins.untapedRich();

    public static void main(String[] args) {
        Sentences.run(BoundsOfTextsTest.class);
    }

    /** Twins with this many twenties of bytes on the tape: "heap 1;" and then blanks. */
    private static Twins fed(int twenties) {
        return UNTAPED.and(x -> {
            for (int i = 0; i < twenties; i++) {
                if (i == 0) x.feed(0x68656170, 0x20313b20, 0x20202020, 0x20202020, 0x20202020);
                else x.feed(0x20202020, 0x20202020, 0x20202020, 0x20202020, 0x20202020);
            }
        });
    }

    // ---- feed

    @Sentence("Twenty bytes come behind those on the tape")
    static void promise09_twentyBytesComeBehindThoseOnTheTape() {
        ShearHedge x = UNTAPED.made();
        Check.due("feed", x.feed(0x68656170, 0x20393b68, 0x65617020, 0x383b6865, 0x61702037), 20);
        Check.due("feed", x.feed(0x3b686561, 0x7020363b, 0x20202020, 0x20202020, 0x20202020), 40);
        Check.taken(x, "hedge(40)", x.hedge(40), 0);
        for (int i = 0; i < 4; i++) Check.taken(x, "heap(" + i + ")", x.heap(i), 9 - i);
    }

    @Sentence("the highest of each int first")
    static void promise09_theHighestOfEachIntFirst() {
        ShearHedge x = UNTAPED.made();
        // the lowest and the highest byte of an int are signs of their own
        x.feed(0x20202021, 0x20202020, 0x20202020, 0x20202020, 0x20202020);
        Check.refused(x, "the lowest byte is the fourth", x.hedge(20), 10);
        Check.due("fault(1)", x.fault(1), 3);
        x.feed(0xff202020, 0x20202020, 0x20202020, 0x20202020, 0x20202020);
        Check.refused(x, "the highest byte is the first", x.hedge(20), 10);
        Check.due("fault(0)", x.fault(0), 1);
        Check.due("fault(1)", x.fault(1), 0);
        x.feed(0x20202020, 0x20202020, 0x20202020, 0x20202020, 0x20202080);
        Check.refused(x, "the last byte is the twentieth", x.hedge(20), 10);
        Check.due("fault(1)", x.fault(1), 19);
    }

    @Sentence("NONE if there would be more than 900.")
    static void promise09_noneIfThereWouldBeMoreThan900() {
        ShearHedge x = fed(44).made();
        Check.due("feed to 900", x.feed(0, 0, 0, 0, 0x20202021), 900);
        Check.due("feed to 920", x.feed(1, 2, 3, 4, 5), -1);
        Check.due("feed to 920", x.feed(-1, -1, -1, -1, -1), -1);
        Check.due("status(): it has none", x.status(), 0);
        Check.refused(x, "hedge(900): the bytes are as they were", x.hedge(900), 10);
        Check.due("fault(0)", x.fault(0), 1);
        Check.due("fault(1)", x.fault(1), 880);
        Check.due("feed to an empty tape", x.feed(0, 0, 0, 0, 0), 20);
    }

    @Sentence("how many it has; NONE if there would be more than 900.")
    static void promise09_aFullTapeStaysFull() {
        ShearHedge x = fed(45).made();
        Check.due("feed to 920", x.feed(0x21212121, 0, 0, 0, 0), -1);
        Check.taken(x, "hedge(900)", x.hedge(900), 0);
        Check.taken(x, "heap(0)", x.heap(0), 1);
        for (int i = 1; i <= 45; i++) Check.due("feed", x.feed(0, 0, 0, 0, 0), 20 * i);
        Check.due("feed", x.feed(0, 0, 0, 0, 0), -1);
    }

    // ---- hedge

    @Sentence("The first n bytes of the tape (which is empty then, but for 5) are the HEDGE: how many SPRIGS (5; 10: the old one stays).")
    static void promise10_0BytesAndAllBytes() {
        ShearHedge x = fed(1).takes(0, "hedge", 0);
        for (int what = 0; what <= 6; what++) Check.taken(x, "many(" + what + ") of a HEDGE of nothing", x.many(what), 0);
        ShearHedge y = fed(1).takes(0, "hedge", 20);
        Check.taken(y, "many(1)", y.many(1), 1);
        ShearHedge z = fed(45).takes(0, "hedge", 900);
        Check.taken(z, "many(1)", z.many(1), 1);
    }

    @Sentence("5; 10")
    static void promise10_below0OrMoreThanTheTapeHas() {
        fed(1).refusesEach(5, new long[] {MIN, -1, 21, 900, 901, MAX}, 0, "hedge", 0);
        fed(45).refusesEach(5, new long[] {-1, 901, MAX}, 0, "hedge", 0);
        UNTAPED.refusesEach(5, new long[] {-1, 1, MAX}, 0, "hedge", 0);
        ShearHedge x = fed(1).made();
        x.hedge(21);
        Check.taken(x, "the tape is kept by 5", x.hedge(20), 0);
        Check.taken(x, "many(1)", x.many(1), 1);
    }

    @Sentence("(which is empty then, but for 5)")
    static void promise10_theTapeIsEmptyThen() {
        ShearHedge x = fed(2).takes(0, "hedge", 7);
        Check.refused(x, "the rest is gone", x.hedge(1), 5);
        Check.due("feed", x.feed(0, 0, 0, 0, 0), 20);
        ShearHedge y = fed(2).takes(0, "hedge", 0);
        Check.refused(y, "all is gone by hedge(0), too", y.hedge(1), 5);
        ShearHedge z = fed(2).made();
        Check.refused(z, "a FAULT", z.hedge(6), 10);
        Check.refused(z, "all is gone by 10, too", z.hedge(1), 5);
        Check.due("feed", z.feed(0, 0, 0, 0, 0), 20);
    }

    @Sentence("The first n bytes of the tape")
    static void promise10_whatIsBehindNIsNotRead() {
        ShearHedge x = UNTAPED.made();
        Check.feed(x, Twins.bytes("heap 1;heap 12;!!!!!"));
        Check.taken(x, "hedge(7)", x.hedge(7), 0);
        Check.taken(x, "many(1)", x.many(1), 1);
        Check.feed(x, Twins.bytes("heap 12345;         "));
        Check.refused(x, "hedge(6): a text ends within a NUMBER", x.hedge(6), 10);
        Check.due("fault(0)", x.fault(0), 2);
        Check.due("fault(1)", x.fault(1), 6);
        Check.feed(x, Twins.bytes("heap 12345;         "));
        Check.refused(x, "hedge(3): a text ends within a WORD", x.hedge(3), 10);
        Check.due("fault(0)", x.fault(0), 2);
        Check.due("fault(1)", x.fault(1), 0);
    }

    @Sentence("10: the old one stays")
    static void promise10_theOldOneStays() {
        UNTAPED.faulty("hedge", "sprig green;heap 1;bet 1 1;!", 1, 27);
        UNTAPED.faulty("hedge", "sprig", 2, 5);
        ShearHedge x = UNTAPED.made();
        Check.refused(x, "hedge", Check.hedge(x, "sprig green;heap 1;bet 1 1;!"), 10);
        int[] due = {8, 3, 3, 63, 5, 2, -1};
        for (int what = 0; what <= 6; what++) Check.taken(x, "many(" + what + ")", x.many(what), due[what]);
        Check.taken(x, "live(0): SEASONS stay, too", x.live(0), 4);
    }

    // ---- seasons

    @Sentence("Likewise the SEASONS: how many STEPS (5: above 300, too; 10).")
    static void promise11_0BytesAndAllBytes() {
        ShearHedge x = fed(1).takes(0, "seasons", 0);
        Check.taken(x, "SEASONS of no STEP", x.live(0), 0);
        ShearHedge y = UNTAPED.made();
        Check.taken(y, "20 bytes", Check.seasons(y, "any;grow blue;stop ;"), 3);
        Check.taken(y, "live(0)", y.live(0), 3);
    }

    @Sentence("5: above 300, too")
    static void promise11_above300() {
        String text = " ".repeat(296) + "any;" + " ".repeat(20);
        Twins full = UNTAPED.and(x -> Check.feed(x, Twins.bytes(text)));
        full.takes(1, "seasons", 300);
        full.refusesEach(5, new long[] {301, 320, 321, MAX}, 0, "seasons", 0);
        ShearHedge x = full.made();
        x.seasons(301);
        Check.taken(x, "the tape is kept by 5", x.seasons(300), 1);
    }

    @Sentence("(5: above 300, too; 10)")
    static void promise11_below0OrMoreThanTheTapeHas() {
        fed(1).refusesEach(5, new long[] {MIN, -1, 21, 300, 301, MAX}, 0, "seasons", 0);
        UNTAPED.refusesEach(5, new long[] {-1, 1, MAX}, 0, "seasons", 0);
    }

    @Sentence("Likewise the SEASONS")
    static void promise11_theTapeIsEmptyThen() {
        Twins many = UNTAPED.and(x -> Check.feed(x, Twins.bytes("any;any;any;any;any;any;")));
        ShearHedge x = many.takes(2, "seasons", 8);
        Check.refused(x, "the rest is gone", x.seasons(1), 5);
        Check.due("feed", x.feed(0, 0, 0, 0, 0), 20);
        Check.taken(x, "what is behind n is not read", x.live(0), 2);
        ShearHedge y = many.made();
        Check.refused(y, "a FAULT", y.seasons(7), 10);
        Check.refused(y, "all is gone by 10, too", y.seasons(1), 5);
    }

    @Sentence("Likewise the SEASONS: how many STEPS (5: above 300, too; 10).")
    static void promise11_theOldOnesStay() {
        UNTAPED.faulty("seasons", "grow green;loop 2;", 2, 18);
        ShearHedge x = UNTAPED.made();
        Check.refused(x, "seasons", Check.seasons(x, "grow green;loop 2;"), 10);
        Check.taken(x, "live(0)", x.live(0), 4);
        Check.taken(x, "lived(3)", x.lived(3), 1);
    }

    // ---- fault

    @Sentence("NONE for others, and ahead of any.")
    static void promise12_noneForOthersAndAheadOfAny() {
        ShearHedge x = new ShearHedge();
        Check.due("fault(0) ahead of any", x.fault(0), -1);
        Check.due("fault(1) ahead of any", x.fault(1), -1);
        Check.refused(x, "hedge(1)", x.hedge(1), 5);
        Check.due("fault(0): 5 is none of these", x.fault(0), -1);
        Check.hedge(x, "heap 16;");
        Check.due("fault(0)", x.fault(0), 4);
        Check.due("fault(1)", x.fault(1), 5);
        for (int what : new int[] {MIN, -1, 2, MAX}) Check.due("fault(" + what + ")", x.fault(what), -1);
    }

    @Sentence("what 0: the FAULT (0 without one), 1: its place (NONE without).")
    static void promise12_0AndNoneWithoutOne() {
        ShearHedge x = UNTAPED.made();
        Check.due("fault(0)", x.fault(0), 2);
        Check.due("fault(1)", x.fault(1), 4);
        Check.hedge(x, "heap 15;");
        Check.due("fault(0) of a hedge that is taken", x.fault(0), 0);
        Check.due("fault(1) of a hedge that is taken", x.fault(1), -1);
        Check.hedge(x, "!");
        Check.due("fault(1) at the first place", x.fault(1), 0);
        Check.seasons(x, "");
        Check.due("fault(0) of SEASONS that are taken", x.fault(0), 0);
        Check.due("fault(1) of SEASONS that are taken", x.fault(1), -1);
    }

    @Sentence("Of the latest of these with STATUS 0 or 10")
    static void promise12_statusFiveIsPassedOver() {
        ShearHedge x = UNTAPED.made();
        Check.hedge(x, "bet 0 21;");
        x.hedge(1);
        x.seasons(1);
        x.seasons(301);
        x.hedge(-1);
        Check.due("fault(0) behind 5", x.fault(0), 4);
        Check.due("fault(1) behind 5", x.fault(1), 6);
        Check.seasons(x, "any");
        Check.due("fault(0) of the latest of both", x.fault(0), 2);
        Check.due("fault(1) of the latest of both", x.fault(1), 3);
        x.back();
        Check.due("fault(0): a MARK does not keep it", x.fault(0), 2);
    }

    // ---- many, sprig, heap, bet

    @Sentence("the SCORE, STATUS tells NONE from -1 (6) (5).")
    static void promise13_what0To6() {
        int[] due = {8, 3, 3, 63, 5, 2, -1};
        for (int what = 0; what <= 6; what++) RICH.asks(due[what], "many", what);
        RICH.refusesEach(5, Twins.outside(0, 6), 0, "many", 0);
    }

    @Sentence("SPRIGS, those that FELL, too (what 0), HEAPS (1), BETS (2)")
    static void promise13_noneAndAsManyAsThereMayBe() {
        Twins full = Twins.of("sprig red;".repeat(20) + "heap 0;".repeat(4) + "bet 0 1;".repeat(5));
        int[] due = {20, 4, 5, (1 << 20) - 1, 0, 0, 0};
        for (int what = 0; what <= 6; what++) full.takes(due[what], "many", what);
        Twins fell = full.and(x -> {
            for (int i = 0; i < 20; i++) x.cut(1, i);
            for (int i = 0; i < 5; i++) x.take(1, i);
        });
        int[] then = {20, 4, 5, 0, 31, 20, -5};
        for (int what = 0; what <= 6; what++) fell.takes(then[what], "many", what);
        Twins nothing = Twins.of("");
        for (int what = 0; what <= 6; what++) nothing.takes(0, "many", what);
    }

    @Sentence("the set of SPRIGS that STAND (1 for SPRIG 0 ..) (3), of BETS that are TAKEN (1 for BET 0 ..) (4)")
    static void promise13_setsOfOneOfNoneAndOfAll() {
        Twins three = Twins.of("sprig green;sprig green;sprig green;bet 1 1;bet 1 1;bet 1 1;");
        for (int i = 0; i < 3; i++) {
            int one = i;
            Twins without = three.and(x -> x.cut(0, one)).and(x -> x.take(1, one));
            without.takes(7 - (1 << i), "many", 3);
            without.takes(1 << i, "many", 4);
        }
        three.takes(7, "many", 3);
        three.takes(0, "many", 4);
        Twins full = Twins.of("sprig red;".repeat(20) + "bet 1 1;".repeat(5));
        full.and(x -> x.cut(1, 19)).takes((1 << 19) - 1, "many", 3);
        full.and(x -> x.take(0, 4)).takes(16, "many", 4);
    }

    @Sentence("how many CUTS were made (5)")
    static void promise13_howManyCutsWereMade() {
        ShearHedge x = UNTAPED.made();
        x.mark();
        x.cut(0, 5);
        x.cut(0, 6);
        x.take(0, 1);
        x.less(0, 1);
        Check.taken(x, "a refused CUT is none, nor is what else is done", x.many(5), 2);
        x.cut(1, 5);
        Check.taken(x, "one more", x.many(5), 3);
        Check.seasons(x, "cut left 0;cut left 0;");
        x.live(0);
        Check.taken(x, "by SEASONS, too, but none that is MISSED", x.many(5), 4);
        x.back();
        Check.taken(x, "taken back", x.many(5), 2);
    }

    @Sentence("Of a SPRIG, what 0: its COLOUR")
    static void promise14_colours() {
        int[] due = {0, 1, 0, 2, 2, 1, 0, 2};
        for (int i = 0; i < 8; i++) RICH.asks(due[i], "sprig", i, 0);
        RICH.and(x -> x.paint(0)).takes(1, "sprig", 0, 0);
    }

    @Sentence("(2; 5; 8)")
    static void promise14_noSuchSprigIs2() {
        RICH.asks(0, "sprig", 0, 0);
        RICH.asks(2, "sprig", 7, 0);
        RICH.refusesEach(2, new long[] {MIN, -1, 8, 19, 20, MAX}, 0, "sprig", 0, 0);
        Twins full = Twins.of("sprig blue;" + "sprig red on 0;".repeat(19));
        full.takes(1, "sprig", 19, 0);
        full.takes((1 << 20) - 2, "sprig", 0, 3);
        full.takes(20, "sprig", 0, 4);
        full.refusesEach(2, new long[] {-1, 20, MAX}, 0, "sprig", 0, 0);
    }

    @Sentence("(2; 5; 8)")
    static void promise14_whatBelow0OrAbove4Is5() {
        RICH.asks(0, "sprig", 0, 0);
        RICH.asks(3, "sprig", 0, 4);
        RICH.refusesEach(5, Twins.outside(0, 4), 1, "sprig", 0, 0);
        RICH.refusesEach(5, Twins.outside(0, 4), 1, "sprig", 6, 0);
    }

    @Sentence("1: the SPRIG on which it is (8: the ground)")
    static void promise14_onTheGroundIs8() {
        RICH.refuses(8, "sprig", 0, 1);
        RICH.takes(0, "sprig", 1, 1);
        RICH.takes(1, "sprig", 2, 1);
        RICH.refuses(8, "sprig", 3, 1);
        RICH.takes(5, "sprig", 6, 1);
        RICH.refuses(8, "sprig", 7, 1);
    }

    @Sentence("2: 1 if it STANDS, else 0, 3: the set of SPRIGS that STAND right on it (1 for SPRIG 0 ..)")
    static void promise14_whatFellStandsNotAndNothingOnIt() {
        RICH.takes(1, "sprig", 5, 2);
        RICH.takes(0, "sprig", 5, 3);
        RICH.takes(0, "sprig", 6, 2);
        RICH.takes(0, "sprig", 6, 3);
        RICH.takes(2, "sprig", 0, 3);
        RICH.takes(4, "sprig", 1, 3);
        Twins all = RICH.and(x -> x.cut(0, 0));
        for (int i = 0; i <= 2; i++) {
            all.takes(0, "sprig", i, 2);
            all.takes(0, "sprig", i, 3);
        }
        all.takes(16, "sprig", 3, 3);
    }

    @Sentence("4: how many would FALL, if it was CUT (8: it FELL)")
    static void promise14_howManyWouldFall() {
        RICH.takes(3, "sprig", 0, 4);
        RICH.takes(1, "sprig", 2, 4);
        RICH.takes(2, "sprig", 3, 4);
        RICH.takes(1, "sprig", 5, 4);
        RICH.refuses(8, "sprig", 6, 4);
        RICH.refuses(8, "sprig", 7, 4);
        RICH.and(x -> x.cut(0, 2)).takes(2, "sprig", 0, 4);
    }

    @Sentence("A HEAP (2).")
    static void promise15_noSuchHeapIs2() {
        RICH.asks(5, "heap", 0);
        RICH.asks(0, "heap", 1);
        RICH.asks(15, "heap", 2);
        RICH.refusesEach(2, Twins.outside(0, 2), 0, "heap", 0);
        Twins full = RICH.and(x -> x.pile(7));
        full.takes(7, "heap", 3);
        full.refusesEach(2, Twins.outside(0, 3), 0, "heap", 0);
        Twins.of("").refuses(2, "heap", 0);
    }

    @Sentence("What a BET is for a SIDE (2).")
    static void promise16_noSuchBetOrSideIs2() {
        RICH.asks(3, "bet", 0, 0);
        RICH.asks(1, "bet", 0, 1);
        RICH.asks(4, "bet", 2, 0);
        RICH.refusesEach(2, Twins.outside(0, 2), 0, "bet", 0, 0);
        RICH.refusesEach(2, Twins.outside(0, 1), 1, "bet", 0, 0);
        Twins full = RICH.and(x -> x.offer(0, 20)).and(x -> x.offer(20, 0));
        full.takes(0, "bet", 3, 0);
        full.takes(20, "bet", 3, 1);
        full.takes(20, "bet", 4, 0);
        full.takes(0, "bet", 4, 1);
        full.refusesEach(2, Twins.outside(0, 4), 0, "bet", 0, 1);
        Twins.of("").refuses(2, "bet", 0, 0);
    }

    // ---- copyColours

    private static Twins rowOf(int many) {
        return RICH.and(x -> x.tray(1, 0, many)).and(x -> {
            for (int i = 0; i < many; i++) x.write(1, i, 77);
        });
    }

    @Sentence("COLOURS of all SPRIGS (3 of one that FELL), one by one, come to a TRAY")
    static void promise17_3OfOneThatFell() {
        int[] due = {0, 1, 0, 2, 2, 1, 3, 3, 77};
        for (int many = 8; many <= 9; many++) {
            ShearHedge x = rowOf(many).takes(8, "copyColours", 1);
            for (int i = 0; i < many; i++) Check.taken(x, "read(1, " + i + ")", x.read(1, i), due[i]);
        }
        ShearHedge fell = rowOf(9).and(x -> x.cut(0, 0)).takes(8, "copyColours", 1);
        for (int i = 0; i <= 2; i++) Check.taken(fell, "it FELL with that below", fell.read(1, i), 3);
    }

    @Sentence("how many (1; 3; 4)")
    static void promise17_tooFewNumbersIs4() {
        rowOf(7).refuses(4, "copyColours", 1);
        rowOf(1).refuses(4, "copyColours", 1);
        rowOf(0).refuses(4, "copyColours", 1);
        rowOf(8).takes(8, "copyColours", 1);
        Twins full = Twins.of("sprig green;".repeat(20));
        full.and(x -> x.tray(3, 2, 20)).takes(20, "copyColours", 3);
        full.and(x -> x.tray(3, 2, 19)).refuses(4, "copyColours", 3);
        Twins.of("").and(x -> x.tray(3, 2, 0)).takes(0, "copyColours", 3);
    }

    @Sentence("(1; 3; 4)")
    static void promise17_noTrayOrAMissingOne() {
        RICH.refusesEach(1, Twins.outside(0, 3), 0, "copyColours", 0);
        RICH.refuses(3, "copyColours", 3);
        Twins.of("").refuses(3, "copyColours", 3);
    }
}
