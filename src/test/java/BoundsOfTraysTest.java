/** The boundaries in the sentences of promises 1 to 8, of TRAYS and of how long an object is used. */
public final class BoundsOfTraysTest {
    private static final int MIN = Twins.MIN;
    private static final int MAX = Twins.MAX;

    public static void main(String[] args) {
        Sentences.run(BoundsOfTraysTest.class);
    }

    private static final Twins NEW = new Twins(x -> { });

    /** TRAY 0 has 6 numbers of 16 bits (10 to 15), TRAY 1 4 of them (20 to 23), TRAY 2 4 of 32 bits, TRAY 3 is MISSING. */
    private static final Twins ROWS = Twins.rich().and(x -> {
        x.tray(0, 1, 6);
        x.tray(1, 1, 4);
        x.tray(2, 2, 4);
        for (int i = 0; i < 6; i++) x.write(0, i, 10 + i);
        for (int i = 0; i < 4; i++) x.write(1, i, 20 + i);
    });

    private static void row(ShearHedge x, int tray, long... numbers) {
        for (int i = 0; i < numbers.length; i++) Check.taken(x, "read(" + tray + ", " + i + ")", x.read(tray, i), numbers[i]);
        Check.refused(x, "read(" + tray + ", " + numbers.length + ")", x.read(tray, numbers.length), 4);
    }

    // ---- ahead of the promises

    @Sentence("An object is used for at most 512 calls after it has been made; what later calls answer is free.")
    static void head_the512thCallIsAnsweredAsTheFirst() {
        ShearHedge x = new ShearHedge();
        Check.due("grow", x.grow(0, -1), 0);
        for (int call = 2; call < 512; call++) Check.due("paint, call " + call, x.paint(0), 1 - call % 2);
        Check.due("the 512th call", x.paint(0), 1);
    }

    // ---- Terms

    @Sentence("TRAYS, 0 to 3,")
    static void terms_traysAre0To3() {
        for (int tray = 0; tray <= 3; tray++) {
            ROWS.takes(1, "tray", tray, 0, 1);
            ShearHedge x = ROWS.made();
            x.tray(tray, 0, 9);
            Check.taken(x, "write", x.write(tray, 0, 5));
            Check.taken(x, "read", x.read(tray, 0), 5);
            Check.taken(x, "copyColours", x.copyColours(tray), 8);
            Check.taken(x, "pour", x.pour(tray, 0, tray, 0, 1));
            Check.taken(x, "stalkWorth", x.stalkWorth(tray, 1));
        }
        long[] none = Twins.outside(0, 3);
        ROWS.refusesEach(1, none, 0, "tray", 0, 0, 1);
        ROWS.refusesEach(1, none, 0, "write", 0, 0, 1);
        ROWS.refusesEach(1, none, 0, "read", 0, 0);
        ROWS.refusesEach(1, none, 0, "pour", 0, 0, 1, 0, 1);
        ROWS.refusesEach(1, none, 2, "pour", 0, 0, 1, 0, 1);
        ROWS.refusesEach(1, none, 0, "copyColours", 0);
        ROWS.refusesEach(1, none, 0, "stalkWorth", 0, 0);
    }

    @Sentence("are MISSING at first")
    static void terms_traysAreMissingAtFirst() {
        for (int tray = 0; tray <= 3; tray++) {
            NEW.refuses(3, "read", tray, 0);
            NEW.refuses(3, "write", tray, 0, 1);
            NEW.refuses(3, "pour", tray, 0, tray, 0, 0);
            NEW.refuses(3, "copyColours", tray);
            NEW.refuses(3, "stalkWorth", tray, 0);
        }
    }

    @Sentence("are MISSING at first, or rows of numbers")
    static void terms_aRowOfNothingIsNotMissing() {
        ShearHedge x = NEW.takes(1, "tray", 2, 0, 0);
        Check.refused(x, "read", x.read(2, 0), 4);
        Check.taken(x, "pour", x.pour(2, 0, 2, 0, 0));
        Check.taken(x, "copyColours of no SPRIGS", x.copyColours(2), 0);
        Check.tells(x, "stalkWorth of no numbers", x.stalkWorth(2, 0), 0, 1);
        for (int tray = 0; tray <= 3; tray++) {
            if (tray != 2) Check.refused(x, "another TRAY", x.read(tray, 0), 3);
        }
    }

    @Sentence("rows of numbers of 8 bits (sort 0), 16 (1), 32 (2) or 64 (3)")
    static void terms_sortsAre0To3() {
        for (int sort = 0; sort <= 3; sort++) ROWS.takes(1, "tray", 3, sort, 2);
        ROWS.refusesEach(1, Twins.outside(0, 3), 1, "tray", 3, 0, 2);
        ROWS.refusesEach(1, Twins.outside(0, 3), 1, "tray", 0, 0, 2);
    }

    private static void cut(int sort, long written, long read) {
        ShearHedge x = NEW.made();
        x.tray(1, sort, 1);
        Check.taken(x, "write of sort " + sort, x.write(1, 0, written));
        Check.taken(x, "read of " + written + " of sort " + sort, x.read(1, 0), read);
    }

    @Sentence("of 8 bits (sort 0)")
    static void terms_sort0WrapsAroundAt8Bits() {
        cut(0, 127, 127);
        cut(0, 128, -128);
        cut(0, -128, -128);
        cut(0, -129, 127);
        cut(0, 255, -1);
        cut(0, 256, 0);
        cut(0, Long.MAX_VALUE, -1);
        cut(0, Long.MIN_VALUE, 0);
    }

    @Sentence("16 (1)")
    static void terms_sort1WrapsAroundAt16Bits() {
        cut(1, 128, 128);
        cut(1, 32767, 32767);
        cut(1, 32768, -32768);
        cut(1, -32768, -32768);
        cut(1, -32769, 32767);
        cut(1, 65535, -1);
        cut(1, 65536, 0);
        cut(1, Long.MAX_VALUE, -1);
        cut(1, Long.MIN_VALUE, 0);
    }

    @Sentence("32 (2)")
    static void terms_sort2WrapsAroundAt32Bits() {
        cut(2, 32768, 32768);
        cut(2, MAX, MAX);
        cut(2, MAX + 1L, MIN);
        cut(2, MIN, MIN);
        cut(2, MIN - 1L, MAX);
        cut(2, 0xffffffffL, -1);
        cut(2, 1L << 32, 0);
        cut(2, Long.MAX_VALUE, -1);
        cut(2, Long.MIN_VALUE, 0);
    }

    @Sentence("or 64 (3), with sign; what is written is cut to these")
    static void terms_sort3KeepsAll64Bits() {
        cut(3, MAX + 1L, MAX + 1L);
        cut(3, MIN - 1L, MIN - 1L);
        cut(3, Long.MAX_VALUE, Long.MAX_VALUE);
        cut(3, Long.MIN_VALUE, Long.MIN_VALUE);
        cut(3, -1, -1);
    }

    // ---- a new object

    @Sentence("TRAYS are MISSING")
    static void promise01_traysAreMissing() {
        ShearHedge x = new ShearHedge();
        for (int tray = 0; tray <= 3; tray++) Check.refused(x, "read", x.read(tray, 0), 3);
    }

    @Sentence("a HEDGE of nothing (SCORE 0)")
    static void promise01_aHedgeOfNothing() {
        ShearHedge x = new ShearHedge();
        for (int what = 0; what <= 6; what++) Check.taken(x, "many(" + what + ")", x.many(what), 0);
        Check.refused(x, "sprig(0, 0)", x.sprig(0, 0), 2);
        Check.refused(x, "heap(0)", x.heap(0), 2);
        Check.refused(x, "bet(0, 0)", x.bet(0, 0), 2);
        Check.tells(x, "worth()", x.worth(), 0, 1);
        Check.taken(x, "nimber()", x.nimber(), 0);
        Check.taken(x, "outcome()", x.outcome(), 3);
    }

    @Sentence("no SEASONS, MARKS")
    static void promise01_noSeasonsAndNoMarks() {
        NEW.refuses(8, "live", 0);
        NEW.refuses(8, "mean", 0, 1);
        NEW.refuses(8, "lived", 0);
        NEW.refuses(8, "back");
    }

    @Sentence("an empty tape")
    static void promise01_anEmptyTape() {
        NEW.refuses(5, "hedge", 1);
        NEW.refuses(5, "seasons", 1);
        NEW.takes(0, "hedge", 0);
        NEW.takes(0, "seasons", 0);
        Check.due("feed", NEW.made().feed(0, 0, 0, 0, 0), 20);
    }

    @Sentence("STATUS 0, the FRACTION 0 by 1.")
    static void promise01_status0AndTheFraction0By1() {
        Check.due("status()", new ShearHedge().status(), 0);
        Check.due("top()", new ShearHedge().top(), 0);
        Check.due("bottom()", new ShearHedge().bottom(), 1);
    }

    // ---- status, top, bottom

    @Sentence("The STATUS of the latest call that has one.")
    static void promise02_statusOfTheLatestCall() {
        ShearHedge x = ROWS.made();
        Check.refused(x, "sprig(8, 0)", x.sprig(8, 0), 2);
        Check.due("status() again", x.status(), 2);
        Check.taken(x, "a call that is taken tells 0 again", x.nimber(), 2 ^ 5 ^ 15);
        Check.refused(x, "heap(3)", x.heap(3), 2);
        Check.taken(x, "true tells 0 again", x.worth());
        Check.refused(x, "lived(5)", x.lived(5), 5);
        Check.refused(x, "one refused call behind another", x.read(3, 0), 3);
        Check.taken(x, "a number below 0 tells 0, too", x.many(6), -1);
    }

    @Sentence("The STATUS of the latest call that has one.")
    static void promise02_callsWithoutStatusLeaveIt() {
        ShearHedge x = ROWS.made();
        x.read(3, 0);
        x.top();
        Check.due("behind top()", x.status(), 3);
        x.bottom();
        Check.due("behind bottom()", x.status(), 3);
        x.fault(0);
        Check.due("behind fault(0)", x.status(), 3);
        x.fault(2);
        Check.due("behind fault(2), which gives NONE", x.status(), 3);
        Check.due("feed", x.feed(1, 2, 3, 4, 5), 40);
        Check.due("behind feed()", x.status(), 3);
        for (int i = 0; i < 43; i++) x.feed(0, 0, 0, 0, 0);
        Check.due("feed of more than 900", x.feed(0, 0, 0, 0, 0), -1);
        Check.due("behind feed(), which gives NONE", x.status(), 3);
    }

    @Sentence("The top of the FRACTION told latest.")
    static void promise03_topOfTheLatestFraction() {
        ShearHedge x = ROWS.made();
        Check.due("told by simplest()", x.top(), 13);
        Check.tells(x, "heat(1, 1)", x.heat(1, 1), -5, 2);
        x.nimber();
        x.moves(0);
        x.paint(0);
        Check.due("calls that tell none leave it", x.top(), -5);
        x.worthOf(3);
        x.stop(2);
        x.mean(0, 0);
        Check.due("refused calls leave it", x.top(), -5);
    }

    @Sentence("Its bottom, above 0.")
    static void promise04_bottomIsAbove0() {
        ShearHedge x = ROWS.made();
        Check.due("told by simplest()", x.bottom(), 4);
        Check.tells(x, "below 0", x.heat(1, 1), -5, 2);
        Check.tells(x, "a whole number below 0", x.simplest(-20, 0, -1, 0), -2, 1);
        Check.tells(x, "0", x.simplest(-1, 0, 1, 0), 0, 1);
        x.heat(0, 2);
        x.worthOf(8);
        Check.due("refused calls leave it", x.bottom(), 1);
    }

    // ---- tray

    @Sentence("(at most 60; 5)")
    static void promise05_atMost60() {
        ShearHedge x = ROWS.takes(1, "tray", 3, 1, 60);
        Check.taken(x, "write the 60th", x.write(3, 59, 7));
        Check.taken(x, "read the 60th", x.read(3, 59), 7);
        Check.refused(x, "there is no 61st", x.read(3, 60), 4);
        ROWS.takes(1, "tray", 0, 0, 59);
        ROWS.refusesEach(5, new long[] {61, 900, MAX}, 2, "tray", 3, 0, 0);
        ROWS.refusesEach(5, new long[] {61, 900, MAX}, 2, "tray", 0, 1, 0);
    }

    @Sentence("A TRAY is a row of so many numbers (at most 60; 5), all 0")
    static void promise05_all0() {
        ShearHedge x = ROWS.made();
        Check.taken(x, "a row anew, shorter", x.tray(0, 1, 3));
        row(x, 0, 0, 0, 0);
        Check.taken(x, "a row anew, longer", x.tray(0, 3, 8));
        row(x, 0, 0, 0, 0, 0, 0, 0, 0, 0);
        row(x, 1, 20, 21, 22, 23);
        ShearHedge y = ROWS.made();
        Check.taken(y, "a row anew, as long", y.tray(0, 1, 6));
        row(y, 0, 0, 0, 0, 0, 0, 0);
    }

    @Sentence("(1; 5; 6)")
    static void promise05_belowZeroIs6() {
        ROWS.takes(1, "tray", 0, 0, 0);
        ROWS.refusesEach(6, new long[] {-1, -60, MIN}, 2, "tray", 0, 0, 0);
        ROWS.refusesEach(6, new long[] {-1, -60, MIN}, 2, "tray", 3, 3, 0);
    }

    @Sentence("(1; 5; 6)")
    static void promise05_noSuchTrayOrSortIs1() {
        ROWS.refuses(1, "tray", -1, 0, 1);
        ROWS.refuses(1, "tray", 4, 0, 1);
        ROWS.refuses(1, "tray", 0, -1, 1);
        ROWS.refuses(1, "tray", 0, 4, 1);
        ROWS.takes(1, "tray", 3, 3, 1);
    }

    // ---- write, read

    @Sentence("A number comes to a place of a TRAY (1; 3; 4).")
    static void promise06_theFirstPlaceAndTheLast() {
        row(ROWS.takes(1, "write", 0, 0, 99), 0, 99, 11, 12, 13, 14, 15);
        row(ROWS.takes(1, "write", 0, 5, 99), 0, 10, 11, 12, 13, 14, 99);
        ROWS.refusesEach(4, Twins.outside(0, 5), 1, "write", 0, 0, 99);
        ROWS.refusesEach(4, Twins.outside(0, 3), 1, "write", 2, 0, 99);
    }

    @Sentence("(1; 3; 4)")
    static void promise06_noTrayAMissingOneARowOfNothing() {
        ROWS.refuses(1, "write", -1, 0, 99);
        ROWS.refuses(1, "write", 4, 0, 99);
        ROWS.refuses(3, "write", 3, 0, 99);
        Twins nothing = ROWS.and(x -> x.tray(3, 0, 0));
        nothing.refuses(4, "write", 3, 0, 99);
        nothing.refuses(4, "write", 3, -1, 99);
    }

    @Sentence("The number in a place of a TRAY;")
    static void promise07_theFirstPlaceAndTheLast() {
        ROWS.asks(10, "read", 0, 0);
        ROWS.asks(15, "read", 0, 5);
        ROWS.refusesEach(4, Twins.outside(0, 5), 1, "read", 0, 0);
        ROWS.refusesEach(4, Twins.outside(0, 3), 1, "read", 1, 0);
    }

    @Sentence("STATUS tells NONE from -1")
    static void promise07_statusTellsNoneFromMinus1() {
        Twins below = ROWS.and(x -> x.write(0, 2, -1));
        below.takes(-1, "read", 0, 2);
        below.refuses(4, "read", 0, 6);
    }

    @Sentence("(1; 3; 4)")
    static void promise07_noTrayAMissingOneARowOfNothing() {
        ROWS.refuses(1, "read", -1, 0);
        ROWS.refuses(1, "read", 4, 0);
        ROWS.refuses(3, "read", 3, 0);
        ROWS.and(x -> x.tray(3, 0, 0)).refuses(4, "read", 3, 0);
    }

    // ---- pour

    @Sentence("So many numbers from place i on of a TRAY come to place j on of another one")
    static void promise08_upToTheLastPlaceOfBoth() {
        row(ROWS.takes(1, "pour", 0, 2, 1, 0, 4), 1, 12, 13, 14, 15);
        row(ROWS.takes(1, "pour", 0, 0, 1, 3, 1), 1, 20, 21, 22, 10);
        row(ROWS.takes(1, "pour", 1, 0, 0, 2, 4), 0, 10, 11, 20, 21, 22, 23);
        row(ROWS.takes(1, "pour", 1, 3, 0, 5, 1), 0, 10, 11, 12, 13, 14, 23);
        row(ROWS.takes(1, "pour", 0, 0, 0, 0, 6), 0, 10, 11, 12, 13, 14, 15);
    }

    @Sentence("or the same, as they were")
    static void promise08_onTheSameTrayAsTheyWere() {
        row(ROWS.takes(1, "pour", 0, 0, 0, 1, 5), 0, 10, 10, 11, 12, 13, 14);
        row(ROWS.takes(1, "pour", 0, 1, 0, 0, 5), 0, 11, 12, 13, 14, 15, 15);
        row(ROWS.takes(1, "pour", 0, 0, 0, 4, 2), 0, 10, 11, 12, 13, 10, 11);
    }

    @Sentence("1, 3 (either), 11, 6, 4")
    static void promise08_noSuchPlaceOrTooFewNumbers() {
        ROWS.refusesEach(4, new long[] {MIN, -1, 6, 7, MAX}, 1, "pour", 0, 0, 1, 0, 1);
        ROWS.refusesEach(4, new long[] {MIN, -1, 4, 5, MAX}, 3, "pour", 0, 0, 1, 0, 1);
        ROWS.refuses(4, "pour", 0, 3, 1, 0, 4);
        ROWS.refuses(4, "pour", 0, 0, 1, 1, 4);
        ROWS.refuses(4, "pour", 1, 1, 0, 0, 4);
        ROWS.refuses(4, "pour", 0, 1, 0, 0, 6);
        ROWS.refuses(4, "pour", 0, 0, 0, 1, 6);
        ROWS.refuses(4, "pour", 1, 0, 0, 0, 5);
        ROWS.refusesEach(4, new long[] {7, 61, MAX}, 4, "pour", 0, 0, 0, 0, 1);
        ROWS.refusesEach(4, new long[] {7, 61, MAX}, 4, "pour", 0, 5, 0, 5, 1);
        ROWS.refuses(4, "pour", 0, MAX, 0, MAX, MAX);
    }

    @Sentence("So many numbers")
    static void promise08_of0Numbers() {
        row(ROWS.takes(1, "pour", 0, 0, 1, 0, 0), 1, 20, 21, 22, 23);
        row(ROWS.takes(1, "pour", 0, 5, 1, 3, 0), 1, 20, 21, 22, 23);
        ROWS.refuses(4, "pour", 0, -1, 1, 0, 0);
        ROWS.refuses(4, "pour", 0, 0, 1, -1, 0);
        ROWS.refuses(4, "pour", 0, 7, 1, 0, 0);
        ROWS.refuses(4, "pour", 0, 0, 1, 5, 0);
    }

    @Sentence("1, 3 (either), 11, 6, 4")
    static void promise08_belowZeroIs6() {
        ROWS.refusesEach(6, new long[] {-1, -6, MIN}, 4, "pour", 0, 0, 1, 0, 0);
        ROWS.refusesEach(6, new long[] {-1, -6, MIN}, 4, "pour", 0, 3, 0, 3, 0);
    }

    @Sentence("3 (either)")
    static void promise08_eitherIsMissing() {
        ROWS.refuses(3, "pour", 3, 0, 0, 0, 1);
        ROWS.refuses(3, "pour", 0, 0, 3, 0, 1);
        ROWS.refuses(3, "pour", 3, 0, 3, 0, 1);
        ROWS.refuses(3, "pour", 3, 0, 3, 0, 0);
    }

    @Sentence("11")
    static void promise08_traysOfUnlikeSorts() {
        ROWS.refuses(11, "pour", 0, 0, 2, 0, 1);
        ROWS.refuses(11, "pour", 2, 0, 1, 0, 1);
        for (int sort = 0; sort <= 3; sort++) {
            int other = sort;
            for (int to = 0; to <= 3; to++) {
                int of = to;
                Twins two = NEW.and(x -> {
                    x.tray(0, other, 2);
                    x.tray(3, of, 2);
                    x.write(0, 1, 5);
                });
                if (sort == to) row(two.takes(1, "pour", 0, 0, 3, 0, 2), 3, 0, 5);
                else two.refuses(11, "pour", 0, 0, 3, 0, 2);
            }
        }
    }

    @Sentence("1, 3 (either), 11, 6, 4, asked in this order")
    static void promise08_askedInThisOrder() {
        ROWS.refuses(1, "pour", 4, 0, 3, 0, -1);
        ROWS.refuses(1, "pour", 3, 0, 4, 0, -1);
        ROWS.refuses(1, "pour", -1, 9, 0, 9, 99);
        ROWS.refuses(3, "pour", 3, -1, 2, -1, -1);
        ROWS.refuses(3, "pour", 2, -1, 3, -1, -1);
        ROWS.refuses(11, "pour", 0, -1, 2, -1, -1);
        ROWS.refuses(11, "pour", 2, 9, 0, 9, 99);
        ROWS.refuses(6, "pour", 0, -1, 1, -1, -1);
        ROWS.refuses(6, "pour", 0, 9, 1, 9, -1);
        ROWS.refuses(4, "pour", 0, 9, 1, 9, 1);
    }
}
