/** The boundaries in paragraph 5: of two reasons to refuse a call the first, and what a refused call leaves. */
public final class BoundsOfStatusTest {
    /** 0 BLUE, 1 RED on 0, 2 BLUE on 1, 3 GREEN, 4 GREEN on 3, 5 RED, 6 BLUE on 5 (FELL), 7 GREEN (FELL). */
    private static final Twins RICH = Twins.rich();
    private static final Twins NEW = new Twins(x -> { });
    /** Twenty SPRIGS (19 FELL), four HEAPS, five BETS, three MARKS. */
    private static final Twins FULL = Twins.of("sprig blue;".repeat(19) + "sprig green;" + "heap 3;".repeat(4) + "bet 1 1;".repeat(5)).and(x -> {
        x.cut(0, 19);
        x.mark();
    });

    public static void main(String[] args) {
        Sentences.run(BoundsOfStatusTest.class);
    }

    @Sentence("STATUS of a call is the first of these that holds: 1 no such TRAY (or sort).")
    static void paragraph5_noSuchTrayAheadOfAll() {
        RICH.refuses(1, "tray", 4, 0, 61);
        RICH.refuses(1, "tray", 4, 0, -1);
        RICH.refuses(1, "tray", 0, 4, 61);
        RICH.refuses(1, "tray", 0, -1, -1);
        RICH.refuses(1, "tray", 4, 4, 61);
        RICH.refuses(1, "write", 4, -1, 0);
        RICH.refuses(1, "read", -1, 99);
        RICH.refuses(1, "copyColours", 4);
        RICH.refuses(1, "stalkWorth", 4, 21);
        RICH.refuses(1, "stalkWorth", -1, -1);
    }

    @Sentence("2 no such SIDE, SPRIG, HEAP, BET.")
    static void paragraph5_noSuchOneAheadOfWhatCantBe() {
        RICH.refuses(2, "sprig", 8, 5);
        RICH.refuses(2, "sprig", -1, -1);
        RICH.refuses(2, "bet", 3, 2);
        RICH.refuses(2, "cut", 2, 6);
        RICH.refuses(2, "cut", 0, 8);
        RICH.refuses(2, "cut", 2, 8);
        RICH.refuses(2, "take", 2, 0);
        RICH.refuses(2, "take", 0, 3);
        RICH.refuses(2, "less", 3, 16);
        RICH.refuses(2, "less", -1, -1);
        RICH.refuses(2, "grow", 3, 8);
        RICH.refuses(2, "grow", -1, -2);
        FULL.refuses(2, "grow", 0, 20);
        FULL.refuses(2, "grow", 3, 20);
        RICH.refuses(2, "compare", 3, 8);
        RICH.refuses(2, "compare", 8, 6);
        RICH.refuses(2, "bestOf", 2, 3);
        NEW.refuses(2, "bestOf", 2, 0);
        RICH.refuses(2, "heat", 3, 2);
        RICH.refuses(2, "oddsBlue", 8, 0, 0, 8);
        RICH.refuses(2, "oddsBlue", 1, 21, 0, -1);
        RICH.refuses(2, "oddsBlue", 1, 20, 0, 8);
        RICH.refuses(2, "luck", 2);
    }

    @Sentence("3 the TRAY is MISSING. 4 a place that the TRAY has not, or too few numbers.")
    static void paragraph5_missingAheadOfPlacesAheadOfNumbers() {
        RICH.refuses(3, "write", 3, -1, 0);
        RICH.refuses(3, "read", 3, 60);
        RICH.refuses(3, "copyColours", 3);
        RICH.refuses(3, "stalkWorth", 3, -1);
        RICH.refuses(3, "stalkWorth", 3, 21);
        Twins two = RICH.and(x -> x.write(1, 0, 2));
        two.refuses(4, "stalkWorth", 1, 4);
        two.refuses(4, "stalkWorth", 1, 21);
        two.refuses(5, "stalkWorth", 1, 3);
        two.refuses(5, "stalkWorth", 1, -1);
    }

    @Sentence("5 a number that can't be (a number in a TRAY, too). 6 below 0 (a TRAY's length). 7 one too many. 8 there is none. 9 it can't be.")
    static void paragraph5_numbersAheadOfTheRest() {
        // 5 ahead of 7
        FULL.refuses(5, "grow", 3, -1);
        FULL.refuses(5, "grow", 3, 19);
        FULL.refuses(5, "pile", 16);
        FULL.refuses(5, "pile", -1);
        FULL.refuses(5, "offer", 0, 0);
        FULL.refuses(5, "offer", 21, 1);
        // 5 ahead of 8
        RICH.refuses(5, "sprig", 6, 5);
        RICH.refuses(5, "sprig", 0, -1);
        NEW.refuses(5, "bestOf", 0, 3);
        RICH.refuses(5, "stalkAt", 21, 0, 99);
        RICH.refuses(5, "firstRed", 8, 20, 0);
        RICH.refuses(5, "oddsBlue", 8, 20, 0, 0);
        RICH.refuses(5, "ask", 8, 20, 0);
        NEW.refuses(5, "live", 10000);
        NEW.refuses(5, "lived", 5);
        NEW.refuses(5, "mean", 0, 21);
        // 5 ahead of 9
        RICH.refuses(5, "less", 1, 16);
        RICH.refuses(5, "less", 1, -1);
        RICH.refuses(5, "grow", 3, 6);
        RICH.refuses(5, "simplest", 21, 0, 0, 0);
        RICH.refuses(5, "oddsBlue", 8, -5, 2, 3);
        // 7 ahead of 9
        FULL.refuses(7, "grow", 2, 0);
        FULL.refuses(7, "grow", 2, 19);
        // 8 ahead of 9
        RICH.refuses(8, "oddsBlue", 1, 20, 0, 3);
    }

    @Sentence("A call with another STATUS than 0 gives NONE, or false, and changes nothing but STATUS")
    static void paragraph5_changesNothingButStatus() {
        // each STATUS once; the other tests look at this in each of their cases
        RICH.refuses(1, "tray", 0, 4, 4);
        RICH.refuses(2, "cut", 0, 20);
        RICH.refuses(3, "write", 3, 0, 1);
        RICH.refuses(4, "write", 0, 4, 1);
        RICH.refuses(5, "less", 0, -1);
        RICH.refuses(6, "tray", 0, 1, -1);
        FULL.refuses(7, "mark");
        NEW.refuses(8, "back");
        RICH.refuses(9, "take", 0, 0);
        RICH.refuses(11, "pour", 0, 0, 2, 0, 1);
    }

    @Sentence("10 a FAULT. 11 TRAYS of unlike sorts. 0 else.")
    static void paragraph5_faultsUnlikeSortsAnd0() {
        Twins.faultyHedge("heap", 2, 4);
        Twins.faultySeasons("loop", 2, 4);
        RICH.refuses(11, "pour", 0, 0, 2, 0, 1);
        RICH.refuses(11, "pour", 2, 0, 1, 0, 0);
        RICH.takes(1, "pour", 0, 0, 1, 0, 3);
        ShearHedge x = RICH.made();
        x.cut(0, 1);
        Check.refused(x, "cut(0, 1)", x.cut(0, 1), 9);
        Check.taken(x, "0 else", x.cut(0, 2), 1);
        Check.refused(x, "pour(0, 0, 2, 0, 1)", x.pour(0, 0, 2, 0, 1), 11);
        Check.taken(x, "0 else", x.pour(0, 0, 1, 0, 0));
    }

    @Sentence("(but hedge(), seasons() with 10 the tape, and what fault() tells)")
    static void paragraph5_tenChangesTheTapeAndTheFault() {
        Twins.faultyHedge("sprig blue;heap 3;bet 1 1;.", 1, 26);
        Twins.faultySeasons("grow blue;any;when wins left;", 2, 29);
        ShearHedge x = RICH.made();
        Check.refused(x, "hedge(4)", x.hedge(4), 10);
        Check.due("fault(0)", x.fault(0), 2);
        Check.due("fault(1)", x.fault(1), 4);
        Check.refused(x, "the tape is empty", x.hedge(1), 5);
        Check.due("5 changes no FAULT", x.fault(1), 4);
    }

    @Sentence("status(), fault(), feed(), top(), bottom() have none.")
    static void paragraph5_callsThatHaveNone() {
        ShearHedge x = RICH.made();
        x.pour(0, 0, 2, 0, 0);
        x.fault(0);
        x.fault(2);
        x.fault(-1);
        x.feed(0, 0, 0, 0, 0);
        x.top();
        x.bottom();
        x.status();
        Check.due("status()", x.status(), 11);
        for (int i = 0; i < 44; i++) x.feed(0, 0, 0, 0, 0);
        Check.due("feed of more than 900", x.feed(0, 0, 0, 0, 0), -1);
        Check.due("status()", x.status(), 11);
    }

    @Sentence("Where a number may be below 0, STATUS tells NONE from -1.")
    static void paragraph5_statusTellsNoneFromMinus1() {
        RICH.takes(-1, "many", 6);
        RICH.and(x -> x.write(0, 0, -1)).takes(-1, "read", 0, 0);
        Twins.of("bet 0 1;").takes(-1, "take", 1, 0);
        Twins.of("bet 0 2;").and(x -> x.take(1, 0)).takes(-1, "spend", 1);
        Twins.of("bet 0 1;").refuses(2, "take", 1, 1);
        Twins.of("bet 0 1;").refuses(9, "spend", 1);
        RICH.refuses(5, "many", 7);
        RICH.refuses(4, "read", 0, 4);
    }
}
