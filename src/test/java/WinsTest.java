/** Promises 31 to 38: who wins. ModelTest plays out whole games besides. */
public final class WinsTest {
    public static void main(String[] args) {
        outcomes();
        moves();
        best();
        stops();
        heats();
        nothingOfTheOldHedge();
        Check.end("WinsTest");
    }

    private static void outcome(String text, int outcome) {
        ShearHedge x = Check.of(text);
        Check.taken(x, "outcome() of " + text, x.outcome(), outcome);
        Check.taken(x, "winner(0) of " + text, x.winner(0), outcome == 0 || outcome == 2 ? 0 : 1);
        Check.taken(x, "winner(1) of " + text, x.winner(1), outcome == 1 || outcome == 2 ? 1 : 0);
    }

    private static void outcomes() {
        outcome("", 3);
        outcome("sprig blue;", 0);
        outcome("sprig red;", 1);
        outcome("sprig green;", 2);
        outcome("sprig blue;sprig red;", 3);
        outcome("sprig blue;sprig red;heap 1;", 2);
        outcome("sprig green;heap 1;", 3);
        outcome("sprig blue;sprig red on 0;heap 15;", 0);
        outcome("sprig red;sprig blue on 0;heap 15;", 1);
        outcome("bet 1 1;", 2);
        outcome("bet 1 1;bet 1 1;", 3);
        outcome("bet 1 1;bet 1 1;heap 2;", 2);
        outcome("bet 1 0;", 2);
        outcome("bet 0 1;", 2);
        outcome("bet 1 0;heap 1;", 0);
        outcome("bet 1 0;bet 1 0;", 0);
        outcome("bet 0 2;bet 0 1;", 1);
        outcome("bet 0 20;sprig blue;", 2);
        outcome("bet 2 1;bet 1 2;", 3);
        outcome("bet 3 1;bet 1 1;sprig red;", 2);
        outcome("bet 3 3;bet 2 2;bet 1 1;", 2);
        outcome("bet 3 3;bet 2 2;bet 2 2;bet 1 1;", 2);
        outcome("bet 1 1;sprig red;", 2);
        outcome("bet 1 1;sprig red;sprig red;", 1);
        outcome("bet 1 1;sprig red;heap 3;", 1);
        outcome("bet 1 1;sprig blue;sprig red on 0;", 2);
        ShearHedge x = Check.of("bet 1 1;bet 4 4;");
        x.take(1, 1);
        Check.taken(x, "outcome() with one TAKEN", x.outcome(), 1);
        x.take(0, 0);
        Check.taken(x, "outcome() with all TAKEN", x.outcome(), 1);
        Check.refused(x, "winner(2)", x.winner(2), 2);
        Check.refused(x, "winner(-1)", x.winner(-1), 2);
    }

    private static void moves() {
        ShearHedge x = Check.of("sprig blue;sprig red on 0;sprig green;heap 3;heap 0;heap 15;bet 1 2;bet 3 1;");
        Check.taken(x, "moves(0)", x.moves(0), 2 + 18 + 2);
        Check.taken(x, "moves(1)", x.moves(1), 2 + 18 + 2);
        x.take(0, 1);
        Check.taken(x, "moves(0): one to SPEND", x.moves(0), 2 + 18 + 1 + 1);
        Check.taken(x, "moves(1)", x.moves(1), 2 + 18 + 1);
        x.cut(0, 0);
        Check.taken(x, "moves(0)", x.moves(0), 1 + 18 + 1 + 1);
        Check.taken(x, "moves(1)", x.moves(1), 1 + 18 + 1);
        x.less(2, 1);
        Check.taken(x, "moves(1)", x.moves(1), 1 + 4 + 1);
        Check.refused(x, "moves(2)", x.moves(2), 2);
        Check.refused(x, "moves(-1)", x.moves(-1), 2);
        Check.refused(x, "wins(2)", x.wins(2), 2);
        Check.refused(x, "wins(-1)", x.wins(-1), 2);
        ShearHedge y = Check.of("sprig blue;sprig blue;sprig red;heap 5;heap 1;");
        Check.taken(y, "wins(0): all but the cuts", y.wins(0), 6);
        Check.taken(y, "wins(1)", y.wins(1), 0);
        ShearHedge z = Check.of("heap 5;heap 3;heap 15;");
        Check.taken(z, "wins(1)", z.wins(1), 1);
        Check.taken(z, "many(4): nothing is done", z.many(4), 0);
        Check.taken(z, "heap(2): nothing is done", z.heap(2), 15);
    }

    private static void best(ShearHedge x, int side, int kind, int place, int left) {
        Check.taken(x, "bestOf(side, 0)", x.bestOf(side, 0), kind);
        Check.taken(x, "bestOf(side, 1)", x.bestOf(side, 1), place);
        Check.taken(x, "bestOf(side, 2)", x.bestOf(side, 2), left);
    }

    private static void best() {
        best(Check.of("sprig red;sprig blue;sprig blue;"), 0, 0, 1, 0);
        best(Check.of("sprig blue;sprig blue;heap 2;sprig green;"), 0, 0, 0, 0);
        best(Check.of("sprig green;sprig green on 0;sprig red;sprig red;heap 1;"), 1, 0, 0, 0);
        best(Check.of("heap 2;bet 1 1;bet 3 3;"), 0, 1, 1, 0);
        best(Check.of("heap 5;heap 3;heap 15;"), 1, 2, 2, 6);
        best(Check.of("heap 5;heap 3;"), 0, 2, 0, 3);
        best(Check.of("sprig blue;sprig red;heap 3;sprig green;"), 1, 2, 0, 1);
        best(Check.of("sprig blue;sprig blue;heap 3;"), 0, 0, 0, 0);
        best(Check.of("sprig red;sprig blue;heap 3;heap 2;"), 0, 2, 0, 2);
        ShearHedge x = Check.of("bet 4 4;");
        x.take(0, 0);
        best(x, 0, 3, 0, 0);
        Check.taken(x, "wins(0)", x.wins(0), 1);
        x.pile(2);
        best(x, 0, 2, 0, 0);
        Check.taken(x, "wins(0)", x.wins(0), 3);
        Check.refused(x, "bestOf(1, 0)", x.bestOf(1, 0), 8);
        Check.refused(x, "bestOf(1, 3)", x.bestOf(1, 3), 5);
        Check.refused(x, "bestOf(0, 3)", x.bestOf(0, 3), 5);
        Check.refused(x, "bestOf(0, -1)", x.bestOf(0, -1), 5);
        Check.refused(x, "bestOf(2, 3)", x.bestOf(2, 3), 2);
        Check.refused(x, "bestOf(-1, 0)", x.bestOf(-1, 0), 2);
    }

    private static void stops() {
        ShearHedge x = Check.of("sprig blue;sprig red on 0;bet 5 2;bet 1 1;bet 0 7;");
        Check.tells(x, "stop(0)", x.stop(0), 1 + 2 * (5 - 7 + 1), 2);
        Check.tells(x, "stop(1)", x.stop(1), 1 + 2 * (-2 + 0 - 1), 2);
        Check.refused(x, "stop(2)", x.stop(2), 2);
        Check.refused(x, "stop(-1)", x.stop(-1), 2);
        x.take(0, 0);
        Check.tells(x, "stop(0)", x.stop(0), 1 + 2 * (5 + 0 - 1), 2);
        Check.tells(x, "stop(1)", x.stop(1), 1 + 2 * (5 - 7 + 1), 2);
        Check.taken(x, "many(4): nothing is done", x.many(4), 1);
        Check.taken(x, "many(6): nothing is done", x.many(6), 5);
        x.take(1, 1);
        x.take(1, 2);
        Check.tells(x, "stop(0): all are TAKEN", x.stop(0), 1 + 2 * (5 - 1 - 7), 2);
        ShearHedge y = Check.of("bet 6 0;bet 0 6;bet 3 3;");
        Check.tells(y, "stop(0): of several the first", y.stop(0), 6 - 6 + 3, 1);
        Check.tells(y, "stop(1): of several the first", y.stop(1), 0 + 0 - 3, 1);
    }

    private static void nothingOfTheOldHedge() {
        ShearHedge x = Check.of("sprig blue;".repeat(20) + "heap 15;heap 14;heap 13;heap 11;" + "bet 20 20;".repeat(5));
        Check.taken(x, "moves(0)", x.moves(0), 20 + 53 + 5);
        Check.hedge(x, "sprig red;heap 1;bet 2 1;");
        Check.taken(x, "moves(0)", x.moves(0), 2);
        Check.taken(x, "moves(1)", x.moves(1), 3);
        Check.taken(x, "nimber()", x.nimber(), 1);
        Check.tells(x, "stop(0)", x.stop(0), 1, 1);
        x.take(0, 0);
        Check.refused(x, "hottest()", x.hottest(), 8);
        Check.tells(x, "stop(0)", x.stop(0), 1, 1);
        Check.hedge(x, "");
        Check.taken(x, "moves(0)", x.moves(0), 0);
        Check.taken(x, "moves(1)", x.moves(1), 0);
        Check.refused(x, "hottest()", x.hottest(), 8);
        Check.taken(x, "balance()", x.balance(), 0);
        Check.tells(x, "luck(1)", x.luck(1), 1, 1);
    }

    private static void heats() {
        ShearHedge x = Check.of("bet 1 1;bet 4 3;bet 2 5;bet 0 20;bet 20 20;");
        Check.taken(x, "hottest()", x.hottest(), 4);
        Check.tells(x, "heat(4, 0)", x.heat(4, 0), 20, 1);
        Check.tells(x, "heat(4, 1)", x.heat(4, 1), 0, 1);
        x.take(0, 4);
        Check.taken(x, "hottest()", x.hottest(), 3);
        Check.tells(x, "heat(4, 0): TAKEN", x.heat(4, 0), 20, 1);
        x.take(0, 3);
        Check.taken(x, "hottest(): of several the first", x.hottest(), 1);
        x.take(0, 1);
        Check.taken(x, "hottest()", x.hottest(), 2);
        x.take(0, 2);
        Check.taken(x, "hottest()", x.hottest(), 0);
        x.take(0, 0);
        Check.refused(x, "hottest()", x.hottest(), 8);
        Check.tells(x, "heat(1, 0)", x.heat(1, 0), 7, 2);
        Check.tells(x, "heat(1, 1)", x.heat(1, 1), 1, 2);
        Check.tells(x, "heat(2, 1)", x.heat(2, 1), -3, 2);
        Check.tells(x, "heat(3, 1)", x.heat(3, 1), -10, 1);
        Check.refused(x, "heat(5, 0)", x.heat(5, 0), 2);
        Check.refused(x, "heat(-1, 0)", x.heat(-1, 0), 2);
        Check.refused(x, "heat(5, 2)", x.heat(5, 2), 2);
        Check.refused(x, "heat(0, 2)", x.heat(0, 2), 5);
        Check.refused(x, "heat(0, -1)", x.heat(0, -1), 5);
        ShearHedge y = new ShearHedge();
        Check.refused(y, "hottest() of nothing", y.hottest(), 8);
    }
}
