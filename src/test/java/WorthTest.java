/** Promises 26 to 30: what the HEDGE is worth. */
public final class WorthTest {
    public static void main(String[] args) {
        hedges();
        branches();
        nimbers();
        comparisons();
        Check.end("WorthTest");
    }

    private static void worth(String text, long top, long bottom) {
        ShearHedge x = Check.of(text);
        Check.tells(x, "worth() of " + text, x.worth(), top, bottom);
    }

    private static void hedges() {
        worth("", 0, 1);
        worth("sprig blue;", 1, 1);
        worth("sprig red;", -1, 1);
        worth("sprig green;heap 5;", 0, 1);
        worth("sprig blue;sprig red;", 0, 1);
        worth("sprig blue;sprig blue on 0;", 2, 1);
        worth("sprig blue;sprig red on 0;", 1, 2);
        worth("sprig red;sprig blue on 0;", -1, 2);
        worth("sprig blue;sprig red on 0;sprig red on 1;", 1, 4);
        worth("sprig blue;sprig red on 0;sprig blue on 1;", 3, 4);
        worth("sprig blue;sprig red on 0;sprig red on 0;", 1, 4);
        worth("sprig blue;sprig red on 0;sprig blue on 0;", 1, 1);
        worth("sprig red;sprig blue on 0;sprig blue on 0;sprig blue on 0;", -1, 8);
        worth("sprig blue;sprig blue on 0;sprig red on 1;", 3, 2);
        worth("sprig blue;sprig blue on 0;sprig blue on 1;sprig red on 2;sprig red;", 3, 2);
        worth("bet 9 9;sprig blue;", 1, 1);
        StringBuilder thin = new StringBuilder("sprig blue;");
        for (int i = 0; i < 19; i++) thin.append("sprig red on ").append(i).append(";");
        worth(thin.toString(), 1, 1 << 19);
        StringBuilder broad = new StringBuilder("sprig red;");
        for (int i = 0; i < 19; i++) broad.append("sprig blue on 0;");
        worth(broad.toString(), -1, 1 << 19);
        StringBuilder twenty = new StringBuilder();
        for (int i = 0; i < 20; i++) twenty.append("sprig blue;");
        worth(twenty.toString(), 20, 1);
        ShearHedge x = Check.of("bet 5 7;bet 20 1;sprig red;sprig blue on 0;");
        x.take(1, 0);
        Check.tells(x, "worth() with a SCORE", x.worth(), -15, 2);
        x.take(0, 1);
        Check.tells(x, "worth() with a SCORE", x.worth(), 25, 2);
        x.cut(0, 1);
        Check.tells(x, "worth() behind a CUT", x.worth(), 12, 1);
    }

    private static void branches() {
        ShearHedge x = Check.of("bet 3 3;sprig blue;sprig red on 0;sprig blue on 1;sprig green;sprig red;");
        x.take(0, 0);
        Check.tells(x, "worthOf(0): without the SCORE", x.worthOf(0), 3, 4);
        Check.tells(x, "worthOf(1)", x.worthOf(1), -1, 2);
        Check.tells(x, "worthOf(2)", x.worthOf(2), 1, 1);
        Check.tells(x, "worthOf(4)", x.worthOf(4), -1, 1);
        Check.refused(x, "worthOf(5)", x.worthOf(5), 2);
        Check.refused(x, "worthOf(-1)", x.worthOf(-1), 2);
        Check.refused(x, "worthOf(3): GREEN", x.worthOf(3), 9);
        x.cut(1, 1);
        Check.refused(x, "worthOf(2): it FELL", x.worthOf(2), 9);
        Check.tells(x, "worthOf(0)", x.worthOf(0), 1, 1);
    }

    private static void nimbers() {
        ShearHedge x = Check.of("sprig green;sprig green on 0;sprig green on 1;sprig green on 1;sprig green on 0;sprig blue;heap 6;heap 3;bet 1 1;");
        Check.taken(x, "nimOf(1)", x.nimOf(1), 1);
        Check.taken(x, "nimOf(4)", x.nimOf(4), 1);
        Check.taken(x, "nimOf(0)", x.nimOf(0), 1);
        Check.taken(x, "nimber()", x.nimber(), 1 ^ 6 ^ 3);
        Check.taken(x, "cut", x.cut(0, 2), 1);
        Check.taken(x, "nimOf(1)", x.nimOf(1), 2);
        Check.taken(x, "nimOf(0)", x.nimOf(0), 1 + (2 ^ 1));
        Check.taken(x, "nimber()", x.nimber(), 4 ^ 6 ^ 3);
        Check.refused(x, "nimOf(2): it FELL", x.nimOf(2), 9);
        Check.refused(x, "nimOf(5): BLUE", x.nimOf(5), 9);
        Check.refused(x, "nimOf(6)", x.nimOf(6), 2);
        Check.refused(x, "nimOf(-1)", x.nimOf(-1), 2);
        StringBuilder stalk = new StringBuilder("sprig green;");
        for (int i = 0; i < 15; i++) stalk.append("sprig green on ").append(i).append(";");
        ShearHedge y = Check.of(stalk + "heap 15;");
        Check.taken(y, "nimber()", y.nimber(), 31);
        Check.taken(y, "nimOf(0)", y.nimOf(0), 16);
    }

    private static void comparisons() {
        ShearHedge x = Check.of("sprig blue;sprig red on 0;sprig blue;sprig red on 2;sprig red on 3;sprig red;sprig green;");
        Check.taken(x, "compare(0, 2)", x.compare(0, 2), 2);
        Check.taken(x, "compare(2, 0)", x.compare(2, 0), 0);
        Check.taken(x, "compare(1, 5)", x.compare(1, 5), 1);
        Check.taken(x, "compare(0, 0)", x.compare(0, 0), 1);
        Check.taken(x, "compare(5, 0)", x.compare(5, 0), 0);
        Check.refused(x, "compare(0, 7)", x.compare(0, 7), 2);
        Check.refused(x, "compare(7, 0)", x.compare(7, 0), 2);
        Check.refused(x, "compare(-1, 0)", x.compare(-1, 0), 2);
        Check.refused(x, "compare(6, 7)", x.compare(6, 7), 2);
        Check.refused(x, "compare(0, 6)", x.compare(0, 6), 9);
        Check.refused(x, "compare(6, 0)", x.compare(6, 0), 9);
        x.cut(1, 4);
        Check.refused(x, "compare(4, 0)", x.compare(4, 0), 9);
        Check.refused(x, "compare(0, 4)", x.compare(0, 4), 9);
        Check.taken(x, "compare(0, 2)", x.compare(0, 2), 1);
    }
}
