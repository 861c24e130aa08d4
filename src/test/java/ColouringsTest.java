/** Promises 43 to 49: COLOURINGS, BALANCE, LUCK. ModelTest looks at many more hedges. */
public final class ColouringsTest {
    public static void main(String[] args) {
        colourings();
        colouringsAreRefused();
        odds();
        questions();
        balances();
        lucks();
        Check.end("ColouringsTest");
    }

    private static void colourings() {
        ShearHedge x = Check.of("sprig blue;sprig red on 0;sprig red;sprig blue;sprig green;bet 2 2;");
        Check.taken(x, "colourings(3, 1, 0)", x.colourings(3, 1, 0), 0);
        Check.taken(x, "colourings(3, 1, 1)", x.colourings(3, 1, 1), 1);
        Check.taken(x, "firstRed(3, 1, 1)", x.firstRed(3, 1, 1), 2);
        Check.taken(x, "colourings(3, 2, 2)", x.colourings(3, 2, 2), 1);
        Check.taken(x, "firstRed(3, 2, 0)", x.firstRed(3, 2, 0), 0);
        Check.taken(x, "firstRed(3, -2, 0)", x.firstRed(3, -2, 0), 3);
        Check.taken(x, "colourings(15, 1, 1)", x.colourings(15, 1, 1), 2);
        Check.taken(x, "firstRed(15, 1, 1)", x.firstRed(15, 1, 1), 2 + 4);
        Check.taken(x, "colourings(12, 1, 1)", x.colourings(12, 1, 1), 2);
        Check.taken(x, "firstRed(12, 1, 1)", x.firstRed(12, 1, 1), 4);
        Check.taken(x, "colourings(0, 1, 1)", x.colourings(0, 1, 1), 1);
        Check.taken(x, "firstRed(0, 1, 1)", x.firstRed(0, 1, 1), 0);
        Check.taken(x, "colourings(0, 1, 0)", x.colourings(0, 1, 0), 0);
        Check.refused(x, "firstRed(0, 1, 0)", x.firstRed(0, 1, 0), 8);
        Check.taken(x, "sprig(0, 0): the colours stay", x.sprig(0, 0), 0);
        Check.taken(x, "sprig(1, 0): the colours stay", x.sprig(1, 0), 1);
        x.take(0, 0);
        Check.taken(x, "colourings with a SCORE", x.colourings(3, 5, 1), 1);
        ShearHedge y = Check.of("sprig blue;".repeat(20));
        Check.taken(y, "ten of them", y.colourings(1023, 20, 0), 1);
        Check.taken(y, "ten of them", y.colourings(1023, 10, 0), 252);
        Check.taken(y, "the last ten", y.firstRed(1023 << 10, 18, 0), 1 << 10);
        Check.taken(y, "the last ten", y.firstRed(1023 << 10, 0, 0), 1023 << 10);
        Check.taken(y, "of other ones", y.firstRed(1 << 19 | 4 | 1, 16, 0), 5);
    }

    private static void colouringsAreRefused() {
        ShearHedge x = Check.of("sprig blue;".repeat(9) + "sprig green;sprig red;sprig red;");
        x.cut(0, 0);
        Check.refused(x, "below 0", x.colourings(-1, 0, 0), 5);
        Check.refused(x, "min", x.colourings(Integer.MIN_VALUE, 0, 0), 5);
        Check.refused(x, "one that FELL", x.colourings(1, 0, 0), 5);
        Check.refused(x, "a GREEN one", x.colourings(1 << 9, 0, 0), 5);
        Check.refused(x, "one that there is not", x.colourings(1 << 12, 0, 0), 5);
        Check.refused(x, "one that can't be", x.colourings(1 << 20, 0, 0), 5);
        Check.refused(x, "max", x.colourings(Integer.MAX_VALUE, 0, 0), 5);
        Check.taken(x, "ten", x.colourings(0b110111111110, -10, 0), 1);
        x.grow(0, -1);
        Check.refused(x, "eleven", x.colourings(0b1110111111110, 0, 0), 5);
        Check.refused(x, "eleven", x.firstRed(0b1110111111110, 0, 0), 5);
        Check.refused(x, "eleven", x.ask(0b1110111111110, 0, 0), 5);
        Check.refused(x, "eleven", x.oddsBlue(0b1110111111110, 0, 0, 1), 5);
        Check.refused(x, "above 20", x.colourings(2, 21, 0), 5);
        Check.refused(x, "above 20", x.firstRed(2, 41, 1), 5);
        Check.refused(x, "k", x.ask(2, 1, 21), 5);
        Check.refused(x, "k", x.oddsBlue(2, 1, -1, 1), 5);
    }

    private static void odds() {
        ShearHedge x = Check.of("sprig blue;sprig blue;sprig blue;sprig blue;sprig green;");
        Check.tells(x, "oddsBlue(15, 2, 0, 0)", x.oddsBlue(15, 2, 0, 0), 3, 4);
        Check.tells(x, "oddsBlue(15, 0, 0, 3)", x.oddsBlue(15, 0, 0, 3), 1, 2);
        Check.tells(x, "oddsBlue(15, 4, 0, 3)", x.oddsBlue(15, 4, 0, 3), 1, 1);
        Check.tells(x, "oddsBlue(15, -4, 0, 3)", x.oddsBlue(15, -4, 0, 3), 0, 1);
        Check.refused(x, "no such SPRIG", x.oddsBlue(-1, 0, 0, 5), 2);
        Check.refused(x, "no such SPRIG", x.oddsBlue(15, 0, 0, -1), 2);
        Check.refused(x, "a set that can't be", x.oddsBlue(16, 0, 0, 4), 5);
        Check.refused(x, "no way", x.oddsBlue(15, 1, 0, 4), 8);
        Check.refused(x, "not of the set", x.oddsBlue(15, 0, 0, 4), 9);
        Check.refused(x, "not of the set", x.oddsBlue(14, 1, 0, 0), 8);
        Check.refused(x, "not of the set", x.oddsBlue(14, 2, 0, 0), 9);
    }

    private static void questions() {
        ShearHedge x = Check.of("sprig blue;sprig blue;sprig blue;sprig red on 2;");
        Check.taken(x, "of several the first", x.ask(3, 1, 1), 0);
        Check.taken(x, "ask: 0 and 1 are two to one, 3 is the same in all", x.ask(15, 1, 1), 0);
        Check.refused(x, "ask: without 0 one way is left", x.ask(14, 1, 1), 8);
        Check.refused(x, "one way", x.ask(3, 5, 1), 8);
        Check.refused(x, "no way", x.ask(3, 5, 2), 8);
        Check.refused(x, "nothing to ask", x.ask(0, 5, 1), 8);
        ShearHedge y = Check.of("sprig blue;sprig blue on 0;sprig blue;sprig blue;sprig blue;");
        // 0 is red, 1 blue in all three ways, each of the others blue in two
        int ways = y.colourings(31, 1, 1);
        Check.due("ways", ways, 3);
        Check.taken(y, "ask", y.ask(31, 1, 1), 2);
    }

    private static void balance(String text, int many, int set) {
        ShearHedge x = Check.of(text);
        if (set == -1) {
            Check.refused(x, "balance() of " + text, x.balance(), 8);
            Check.refused(x, "balanceSet() of " + text, x.balanceSet(), 8);
        } else {
            Check.taken(x, "balance() of " + text, x.balance(), many);
            Check.taken(x, "balanceSet() of " + text, x.balanceSet(), set);
        }
    }

    private static void balances() {
        balance("", 0, 0);
        balance("heap 3;heap 3;bet 1 2;", 0, 0);
        balance("heap 3;", 0, -1);
        balance("sprig blue;", 1, 1);
        balance("sprig blue;sprig blue;sprig red;", 1, 1);
        balance("sprig red;sprig blue;sprig blue;", 1, 2);
        balance("sprig blue;sprig green;sprig blue;", 3, 7);
        balance("sprig green;sprig blue;heap 1;sprig blue;sprig blue;", 3, 2 + 8 + 4);
        balance("sprig blue;sprig blue;sprig blue;sprig blue;", 0, -1);
        balance("sprig blue;sprig blue;sprig red;sprig blue;sprig green;", 3, 1 + 2 + 16);
        balance("sprig green;sprig green on 0;sprig green on 1;heap 1;", 1, 2);
        balance("sprig blue;sprig red on 0;sprig red;", 1, 2);
        balance("sprig green;sprig green on 0;sprig green on 0;sprig green on 0;heap 1;", 1, 2);
        balance("sprig red;sprig green;sprig blue;sprig green;sprig blue on 2;", 1, 16);
        balance("sprig red;".repeat(17) + "sprig blue;".repeat(3), 0, -1);
        balance("sprig red;".repeat(8) + "sprig blue;".repeat(11) + "sprig green;", 0, -1);
        balance("sprig red;".repeat(8) + "sprig blue;".repeat(10) + "sprig green;", 3, (3 << 8) + (1 << 18));
        balance("sprig red;".repeat(17) + "sprig green;sprig green on 17;sprig green on 18;", 0, -1);
        balance("sprig red;sprig blue;".repeat(8) + "sprig blue;sprig green;sprig green on 17;sprig green;", 2, (1 << 1) + (1 << 18));
        StringBuilder stalk = new StringBuilder("sprig blue;");
        for (int i = 0; i < 16; i++) stalk.append("sprig blue on ").append(i).append(";");
        ShearHedge last = Check.of(stalk + "sprig red;sprig red;sprig red;bet 0 17;");
        last.take(1, 0);
        Check.taken(last, "balance() by the last three of twenty alone", last.balance(), 3);
        Check.taken(last, "balanceSet()", last.balanceSet(), 7 << 17);
        ShearHedge x = Check.of("sprig blue;sprig blue on 0;sprig red;bet 1 2;heap 1;sprig green;");
        x.cut(0, 1);
        Check.taken(x, "balance()", x.balance(), 0);
        x.take(1, 0);
        Check.refused(x, "balance() with a SCORE", x.balance(), 8);
        x.grow(0, 0);
        Check.taken(x, "balance() with a SCORE", x.balance(), 1);
        Check.taken(x, "balanceSet()", x.balanceSet(), 4);
        Check.taken(x, "many(3): nothing is done", x.many(3), 1 + 4 + 8 + 16);
    }

    private static void lucks() {
        ShearHedge x = Check.of("sprig blue;sprig red on 0;sprig green;heap 0;bet 1 1;");
        Check.refused(x, "luck(0): a BET", x.luck(0), 9);
        Check.refused(x, "luck(2)", x.luck(2), 2);
        Check.refused(x, "luck(-1)", x.luck(-1), 2);
        x.take(0, 0);
        Check.refused(x, "luck(0): a SCORE", x.luck(0), 9);
        x.spend(0);
        Check.tells(x, "luck(0)", x.luck(0), 1, 2);
        Check.tells(x, "luck(1)", x.luck(1), 3, 4);
        x.pile(1);
        Check.refused(x, "luck(0): a HEAP", x.luck(0), 9);
        x.less(1, 0);
        Check.tells(x, "luck(1)", x.luck(1), 3, 4);
        for (int i = 0; i < 3; i++) x.grow(0, -1);
        Check.taken(x, "luck(0) of six", x.luck(0));
        x.grow(1, -1);
        Check.refused(x, "luck(0) of seven", x.luck(0), 9);
        x.cut(1, 1);
        Check.taken(x, "luck(0) of six, and one that FELL", x.luck(0));
        ShearHedge fell = Check.of("heap 1;sprig blue;sprig blue;sprig red on 1;sprig red;sprig red;sprig green;sprig green on 5;sprig blue;");
        fell.less(0, 0);
        Check.refused(fell, "luck(0) of eight", fell.luck(0), 9);
        fell.cut(0, 0);
        fell.cut(1, 3);
        Check.taken(fell, "luck(0) of six", fell.luck(0));
        ShearHedge six = Check.of("sprig blue;sprig red on 0;sprig red;sprig green;sprig green on 3;sprig blue;");
        Check.taken(six, "luck(0) of the same six", six.luck(0));
        Check.due("top(): those that FELL are nothing", fell.top(), six.top());
        Check.due("bottom(): those that FELL are nothing", fell.bottom(), six.bottom());
        Check.hedge(fell, "sprig blue;sprig red;sprig blue;sprig red;sprig green;sprig green;");
        Check.hedge(six, "sprig blue;sprig blue on 0;sprig blue on 1;sprig blue on 2;sprig blue on 3;sprig blue on 4;");
        Check.tells(six, "luck(1)", six.luck(1), 1, 1);
        Check.hedge(six, "sprig blue;sprig red;sprig blue;sprig red;sprig green;sprig green;");
        Check.taken(fell, "luck(1)", fell.luck(1));
        Check.taken(six, "luck(1) of the same, behind another HEDGE", six.luck(1));
        Check.due("top()", six.top(), fell.top());
        Check.due("bottom()", six.bottom(), fell.bottom());
        ShearHedge y = Check.of("heap 1;heap 0;heap 0;heap 0;");
        Check.refused(y, "luck(0): the first HEAP", y.luck(0), 9);
        Check.hedge(y, "heap 0;heap 0;heap 0;heap 1;");
        Check.refused(y, "luck(0): the last HEAP", y.luck(0), 9);
        Check.hedge(y, "");
        Check.tells(y, "luck(0) of nothing", y.luck(0), 0, 1);
        Check.tells(y, "luck(1) of nothing", y.luck(1), 1, 1);
        ShearHedge z = Check.of("sprig green;sprig green on 0;sprig green on 1;");
        Check.tells(z, "luck(0)", z.luck(0), 1, 2);
        z.grow(2, 0);
        Check.tells(z, "luck(0)", z.luck(0), 7, 12);
        Check.tells(z, "luck(1)", z.luck(1), 5, 12);
    }
}
