/** Promises 18 to 25: what is done. */
public final class DeedsTest {
    public static void main(String[] args) {
        cuts();
        takings();
        lessenings();
        spending();
        growth();
        paint();
        piles();
        offers();
        Check.end("DeedsTest");
    }

    private static void cuts() {
        ShearHedge x = Check.of("sprig blue;sprig red on 0;sprig blue on 1;sprig green;sprig green on 3;sprig red;sprig blue on 5;");
        Check.refused(x, "cut(2, 0)", x.cut(2, 0), 2);
        Check.refused(x, "cut(-1, 0)", x.cut(-1, 0), 2);
        Check.refused(x, "cut(0, 7)", x.cut(0, 7), 2);
        Check.refused(x, "cut(0, -1)", x.cut(0, -1), 2);
        Check.refused(x, "LEFT cuts a RED one", x.cut(0, 1), 9);
        Check.refused(x, "RIGHT cuts a BLUE one", x.cut(1, 0), 9);
        Check.taken(x, "many(3)", x.many(3), 127);
        Check.taken(x, "many(5)", x.many(5), 0);
        Check.taken(x, "RIGHT cuts a GREEN one", x.cut(1, 4), 1);
        Check.taken(x, "LEFT cuts a GREEN one", x.cut(0, 3), 1);
        Check.taken(x, "RIGHT cuts a RED one", x.cut(1, 1), 2);
        Check.taken(x, "many(3)", x.many(3), 97);
        Check.refused(x, "it FELL", x.cut(1, 1), 9);
        Check.refused(x, "it FELL with that below", x.cut(0, 2), 9);
        Check.taken(x, "LEFT cuts a BLUE one", x.cut(0, 0), 1);
        Check.taken(x, "all on it", x.cut(1, 5), 2);
        Check.taken(x, "many(5)", x.many(5), 5);
        Check.taken(x, "many(3)", x.many(3), 0);
        ShearHedge y = Check.of("sprig green;sprig green on 0;sprig green on 1;sprig green on 2;sprig green;sprig green on 1;");
        Check.taken(y, "on that, and so on", y.cut(0, 1), 4);
        Check.taken(y, "many(3)", y.many(3), 17);
    }

    private static void takings() {
        ShearHedge x = Check.of("bet 5 2;bet 1 6;bet 0 3;");
        Check.refused(x, "take(2, 0)", x.take(2, 0), 2);
        Check.refused(x, "take(-1, 0)", x.take(-1, 0), 2);
        Check.refused(x, "take(0, 3)", x.take(0, 3), 2);
        Check.refused(x, "take(0, -1)", x.take(0, -1), 2);
        Check.taken(x, "take(0, 0)", x.take(0, 0), 5);
        Check.taken(x, "take(1, 1)", x.take(1, 1), -1);
        Check.refused(x, "take(0, 0): TAKEN", x.take(0, 0), 9);
        Check.refused(x, "take(0, 1): TAKEN by the other one", x.take(0, 1), 9);
        Check.taken(x, "many(4)", x.many(4), 3);
        Check.taken(x, "take(0, 2) for nothing", x.take(0, 2), -1);
        Check.taken(x, "many(6)", x.many(6), -1);
        Check.taken(x, "many(5): no CUTS", x.many(5), 0);
    }

    private static void lessenings() {
        ShearHedge x = Check.of("heap 15;heap 4;sprig green;");
        Check.refused(x, "less(2, 0)", x.less(2, 0), 2);
        Check.refused(x, "less(-1, 0)", x.less(-1, 0), 2);
        Check.refused(x, "less(2, 16)", x.less(2, 16), 2);
        Check.refused(x, "less(0, -1)", x.less(0, -1), 5);
        Check.refused(x, "less(0, 16)", x.less(0, 16), 5);
        Check.refused(x, "less(0, 15)", x.less(0, 15), 9);
        Check.refused(x, "less(1, 5)", x.less(1, 5), 9);
        Check.taken(x, "less(0, 14)", x.less(0, 14), 14 ^ 4 ^ 1);
        Check.taken(x, "heap(0)", x.heap(0), 14);
        Check.taken(x, "less(1, 0)", x.less(1, 0), 15);
        Check.refused(x, "less(1, 0)", x.less(1, 0), 9);
        Check.taken(x, "less(0, 1)", x.less(0, 1), 0);
    }

    private static void spending() {
        ShearHedge x = Check.of("bet 2 0;bet 0 3;");
        Check.refused(x, "spend(2)", x.spend(2), 2);
        Check.refused(x, "spend(-1)", x.spend(-1), 2);
        Check.refused(x, "spend(0) of 0", x.spend(0), 9);
        Check.refused(x, "spend(1) of 0", x.spend(1), 9);
        x.take(0, 0);
        Check.refused(x, "spend(1) of 2", x.spend(1), 9);
        Check.taken(x, "spend(0)", x.spend(0), 1);
        x.take(1, 1);
        Check.refused(x, "spend(0) of -2", x.spend(0), 9);
        Check.taken(x, "spend(1)", x.spend(1), -1);
        Check.taken(x, "spend(1)", x.spend(1), 0);
        Check.refused(x, "spend(1) of 0", x.spend(1), 9);
    }

    private static void growth() {
        ShearHedge x = Check.of("sprig blue;sprig red on 0;sprig green;sprig blue;");
        Check.refused(x, "grow(0, 4)", x.grow(0, 4), 2);
        Check.refused(x, "grow(0, -2)", x.grow(0, -2), 2);
        Check.refused(x, "grow(3, 4)", x.grow(3, 4), 2);
        Check.refused(x, "grow(3, 0)", x.grow(3, 0), 5);
        Check.refused(x, "grow(-1, -1)", x.grow(-1, -1), 5);
        Check.refused(x, "GREEN on BLUE", x.grow(2, 0), 9);
        Check.refused(x, "GREEN on RED", x.grow(2, 1), 9);
        Check.refused(x, "BLUE on GREEN", x.grow(0, 2), 9);
        Check.refused(x, "RED on GREEN", x.grow(1, 2), 9);
        Check.taken(x, "many(0)", x.many(0), 4);
        Check.taken(x, "grow(1, 1)", x.grow(1, 1), 4);
        Check.taken(x, "grow(2, 2)", x.grow(2, 2), 5);
        Check.taken(x, "grow(2, -1)", x.grow(2, -1), 6);
        Check.taken(x, "grow(0, 4)", x.grow(0, 4), 7);
        Check.taken(x, "sprig(7, 0)", x.sprig(7, 0), 0);
        Check.taken(x, "sprig(7, 1)", x.sprig(7, 1), 4);
        Check.taken(x, "sprig(7, 2)", x.sprig(7, 2), 1);
        Check.refused(x, "sprig(6, 1)", x.sprig(6, 1), 8);
        x.cut(0, 3);
        Check.refused(x, "on one that FELL", x.grow(0, 3), 9);
        for (int i = 8; i < 20; i++) Check.taken(x, "grow", x.grow(1, -1), i);
        Check.refused(x, "a 21st", x.grow(0, -1), 7);
        Check.refused(x, "a 21st of no COLOUR", x.grow(3, -1), 5);
        Check.refused(x, "a 21st on one that FELL", x.grow(0, 3), 7);
        Check.refused(x, "a 21st on a GREEN one", x.grow(0, 2), 7);
        Check.refused(x, "a 21st on a 21st", x.grow(0, 20), 2);
        Check.taken(x, "many(0)", x.many(0), 20);
        Check.taken(x, "many(3)", x.many(3), (1 << 20) - 1 - 8);
    }

    private static void paint() {
        ShearHedge x = Check.of("sprig blue;sprig red on 0;sprig green;sprig red;");
        Check.refused(x, "paint(4)", x.paint(4), 2);
        Check.refused(x, "paint(-1)", x.paint(-1), 2);
        Check.refused(x, "paint(2)", x.paint(2), 9);
        Check.taken(x, "paint(0)", x.paint(0), 1);
        Check.taken(x, "sprig(0, 0)", x.sprig(0, 0), 1);
        Check.tells(x, "worth()", x.worth(), -3, 1);
        Check.taken(x, "paint(1)", x.paint(1), 0);
        Check.taken(x, "paint(0)", x.paint(0), 0);
        x.cut(1, 3);
        Check.refused(x, "paint(3): it FELL", x.paint(3), 9);
        Check.taken(x, "sprig(3, 0)", x.sprig(3, 0), 1);
    }

    private static void piles() {
        ShearHedge x = Check.of("heap 3;");
        Check.refused(x, "pile(-1)", x.pile(-1), 5);
        Check.refused(x, "pile(16)", x.pile(16), 5);
        Check.taken(x, "pile(15)", x.pile(15), 1);
        Check.taken(x, "pile(0)", x.pile(0), 2);
        Check.taken(x, "pile(1)", x.pile(1), 3);
        Check.refused(x, "pile(1)", x.pile(1), 7);
        Check.refused(x, "pile(16)", x.pile(16), 5);
        Check.taken(x, "many(1)", x.many(1), 4);
        Check.taken(x, "heap(1)", x.heap(1), 15);
        Check.taken(x, "nimber()", x.nimber(), 3 ^ 15 ^ 1);
    }

    private static void offers() {
        ShearHedge x = Check.of("bet 3 2;");
        x.take(0, 0);
        Check.refused(x, "offer(0, 0)", x.offer(0, 0), 5);
        Check.refused(x, "offer(-1, 1)", x.offer(-1, 1), 5);
        Check.refused(x, "offer(1, -1)", x.offer(1, -1), 5);
        Check.refused(x, "offer(-1, 5)", x.offer(-1, 5), 5);
        Check.refused(x, "offer(5, -1)", x.offer(5, -1), 5);
        Check.refused(x, "offer(21, 1)", x.offer(21, 1), 5);
        Check.refused(x, "offer(1, 21)", x.offer(1, 21), 5);
        Check.refused(x, "offer(max, 1)", x.offer(Integer.MAX_VALUE, Integer.MAX_VALUE), 5);
        Check.taken(x, "offer(20, 0)", x.offer(20, 0), 1);
        Check.taken(x, "offer(0, 20)", x.offer(0, 20), 2);
        Check.taken(x, "offer(20, 20)", x.offer(20, 20), 3);
        Check.taken(x, "offer(0, 1)", x.offer(0, 1), 4);
        Check.refused(x, "offer(1, 1)", x.offer(1, 1), 7);
        Check.refused(x, "offer(0, 0)", x.offer(0, 0), 5);
        Check.taken(x, "many(2)", x.many(2), 5);
        Check.taken(x, "many(4): not TAKEN", x.many(4), 1);
        Check.taken(x, "bet(1, 0)", x.bet(1, 0), 20);
        Check.taken(x, "bet(2, 1)", x.bet(2, 1), 20);
        Check.taken(x, "take(0, 3)", x.take(0, 3), 23);
    }
}
