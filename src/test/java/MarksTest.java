/** Promises 53 and 54: MARKS. */
public final class MarksTest {
    public static void main(String[] args) {
        howMany();
        allIsTakenBack();
        oneAfterAnother();
        whatIsNotKept();
        Check.end("MarksTest");
    }

    private static void howMany() {
        ShearHedge x = new ShearHedge();
        Check.refused(x, "back()", x.back(), 8);
        Check.taken(x, "mark()", x.mark(), 1);
        Check.taken(x, "mark()", x.mark(), 2);
        Check.taken(x, "mark()", x.mark(), 3);
        Check.refused(x, "mark()", x.mark(), 7);
        Check.taken(x, "back()", x.back(), 2);
        Check.taken(x, "mark()", x.mark(), 3);
        Check.taken(x, "back()", x.back(), 2);
        Check.taken(x, "back()", x.back(), 1);
        Check.taken(x, "back()", x.back(), 0);
        Check.refused(x, "back()", x.back(), 8);
    }

    private static void allIsTakenBack() {
        ShearHedge x = Check.of("sprig blue;sprig red on 0;sprig green;sprig red;heap 7;heap 2;bet 3 4;bet 1 5;");
        Check.seasons(x, "grow green;grow green;");
        x.cut(1, 1);
        x.take(0, 0);
        x.spend(0);
        x.less(0, 3);
        x.worth();
        String before = Check.state(x);
        x.mark();
        x.cut(0, 0);
        x.cut(0, 2);
        x.paint(3);
        x.grow(0, 3);
        x.take(1, 1);
        x.spend(1);
        x.less(1, 0);
        x.pile(4);
        x.offer(1, 1);
        Check.seasons(x, "any;");
        Check.taken(x, "back()", x.back(), 0);
        x.worth();
        Check.taken(x, "many(0)", x.many(0), 4);
        Check.due("all is taken back", Check.state(x).equals(before), true);
        Check.taken(x, "live(0) by the SEASONS of then", x.live(0), 2);
        Check.taken(x, "lived(3)", x.lived(3), 2);
        x.mark();
        Check.hedge(x, "sprig red;bet 1 1;");
        Check.refused(x, "live(0)", x.live(0), 8);
        x.back();
        Check.taken(x, "another HEDGE is taken back", x.many(0), 6);
        Check.taken(x, "its SEASONS, too", x.live(0), 2);
        ShearHedge y = new ShearHedge();
        y.mark();
        Check.seasons(y, "grow red;");
        y.back();
        Check.refused(y, "there were no SEASONS", y.live(0), 8);
    }

    private static void oneAfterAnother() {
        ShearHedge x = new ShearHedge();
        for (int i = 0; i < 3; i++) {
            x.mark();
            x.grow(i, -1);
        }
        Check.taken(x, "many(0)", x.many(0), 3);
        for (int i = 2; i >= 0; i--) {
            Check.taken(x, "back()", x.back(), i);
            Check.taken(x, "many(0)", x.many(0), i);
        }
        x.mark();
        x.grow(0, -1);
        x.back();
        Check.taken(x, "many(0)", x.many(0), 0);
        ShearHedge y = Check.of("sprig blue;sprig blue;");
        y.mark();
        Check.hedge(y, "sprig green;");
        y.mark();
        y.cut(1, 0);
        Check.taken(y, "MARKS stay, though the HEDGE is another", y.back(), 1);
        Check.taken(y, "many(3)", y.many(3), 1);
        Check.taken(y, "back()", y.back(), 0);
        Check.taken(y, "many(3)", y.many(3), 3);
    }

    private static void whatIsNotKept() {
        ShearHedge x = Check.of("sprig blue;");
        x.tray(0, 1, 2);
        x.mark();
        x.write(0, 1, 5);
        x.tray(1, 1, 1);
        x.worth();
        x.feed(0x68656170, 0x20313b20, 0, 0, 0);
        x.back();
        Check.taken(x, "read(0, 1)", x.read(0, 1), 5);
        Check.taken(x, "read(1, 0)", x.read(1, 0), 0);
        Check.due("top()", x.top(), 1);
        Check.taken(x, "the tape stays", x.hedge(7), 0);
        Check.taken(x, "heap(0)", x.heap(0), 1);
    }
}
