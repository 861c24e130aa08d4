/** Promises 1 to 4: a new object, and what has no STATUS of its own. */
public final class BasicsTest {
    public static void main(String[] args) {
        newObject();
        statusIsOfTheLatestCallThatHasOne();
        fractionStays();
        objectsAreApart();
        Check.end("BasicsTest");
    }

    private static void newObject() {
        ShearHedge x = new ShearHedge();
        Check.due("NONE", ShearHedge.NONE, -1);
        Check.due("status()", x.status(), 0);
        Check.due("top()", x.top(), 0);
        Check.due("bottom()", x.bottom(), 1);
        Check.due("fault(0)", x.fault(0), -1);
        Check.due("fault(1)", x.fault(1), -1);
        for (int what = 0; what <= 6; what++) Check.taken(x, "many", x.many(what), 0);
        for (int t = 0; t <= 3; t++) Check.refused(x, "read", x.read(t, 0), 3);
        Check.refused(x, "live(0)", x.live(0), 8);
        Check.refused(x, "mean(0, 1)", x.mean(0, 1), 8);
        Check.refused(x, "lived(0)", x.lived(0), 8);
        Check.refused(x, "back()", x.back(), 8);
        Check.refused(x, "hedge(1)", x.hedge(1), 5);
        Check.due("feed", x.feed(0, 0, 0, 0, 0), 20);
        Check.tells(x, "worth()", x.worth(), 0, 1);
        Check.taken(x, "outcome()", x.outcome(), 3);
    }

    private static void statusIsOfTheLatestCallThatHasOne() {
        ShearHedge x = new ShearHedge();
        Check.refused(x, "sprig(0, 0)", x.sprig(0, 0), 2);
        x.feed(1, 2, 3, 4, 5);
        Check.due("status() behind feed()", x.status(), 2);
        x.fault(0);
        x.fault(9);
        Check.due("status() behind fault()", x.status(), 2);
        x.top();
        x.bottom();
        Check.due("status() behind top(), bottom()", x.status(), 2);
        x.status();
        Check.due("status() behind status()", x.status(), 2);
        for (int i = 0; i < 50; i++) x.feed(0, 0, 0, 0, 0);
        Check.due("feed() of a full tape", x.feed(0, 0, 0, 0, 0), -1);
        Check.due("status() behind a feed() that gives NONE", x.status(), 2);
        x.nimber();
        Check.due("status() behind nimber()", x.status(), 0);
    }

    private static void fractionStays() {
        ShearHedge x = Check.of("sprig blue; sprig red on 0; bet 3 0;");
        Check.tells(x, "worth()", x.worth(), 1, 2);
        x.nimber();
        x.worthOf(7);
        x.heat(1, 0);
        x.stop(2);
        x.simplest(1, 0, 1, 0);
        Check.due("top() behind refused calls", x.top(), 1);
        Check.due("bottom() behind refused calls", x.bottom(), 2);
        Check.tells(x, "heat(0, 0)", x.heat(0, 0), 3, 2);
        x.cut(0, 0);
        Check.due("top() behind cut()", x.top(), 3);
        x.mark();
        x.worth();
        x.back();
        Check.due("top(): a MARK keeps no FRACTION", x.top(), 0);
        Check.due("bottom(): a MARK keeps no FRACTION", x.bottom(), 1);
    }

    private static void objectsAreApart() {
        ShearHedge x = Check.of("sprig blue; heap 3; bet 1 2;");
        ShearHedge y = new ShearHedge();
        x.tray(0, 3, 4);
        x.mark();
        Check.due("many(0) of another object", y.many(0), 0);
        Check.refused(y, "read(0, 0) of another object", y.read(0, 0), 3);
        Check.refused(y, "back() of another object", y.back(), 8);
    }
}
