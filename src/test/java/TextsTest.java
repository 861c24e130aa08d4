/** Promises 9 to 17: the tape, HEDGES and SEASONS as texts, and what is asked of the HEDGE. */
public final class TextsTest {
    public static void main(String[] args) {
        tape();
        hedges();
        hedgeFaults();
        limitsOfHedges();
        seasonsFaults();
        limitsOfSeasons();
        textsAreApart();
        faultTellsOfTheLatest();
        refusedTextsKeepTheOldOnes();
        asked();
        colours();
        Check.end("TextsTest");
    }

    private static void tape() {
        ShearHedge x = new ShearHedge();
        for (int i = 1; i <= 45; i++) Check.due("feed", x.feed(-1, 0x41424344, 0, 1, 2), 20 * i);
        Check.due("feed of more than 900", x.feed(0, 0, 0, 0, 0), -1);
        Check.due("feed of more than 900, again", x.feed(0, 0, 0, 0, 0), -1);
        Check.refused(x, "hedge(901)", x.hedge(901), 5);
        Check.refused(x, "seasons(301)", x.seasons(301), 5);
        Check.refused(x, "hedge(-1)", x.hedge(-1), 5);
        Check.refused(x, "seasons(-1)", x.seasons(-1), 5);
        Check.refused(x, "hedge(900): the tape was kept", x.hedge(900), 10);
        Check.due("fault(0)", x.fault(0), 1);
        Check.due("fault(1)", x.fault(1), 0);
        Check.refused(x, "hedge(1): the tape is empty", x.hedge(1), 5);
        Check.due("feed", x.feed(0x68656170, 0x20313b20, 0, 0, 0), 20);
        Check.taken(x, "hedge(8)", x.hedge(8), 0);
        Check.taken(x, "many(1)", x.many(1), 1);
        Check.refused(x, "hedge(1): the rest is gone", x.hedge(1), 5);
        Check.taken(x, "hedge(0)", x.hedge(0), 0);
        Check.taken(x, "many(1): a hedge of nothing", x.many(1), 0);
        Check.taken(x, "seasons(0)", x.seasons(0), 0);
        String blanks = " ".repeat(280);
        Check.taken(x, "seasons of 300 bytes", Check.seasons(x, blanks + "any;any;any;any;any;"), 5);
        Check.feed(x, new byte[20]);
        Check.refused(x, "seasons(21)", x.seasons(21), 5);
        Check.refused(x, "seasons(20): kept by 5", x.seasons(20), 10);
    }

    private static void hedges() {
        ShearHedge x = Check.of("\nsprig blue ;sprig red on 0; sprig\n\ngreen;sprig green on 0002;heap 15;heap 0; bet 20 0;bet 0 20;bet 7 8;\n ");
        Check.taken(x, "many(0)", x.many(0), 4);
        Check.taken(x, "many(1)", x.many(1), 2);
        Check.taken(x, "many(2)", x.many(2), 3);
        int[] colours = {0, 1, 2, 2};
        for (int i = 0; i < 4; i++) Check.taken(x, "colour", x.sprig(i, 0), colours[i]);
        Check.taken(x, "sprig(1, 1)", x.sprig(1, 1), 0);
        Check.taken(x, "sprig(3, 1)", x.sprig(3, 1), 2);
        Check.refused(x, "sprig(2, 1)", x.sprig(2, 1), 8);
        Check.taken(x, "heap(0)", x.heap(0), 15);
        Check.taken(x, "heap(1)", x.heap(1), 0);
        Check.taken(x, "bet(0, 0)", x.bet(0, 0), 20);
        Check.taken(x, "bet(0, 1)", x.bet(0, 1), 0);
        Check.taken(x, "bet(1, 0)", x.bet(1, 0), 0);
        Check.taken(x, "bet(1, 1)", x.bet(1, 1), 20);
        Check.taken(x, "bet(2, 1)", x.bet(2, 1), 8);
        x.cut(0, 0);
        x.take(0, 0);
        Check.seasons(x, "any;");
        Check.taken(x, "a hedge in place of it", Check.hedge(x, "sprig green;bet 1 1;"), 1);
        Check.taken(x, "many(3)", x.many(3), 1);
        Check.taken(x, "many(4)", x.many(4), 0);
        Check.taken(x, "many(5)", x.many(5), 0);
        Check.taken(x, "many(6)", x.many(6), 0);
        Check.refused(x, "live(0): no SEASONS", x.live(0), 8);
        Check.taken(x, "take", x.take(1, 0), -1);
        x.cut(0, 0);
        x.pile(3);
        Check.taken(x, "colourings: what these try is not left in the next hedge", x.colourings(0, -1, 0), 1);
        Check.taken(x, "another one in place of it", Check.hedge(x, "sprig red;"), 1);
        int[] due = {1, 0, 0, 1, 0, 0, 0};
        for (int what = 0; what <= 6; what++) Check.taken(x, "many " + what, x.many(what), due[what]);
        Check.taken(x, "a hedge of nothing in place of it", Check.hedge(x, ""), 0);
        for (int what = 0; what <= 6; what++) Check.taken(x, "many " + what, x.many(what), 0);
        Check.due("a hedge of blanks", Check.of("  \n ").many(0), 0);
        Check.due("numbers end where letters begin", Check.of("sprig blue;sprig blue on 0;heap 1;heap 2;bet 1 1;").many(1), 2);
    }

    private static void hedgeFaults() {
        Check.faultyHedge("!", 1, 0);
        Check.faultyHedge("sprig blue\t;", 1, 10);
        Check.faultyHedge("Sprig blue;", 1, 0);
        Check.faultyHedge("sprig bl\u00fce;", 2, 6);
        Check.faultyHedge("sprig \u00fcb;", 1, 6);
        Check.faultyHedge("heap -1;", 1, 5);
        Check.faultyHedge("heap 12345;", 1, 5);
        Check.faultyHedge("heap 00001;", 1, 5);
        Check.faultyHedge("heap 1; 12345", 1, 8);
        Check.faultyHedge("heap 1; 1234", 2, 8);
        Check.faultyHedge("heap\r1;", 1, 4);
        Check.faultyHedge("heap\0001;", 1, 4);
        Check.faultyHedge("hedge;", 2, 0);
        Check.faultyHedge(";", 2, 0);
        Check.faultyHedge("<", 2, 0);
        Check.faultyHedge("sprigblue;", 2, 0);
        Check.faultyHedge("z", 2, 0);
        Check.faultyHedge("a", 2, 0);
        Check.faultyHedge("{", 1, 0);
        Check.faultyHedge("`", 1, 0);
        Check.faultyHedge("/", 1, 0);
        Check.faultyHedge(":", 1, 0);
        Check.faultyHedge("0", 2, 0);
        Check.faultyHedge("9", 2, 0);
        Check.faultyHedge("?", 1, 0);
        Check.faultyHedge(">", 2, 0);
        Check.faultyHedge("=", 2, 0);
        Check.faultyHedge("sprig;", 2, 5);
        Check.faultyHedge("sprig", 2, 5);
        Check.faultyHedge("sprig  ", 2, 7);
        Check.faultyHedge("sprig pink;", 2, 6);
        Check.faultyHedge("sprig 1;", 2, 6);
        Check.faultyHedge("sprig blue", 2, 10);
        Check.faultyHedge("sprig blue sprig", 2, 11);
        Check.faultyHedge("sprig blue 0;", 2, 11);
        Check.faultyHedge("sprig blue;;", 2, 11);
        Check.faultyHedge("sprig blue on 0;", 4, 14);
        Check.faultyHedge("sprig blue;sprig red on 1;", 4, 24);
        Check.faultyHedge("sprig blue;sprig red on;", 2, 23);
        Check.faultyHedge("sprig blue;sprig red on blue;", 2, 24);
        Check.faultyHedge("sprig blue;sprig red on 0", 2, 25);
        Check.faultyHedge("sprig blue;sprig green on 0;", 5, 26);
        Check.faultyHedge("sprig red;sprig green on 0;", 5, 25);
        Check.faultyHedge("sprig green;sprig red on 0;", 5, 25);
        Check.faultyHedge("sprig green;sprig blue on 0 !", 5, 26);
        Check.faultyHedge("sprig green;sprig green on 0;sprig green on 2;", 4, 44);
        Check.faultyHedge("heap;", 2, 4);
        Check.faultyHedge("heap blue;", 2, 5);
        Check.faultyHedge("heap 16;", 4, 5);
        Check.faultyHedge("heap 1 2;", 2, 7);
        Check.faultyHedge("bet 21 0;", 4, 4);
        Check.faultyHedge("bet 0 21;", 4, 6);
        Check.faultyHedge("bet 0 0;", 4, 6);
        Check.faultyHedge("bet 1;", 2, 5);
        Check.faultyHedge("bet ;", 2, 4);
        Check.faultyHedge("bet 1 1", 2, 7);
        Check.faultyHedge("bet 1 1 1;", 2, 8);
        Check.faultyHedge("bet 0 0!", 4, 6);
        Check.faultyHedge("bet 12ab;", 2, 6);
    }

    private static void limitsOfHedges() {
        String twenty = "sprig red;".repeat(20);
        ShearHedge x = Check.of(twenty + "heap 1;".repeat(4) + "bet 1 1;".repeat(5));
        Check.due("many(3)", x.many(3), (1 << 20) - 1);
        Check.faultyHedge(twenty + "sprig", 6, 200);
        Check.faultyHedge(twenty + "sprig!", 6, 200);
        Check.faultyHedge(twenty + "sprigs", 2, 200);
        Check.faultyHedge(twenty + " sprig blue on 99;", 6, 201);
        Check.faultyHedge("heap 1;".repeat(4) + "heap 99;", 6, 28);
        Check.faultyHedge("bet 1 1;".repeat(5) + "bet", 6, 40);
        Check.faultyHedge("bet 1 1;".repeat(5) + "bet 0 0;", 6, 40);
        Check.due("on the last", Check.of(twenty.substring(10) + "sprig blue on 18;").sprig(19, 1), 18);
        // 900 bytes
        String blanks = " ".repeat(890);
        Check.due("a text of 900 bytes", Check.of(blanks + "sprig red;").many(0), 1);
    }

    private static void seasonsFaults() {
        Check.faultySeasons("!", 1, 0);
        Check.faultySeasons("any", 2, 3);
        Check.faultySeasons("any ", 2, 4);
        Check.faultySeasons("any any;", 2, 4);
        Check.faultySeasons("sprig blue;", 2, 0);
        Check.faultySeasons("cut;", 2, 3);
        Check.faultySeasons("cut green 1;", 2, 4);
        Check.faultySeasons("cut left;", 2, 8);
        Check.faultySeasons("cut left left;", 2, 9);
        Check.faultySeasons("cut right 20;", 4, 10);
        Check.faultySeasons("cut right 19 ", 2, 13);
        Check.faultySeasons("cut right 00019;", 1, 10);
        Check.faultySeasons("take left 5;", 4, 10);
        Check.faultySeasons("take 1;", 2, 5);
        Check.faultySeasons("take left 4", 2, 11);
        Check.faultySeasons("less 4 0;", 4, 5);
        Check.faultySeasons("less 3 16;", 4, 7);
        Check.faultySeasons("less 3;", 2, 6);
        Check.faultySeasons("less left 3;", 2, 5);
        Check.faultySeasons("grow;", 2, 4);
        Check.faultySeasons("grow left;", 2, 5);
        Check.faultySeasons("grow blue on;", 2, 12);
        Check.faultySeasons("grow blue on 20;", 4, 13);
        Check.faultySeasons("grow blue 2;", 2, 10);
        Check.faultySeasons("when;", 2, 4);
        Check.faultySeasons("when any;", 2, 5);
        Check.faultySeasons("when stands;", 2, 11);
        Check.faultySeasons("when stands 20;", 4, 12);
        Check.faultySeasons("when stands > 1;", 2, 12);
        Check.faultySeasons("when worth 1;", 2, 11);
        Check.faultySeasons("when worth ;", 2, 11);
        Check.faultySeasons("when worth < ;", 2, 13);
        Check.faultySeasons("when worth <= 1;", 2, 12);
        Check.faultySeasons("when worth < 21;", 4, 13);
        Check.faultySeasons("when nimber = 32;", 4, 14);
        Check.faultySeasons("when nimber left;", 2, 12);
        Check.faultySeasons("when wins;", 2, 9);
        Check.faultySeasons("when wins 0;", 2, 10);
        Check.faultySeasons("when wins left", 2, 14);
        Check.faultySeasons("when wins left;", 2, 15);
        Check.faultySeasons("when wins left; any; ", 2, 21);
        Check.faultySeasons("loop;", 2, 4);
        Check.faultySeasons("loop 0; end;", 4, 5);
        Check.faultySeasons("loop 100; end;", 4, 5);
        Check.faultySeasons("loop 99;", 2, 8);
        Check.faultySeasons("loop 99; end", 2, 12);
        Check.faultySeasons("loop 99; end any;", 2, 13);
        Check.faultySeasons("end;", 2, 0);
        Check.faultySeasons("any; end;", 2, 5);
        Check.faultySeasons("loop 2; end; end;", 2, 13);
        Check.faultySeasons("stop 1;", 2, 5);
        Check.faultySeasons("stop;?", 1, 5);
        ShearHedge x = new ShearHedge();
        String all = "cut left 0;cut right 19;take right 4;less 3 15;less 0 0;grow green;grow red on 19;any;stop;";
        Check.taken(x, "seasons", Check.seasons(x, all), 9);
        Check.taken(x, "tests", Check.seasons(x, "when stands 19;end;when worth<0;end;when worth>20;end;when nimber=31;end;when wins right;end;"), 5);
        Check.taken(x, "within one another", Check.seasons(x, "loop 1;when wins left;loop 99;any;end;end;when stands 0;end;end;loop 2;end;"), 6);
        Check.taken(x, "blanks", Check.seasons(x, "\n loop\n2;\nend\n;\n"), 1);
    }

    private static void limitsOfSeasons() {
        ShearHedge x = new ShearHedge();
        String thirty = "any;".repeat(30);
        Check.taken(x, "thirty STEPS", Check.seasons(x, thirty), 30);
        Check.faultySeasons(thirty + "any;", 6, 120);
        Check.faultySeasons(thirty + "end;", 2, 120);
        Check.faultySeasons(thirty + "anys;", 2, 120);
        Check.faultySeasons(thirty + "!", 1, 120);
        String blocks = "loop 1;".repeat(3);
        Check.taken(x, "end is no STEP", Check.seasons(x, blocks + "any;".repeat(27) + "end;end;end;"), 30);
        Check.taken(x, "loops behind one another", Check.seasons(x, "loop 9;end;".repeat(27)), 27);
        Check.faultySeasons(blocks + "loop 1;", 7, 21);
        Check.faultySeasons(blocks + "when wins left;", 7, 21);
        Check.faultySeasons("when wins left;when wins left;loop 2;when", 7, 37);
        Check.faultySeasons(blocks + "any;".repeat(27) + "loop", 6, 129);
        Check.taken(x, "three deep, left, three deep", Check.seasons(x, blocks + "end;when stands 1;end;end;loop 2;end;end;"), 5);
    }

    /** What a faulty text leaves open is not open in the next one. */
    private static void textsAreApart() {
        ShearHedge x = new ShearHedge();
        Check.refused(x, "three left open", Check.seasons(x, "loop 1;loop 1;loop 1;any;"), 10);
        Check.refused(x, "an end without a beginning", Check.seasons(x, "end;"), 10);
        Check.due("fault(1)", x.fault(1), 0);
        Check.refused(x, "three left open", Check.seasons(x, "any;loop 1;loop 1;loop 1;!"), 10);
        Check.taken(x, "three within one another", Check.seasons(x, "loop 1;loop 1;loop 1;end;end;end;"), 3);
        Check.refused(x, "thirty and a fault", Check.seasons(x, "any;".repeat(30) + "!"), 10);
        Check.taken(x, "thirty", Check.seasons(x, "any;".repeat(30)), 30);
        Check.refused(x, "a full hedge and a fault", Check.hedge(x, "sprig red;".repeat(20) + "heap 1;heap 1;heap 1;heap 1;!"), 10);
        Check.refused(x, "none told ahead", Check.hedge(x, "sprig red on 0;"), 10);
        Check.due("fault(0)", x.fault(0), 4);
        Check.taken(x, "four heaps", Check.hedge(x, "heap 1;heap 1;heap 1;heap 1;"), 0);
    }

    private static void faultTellsOfTheLatest() {
        ShearHedge x = new ShearHedge();
        Check.hedge(x, "sprig ;");
        Check.due("fault(0)", x.fault(0), 2);
        Check.due("fault(1)", x.fault(1), 6);
        Check.due("fault(2)", x.fault(2), -1);
        Check.due("fault(-1)", x.fault(-1), -1);
        x.seasons(1);
        Check.due("status()", x.status(), 5);
        Check.due("fault(0): not of 5", x.fault(0), 2);
        Check.due("fault(1): not of 5", x.fault(1), 6);
        Check.seasons(x, "less 9");
        Check.due("fault(0)", x.fault(0), 4);
        Check.due("fault(1)", x.fault(1), 5);
        Check.seasons(x, "any;");
        Check.due("fault(0)", x.fault(0), 0);
        Check.due("fault(1)", x.fault(1), -1);
        x.mark();
        Check.hedge(x, "x");
        x.back();
        Check.due("fault(0): not kept by a MARK", x.fault(0), 2);
    }

    private static void refusedTextsKeepTheOldOnes() {
        ShearHedge x = Check.of("sprig blue;sprig red on 0;heap 2;bet 3 4;");
        Check.seasons(x, "grow green;");
        x.cut(1, 1);
        x.take(1, 0);
        Check.refused(x, "a faulty hedge", Check.hedge(x, "sprig green;sprig green;sprig green;heap 9;bet 9 9;;"), 10);
        Check.taken(x, "many(0)", x.many(0), 2);
        Check.taken(x, "many(3)", x.many(3), 1);
        Check.taken(x, "many(6)", x.many(6), -4);
        Check.taken(x, "heap(0)", x.heap(0), 2);
        Check.taken(x, "bet(0, 1)", x.bet(0, 1), 4);
        Check.refused(x, "faulty SEASONS", Check.seasons(x, "any;any;loop 1;"), 10);
        Check.taken(x, "live(0)", x.live(0), 1);
        Check.taken(x, "lived(3)", x.lived(3), 1);
    }

    private static void asked() {
        ShearHedge x = Check.of("sprig blue;sprig red on 0;sprig blue on 0;sprig red on 2;sprig green;sprig green on 4;heap 4;heap 5;bet 2 3;bet 4 1;");
        Check.taken(x, "many(3)", x.many(3), 63);
        Check.taken(x, "sprig(0, 3)", x.sprig(0, 3), 6);
        Check.taken(x, "sprig(0, 4)", x.sprig(0, 4), 4);
        Check.taken(x, "sprig(2, 4)", x.sprig(2, 4), 2);
        Check.taken(x, "sprig(3, 3)", x.sprig(3, 3), 0);
        Check.taken(x, "sprig(3, 4)", x.sprig(3, 4), 1);
        x.cut(0, 2);
        Check.taken(x, "many(0): those that FELL, too", x.many(0), 6);
        Check.taken(x, "many(3)", x.many(3), 51);
        Check.taken(x, "many(5)", x.many(5), 1);
        Check.taken(x, "sprig(0, 3)", x.sprig(0, 3), 2);
        Check.taken(x, "sprig(0, 4)", x.sprig(0, 4), 2);
        Check.taken(x, "sprig(3, 0): it FELL", x.sprig(3, 0), 1);
        Check.taken(x, "sprig(3, 1): it FELL", x.sprig(3, 1), 2);
        Check.taken(x, "sprig(3, 2): it FELL", x.sprig(3, 2), 0);
        Check.taken(x, "sprig(2, 3): it FELL", x.sprig(2, 3), 0);
        Check.refused(x, "sprig(2, 4): it FELL", x.sprig(2, 4), 8);
        Check.taken(x, "sprig(4, 2)", x.sprig(4, 2), 1);
        Check.refused(x, "sprig(4, 1)", x.sprig(4, 1), 8);
        Check.refused(x, "sprig(6, 0)", x.sprig(6, 0), 2);
        Check.refused(x, "sprig(6, 9)", x.sprig(6, 9), 2);
        Check.refused(x, "sprig(-1, 0)", x.sprig(-1, 0), 2);
        Check.refused(x, "sprig(2, 5)", x.sprig(2, 5), 5);
        Check.refused(x, "sprig(2, -1)", x.sprig(2, -1), 5);
        Check.refused(x, "heap(2)", x.heap(2), 2);
        Check.refused(x, "heap(-1)", x.heap(-1), 2);
        Check.refused(x, "bet(2, 0)", x.bet(2, 0), 2);
        Check.refused(x, "bet(-1, 0)", x.bet(-1, 0), 2);
        Check.refused(x, "bet(0, 2)", x.bet(0, 2), 2);
        Check.refused(x, "bet(0, -1)", x.bet(0, -1), 2);
        x.take(1, 1);
        Check.taken(x, "many(4)", x.many(4), 2);
        Check.taken(x, "many(6)", x.many(6), -1);
        Check.taken(x, "bet(1, 0): what it is, TAKEN or not", x.bet(1, 0), 4);
        Check.refused(x, "many(7)", x.many(7), 5);
        Check.refused(x, "many(-1)", x.many(-1), 5);
    }

    private static void colours() {
        ShearHedge x = Check.of("sprig blue;sprig red on 0;sprig green;sprig red;");
        x.cut(1, 1);
        Check.refused(x, "copyColours(-1)", x.copyColours(-1), 1);
        Check.refused(x, "copyColours(4)", x.copyColours(4), 1);
        Check.refused(x, "copyColours(0)", x.copyColours(0), 3);
        x.tray(0, 0, 3);
        Check.refused(x, "copyColours(0)", x.copyColours(0), 4);
        for (int i = 0; i < 3; i++) Check.taken(x, "read", x.read(0, i), 0);
        x.tray(0, 0, 4);
        Check.taken(x, "copyColours(0)", x.copyColours(0), 4);
        int[] due = {0, 3, 2, 1};
        for (int i = 0; i < 4; i++) Check.taken(x, "read", x.read(0, i), due[i]);
        x.cut(0, 0);
        x.tray(0, 0, 5);
        x.write(0, 4, 77);
        Check.taken(x, "copyColours(0)", x.copyColours(0), 4);
        Check.taken(x, "the first", x.read(0, 0), 3);
        Check.taken(x, "behind the last", x.read(0, 4), 77);
    }
}
