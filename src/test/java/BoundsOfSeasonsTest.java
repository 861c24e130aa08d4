/** The boundaries in paragraph 4 and in the sentences of promises 50 to 54: SEASONS that are LIVED, MARKS. */
public final class BoundsOfSeasonsTest {
    private static final int MIN = Twins.MIN;
    private static final int MAX = Twins.MAX;
    private static final Twins NEW = new Twins(x -> { });
    private static final Twins RICH = Twins.rich();
    private static final String RICH_SPRIGS = "sprig blue;sprig red on 0;sprig blue on 1;sprig green;sprig green on 3;sprig red;";

    public static void main(String[] args) {
        Sentences.run(BoundsOfSeasonsTest.class);
    }

    private static Twins of(String hedge, String seasons) {
        return Twins.untaped(hedge).and(x -> {
            Check.seasons(x, seasons);
            Check.due("seasons of " + seasons, x.status(), 0);
        });
    }

    /** How many STEPS live(seed) tells, and what lived() tells then: MISSED, CUTS, FELL, GREW, left to be done. */
    private static ShearHedge lives(Twins twins, int seed, int steps, int... lived) {
        ShearHedge x = twins.takes(steps, "live", seed);
        for (int what = 0; what < lived.length; what++) Check.taken(x, "lived(" + what + ")", x.lived(what), lived[what]);
        return x;
    }

    /** One STEP that is done, and one that is MISSED. */
    private static void done(String hedge, String step) {
        lives(of(hedge, step), 0, 1, 0);
    }

    private static void missed(String hedge, String step) {
        Twins twins = of(hedge, step);
        int[] before = new int[7];
        ShearHedge x = twins.made();
        for (int what = 0; what <= 6; what++) before[what] = x.many(what);
        ShearHedge then = lives(twins, 0, 1, 1, 0, 0, 0, 0);
        for (int what = 0; what <= 6; what++) Check.taken(then, step + " is MISSED: many(" + what + ")", then.many(what), before[what]);
    }

    private static void when(String hedge, String test, boolean holds) {
        lives(of(hedge, "when " + test + ";grow green;end;"), 0, holds ? 2 : 1, 0, 0, 0, holds ? 1 : 0, 0);
    }

    // ---- STEPS and what is MISSED

    @Sentence("What can't be is MISSED: a cut (by any, too) of a SPRIG that there is not, that FELL, that the SIDE may not")
    static void paragraph4_cutsThatAreMissed() {
        String hedge = "sprig blue;sprig red;sprig green;";
        done(hedge, "cut left 0;");
        missed(hedge, "cut right 0;");
        missed(hedge, "cut left 1;");
        done(hedge, "cut right 1;");
        done(hedge, "cut left 2;");
        done(hedge, "cut right 2;");
        missed(hedge, "cut left 3;");
        missed(hedge, "cut left 19;");
        missed("", "cut left 0;");
        lives(of("sprig blue;sprig blue on 0;", "cut left 0;cut left 0;cut left 1;"), 0, 3, 2, 1, 2, 0, 0);
        done("sprig red;".repeat(19) + "sprig blue;", "cut left 19;");
        missed("sprig red;".repeat(20), "cut left 19;");
    }

    @Sentence("a take of a BET that there is not, that is TAKEN")
    static void paragraph4_takesThatAreMissed() {
        done("bet 1 2;", "take left 0;");
        done("bet 1 2;", "take right 0;");
        missed("bet 1 2;", "take left 1;");
        missed("", "take right 0;");
        done("bet 1 2;".repeat(5), "take right 4;");
        missed("bet 1 2;".repeat(4), "take right 4;");
        ShearHedge x = lives(of("bet 1 2;", "take right 0;take right 0;take left 0;"), 0, 3, 2, 0, 0, 0, 0);
        Check.taken(x, "many(6)", x.many(6), -2);
        Check.taken(x, "many(4)", x.many(4), 1);
    }

    @Sentence("a less of a HEAP that there is not, that is not above that")
    static void paragraph4_lessesThatAreMissed() {
        done("heap 5;", "less 0 4;");
        done("heap 5;", "less 0 0;");
        missed("heap 5;", "less 0 5;");
        missed("heap 5;", "less 0 6;");
        missed("heap 0;", "less 0 0;");
        missed("heap 15;", "less 0 15;");
        missed("heap 5;", "less 1 0;");
        done("heap 1;".repeat(4), "less 3 0;");
        missed("heap 1;".repeat(3), "less 3 0;");
        missed("", "less 0 0;");
    }

    @Sentence("grow: a SPRIG more that STANDS;")
    static void paragraph4_aSprigMoreThatStands() {
        ShearHedge x = lives(of("sprig blue;", "cut left 0;grow blue;grow red on 1;grow green;"), 0, 4, 0, 1, 1, 3, 0);
        Check.taken(x, "many(3)", x.many(3), 2 + 4 + 8);
        Check.taken(x, "sprig(2, 1)", x.sprig(2, 1), 1);
        Check.refused(x, "sprig(1, 1)", x.sprig(1, 1), 8);
        int[] due = {0, 0, 1, 2};
        for (int i = 0; i < 4; i++) Check.taken(x, "sprig(" + i + ", 0)", x.sprig(i, 0), due[i]);
    }

    @Sentence("a grow of a 21st SPRIG, on one that there is not, that FELL, that can't be by its COLOUR")
    static void paragraph4_growsThatAreMissed() {
        done("", "grow blue;");
        done("sprig red;".repeat(19), "grow blue;");
        missed("sprig red;".repeat(20), "grow blue;");
        done("sprig red;".repeat(19), "grow blue on 18;");
        missed("sprig red;".repeat(19), "grow blue on 19;");
        missed("", "grow red on 0;");
        missed("sprig red;", "grow red on 1;");
        String[] colours = {"blue", "red", "green"};
        for (int below = 0; below <= 2; below++) {
            for (int above = 0; above <= 2; above++) {
                String step = "grow " + colours[above] + " on 0;";
                if ((below == 2) == (above == 2)) done("sprig " + colours[below] + ";", step);
                else missed("sprig " + colours[below] + ";", step);
            }
        }
        lives(of("sprig blue;", "cut left 0;grow blue on 0;grow red on 0;"), 0, 3, 2, 1, 1, 0, 0);
        ShearHedge x = lives(of("sprig red;".repeat(19), "loop 3;grow green;end;"), 0, 4, 2, 0, 0, 1, 0);
        Check.taken(x, "many(0)", x.many(0), 20);
        Check.taken(x, "many(3)", x.many(3), (1 << 20) - 1);
    }

    @Sentence("any without SPRIGS (no draws)")
    static void paragraph4_anyWithoutSprigs() {
        missed("", "any;");
        missed("heap 3;bet 1 1;", "any;");
        for (int seed = 0; seed < 8; seed++) {
            // the draws behind it are the first ones
            ShearHedge x = of("", "any;any;grow blue;grow red;grow green;any;any;").takes(7, "live", seed);
            ShearHedge y = of("sprig blue;sprig red;sprig green;", "any;any;").takes(2, "live", seed);
            Check.taken(x, "many(3) by " + seed, x.many(3), y.many(3));
        }
        // SPRIGS that FELL are SPRIGS: it is a CUT then that is MISSED, by draws
        lives(of("sprig blue;", "cut left 0;any;"), 0, 2, 1, 1, 1, 0, 0);
    }

    private static int next(int s) {
        return (int) ((s * 2971L + 10987) % 65536);
    }

    /** What two draws by 2 and by so many SPRIGS cut of a HEDGE with a SPRIG for each SIDE in turn. */
    private static int standing(int seed, int sprigs, int times) {
        int s = seed;
        int standing = (1 << sprigs) - 1;
        for (int i = 0; i < times; i++) {
            s = next(s);
            int side = s / 8 % 2;
            s = next(s);
            int sprig = s / 8 % sprigs;
            if (sprig % 2 == side) standing &= ~(1 << sprig);
        }
        return standing;
    }

    @Sentence("Draws: s, at first the seed, becomes what is left of s times 2,971 and 10,987 by 65,536; the draw by n is the rest of s by 8, rounded down, by n.")
    static void paragraph4_drawsThatWrapAround() {
        for (int sprigs : new int[] {1, 2, 3, 7, 20}) {
            String hedge = "sprig blue;sprig red;".repeat(10).substring(0, sprigs / 2 * 21 + sprigs % 2 * 11);
            for (int seed : new int[] {0, 1, 7, 8, 18, 19, 21, 22, 4095, 8191, 9998, 9999}) {
                ShearHedge x = of(hedge, "loop 12;any;end;").takes(13, "live", seed);
                Check.taken(x, "many(3) by " + seed + " of " + sprigs, x.many(3), standing(seed, sprigs, 12));
            }
        }
    }

    @Sentence("any: a SIDE by a draw by 2, a SPRIG by a draw by how many there are, those that FELL, too (both first): it is CUT.")
    static void paragraph4_thoseThatFellToo() {
        // of the two the second FELL: a draw by how many STAND would always find the first
        int found = 0;
        for (int seed = 0; seed < 40; seed++) {
            ShearHedge x = of("sprig green;sprig green;", "cut left 1;any;").takes(2, "live", seed);
            int s = next(next(seed));
            Check.taken(x, "many(3) by " + seed, x.many(3), s / 8 % 2 == 0 ? 0 : 1);
            found += x.many(3);
        }
        Check.due("both were drawn", found > 0 && found < 40, true);
    }

    // ---- when, loop, stop

    @Sentence("cut, grow on, stands: a SPRIG (0 to 19)")
    static void paragraph4_stands() {
        when("sprig red;", "stands 0", true);
        when("sprig red;", "stands 1", false);
        when("", "stands 0", false);
        when("sprig red;".repeat(19), "stands 18", true);
        when("sprig red;".repeat(19), "stands 19", false);
        lives(of("sprig red;".repeat(20), "when stands 19;cut right 19;end;when stands 19;any;end;"), 0, 3, 0, 1, 1, 0, 0);
    }

    @Sentence("worth: against 0 to 20")
    static void paragraph4_worthIsBelowAboveOrTheSame() {
        when("", "worth = 0", true);
        when("", "worth < 0", false);
        when("", "worth > 0", false);
        String little = "sprig blue;" + "sprig red on 0;".repeat(18);
        when(little, "worth > 0", true);
        when(little, "worth = 0", false);
        when(little, "worth < 1", true);
        String below = "sprig red;" + "sprig blue on 0;".repeat(18);
        when(below, "worth < 0", true);
        when(below, "worth = 0", false);
        when("sprig blue;".repeat(19), "worth = 19", true);
        when("sprig blue;".repeat(19), "worth < 20", true);
        when("sprig blue;".repeat(19), "worth > 18", true);
        when("sprig blue;".repeat(19), "worth > 19", false);
        when("sprig blue;".repeat(19), "worth < 19", false);
        lives(of("sprig blue;".repeat(20), "when worth=20;any;end;when worth>20;any;end;"), 0, 3);
        // the SCORE is of it, and may be far above 20
        Twins rich = of("bet 20 0;bet 20 0;", "take left 0;take left 1;when worth>20;grow red;end;when worth=20;grow red;end;");
        lives(rich, 0, 5, 0, 0, 0, 1, 0);
    }

    @Sentence("nimber: against 0 to 31")
    static void paragraph4_nimberIsBelowAboveOrTheSame() {
        when("", "nimber = 0", true);
        when("", "nimber < 0", false);
        when("", "nimber > 0", false);
        when("heap 15;", "nimber = 15", true);
        when("heap 15;", "nimber > 14", true);
        when("heap 15;", "nimber > 15", false);
        when("heap 15;", "nimber < 16", true);
        when("heap 15;", "nimber < 15", false);
        StringBuilder stalk = new StringBuilder("sprig green;");
        for (int i = 0; i < 15; i++) stalk.append("sprig green on ").append(i).append(';');
        when(stalk + "heap 15;", "nimber = 31", true);
        when(stalk + "heap 15;", "nimber > 31", false);
        when(stalk + "heap 15;", "nimber < 31", false);
        when(stalk + "heap 14;", "nimber < 31", true);
    }

    @Sentence("wins: that SIDE, if it begins")
    static void paragraph4_winsIfItBegins() {
        when("", "wins left", false);
        when("", "wins right", false);
        when("heap 1;", "wins left", true);
        when("heap 1;", "wins right", true);
        when("sprig blue;", "wins left", true);
        when("sprig blue;", "wins right", false);
        when("sprig red;", "wins right", true);
        when("bet 1 0;", "wins left", true);
        when("bet 1 0;bet 1 0;", "wins right", false);
    }

    @Sentence("loop n (1 to 99): as often.")
    static void paragraph4_loopAsOften() {
        lives(of("", "loop 1;grow red;end;"), 0, 2, 0, 0, 0, 1, 0);
        lives(of("", "loop 2;grow red;end;"), 0, 3, 0, 0, 0, 2, 0);
        lives(of("", "loop 99;grow red;end;grow red;"), 0, 101, 80, 0, 0, 20, 0);
        lives(of("", "loop 98;grow red;end;"), 0, 99, 78, 0, 0, 20, 0);
        lives(of("", "loop 99;end;grow red;"), 0, 2, 0, 0, 0, 1, 0);
        // a loop within another one begins anew each time
        lives(of("", "loop 3;loop 2;grow red;end;end;"), 0, 1 + 3 + 6, 0, 0, 0, 6, 0);
        lives(of("", "loop 2;loop 3;loop 2;grow red;end;end;end;"), 0, 1 + 2 + 6 + 12, 0, 0, 0, 12, 0);
    }

    @Sentence("At most 300 STEPS (when, loop count as one each time they are come to from ahead; end does not).")
    static void paragraph4_atMost300Steps() {
        String most = "loop 99;any;any;any;end;";
        lives(of("", most), 0, 298, 297, 0, 0, 0, 0);
        lives(of("", most + "any;"), 0, 299, 298, 0, 0, 0, 0);
        lives(of("", most + "any;any;"), 0, 300, 299, 0, 0, 0, 0);
        lives(of("", most + "any;any;any;"), 0, 300, 299, 0, 0, 0, 1);
        lives(of("", most + "any;grow red;grow red;grow red;"), 0, 300, 298, 0, 0, 1, 1);
        lives(of("", most + "any;grow red;"), 0, 300, 298, 0, 0, 1, 0);
        lives(of("", "loop 99;loop 99;loop 99;any;end;end;end;"), 0, 300, 295, 0, 0, 0, 1);
    }

    @Sentence("(when, loop count as one each time they are come to from ahead; end does not)")
    static void paragraph4_whatCountsAsAStep() {
        lives(of("", "loop 9;end;"), 0, 1, 0, 0, 0, 0, 0);
        lives(of("", "loop 5;loop 7;end;end;"), 0, 6, 0, 0, 0, 0, 0);
        lives(of("", "loop 5;when wins left;any;end;end;"), 0, 6, 0, 0, 0, 0, 0);
        lives(of("heap 1;", "loop 5;when wins left;any;end;end;"), 0, 11, 5, 0, 0, 0, 0);
        String most = "loop 99;any;any;any;end;any;";
        lives(of("", most + "loop 9;end;"), 0, 300, 298, 0, 0, 0, 0);
        lives(of("", most + "loop 1;any;end;"), 0, 300, 298, 0, 0, 0, 1);
        lives(of("", most + "when wins left;any;end;"), 0, 300, 298, 0, 0, 0, 0);
        lives(of("heap 1;", most + "when wins left;any;end;"), 0, 300, 298, 0, 0, 0, 1);
        lives(of("heap 1;", most + "when wins left;end;"), 0, 300, 298, 0, 0, 0, 0);
        lives(of("", "loop 99;any;any;any;end;loop 1;any;end;"), 0, 300, 298, 0, 0, 0, 0);
        lives(of("", "loop 99;any;any;any;end;loop 2;any;end;"), 0, 300, 298, 0, 0, 0, 1);
        lives(of("", "loop 99;loop 99;loop 99;end;end;end;"), 0, 300, 0, 0, 0, 0, 1);
    }

    @Sentence("or stop ;")
    static void paragraph4_stop() {
        lives(of("", "stop;grow red;"), 0, 1, 0, 0, 0, 0, 0);
        lives(of("", "grow red;stop;"), 0, 2, 0, 0, 0, 1, 0);
        lives(of("", "loop 99;loop 99;grow red;stop;end;end;grow red;"), 0, 4, 0, 0, 0, 1, 0);
        lives(of("", "when wins left;stop;end;grow red;"), 0, 2, 0, 0, 0, 1, 0);
        lives(of("heap 1;", "when wins left;stop;end;grow red;"), 0, 2, 0, 0, 0, 0, 0);
        lives(of("", "loop 99;any;any;any;end;any;stop;any;"), 0, 300, 298, 0, 0, 0, 0);
    }

    @Sentence("LIVED by a seed (0 to 9,999): all is as it becomes by it, and stays so.")
    static void paragraph4_allStaysAsItBecomes() {
        Twins twins = of("sprig blue;sprig red on 0;heap 3;bet 4 1;", "cut right 1;less 0 1;take left 0;grow green;");
        ShearHedge x = lives(twins, 9999, 4, 0, 1, 1, 1, 0);
        int[] due = {3, 1, 1, 1 + 4, 1, 1, 4};
        for (int what = 0; what <= 6; what++) Check.taken(x, "many(" + what + ")", x.many(what), due[what]);
        Check.taken(x, "heap(0)", x.heap(0), 1);
        Check.taken(x, "SEASONS stay, too", x.live(0), 4);
        Check.taken(x, "lived(0)", x.lived(0), 3);
        Check.taken(x, "many(0)", x.many(0), 4);
    }

    // ---- MARKS

    @Sentence("MARKS, at most 3: the HEDGE with all that became of it, the SEASONS are kept as they are")
    static void paragraph4_whatAMarkKeeps() {
        ShearHedge x = RICH.made();
        x.back();
        x.mark();
        Check.hedge(x, RICH_SPRIGS + "heap 5;bet 3 1;bet 2 7;");
        Check.seasons(x, "grow green;grow green;");
        x.cut(0, 0);
        x.take(0, 0);
        x.less(0, 2);
        x.mark();
        String before = all(x);
        x.cut(0, 3);
        x.cut(1, 5);
        x.take(1, 1);
        x.spend(1);
        x.less(0, 0);
        x.grow(0, -1);
        x.paint(6);
        x.pile(1);
        x.offer(1, 1);
        Check.seasons(x, "any;");
        Check.due("all is another", all(x).equals(before), false);
        Check.taken(x, "back()", x.back(), 2);
        Check.due("all is taken back", all(x).equals(before), true);
        Check.taken(x, "the SEASONS, too", x.live(0), 2);
        Check.taken(x, "lived(3)", x.lived(3), 2);
    }

    private static String all(ShearHedge x) {
        StringBuilder all = new StringBuilder();
        for (int what = 0; what <= 6; what++) all.append(x.many(what)).append(' ');
        for (int i = 0; i < 8; i++) {
            for (int what = 0; what <= 4; what++) all.append(x.sprig(i, what)).append(' ');
        }
        for (int i = 0; i < 2; i++) all.append(x.heap(i)).append(' ');
        for (int i = 0; i < 3; i++) all.append(x.bet(i, 0)).append(' ').append(x.bet(i, 1)).append(' ');
        return all.toString();
    }

    @Sentence("all is taken back to the latest MARK, which is gone then.")
    static void paragraph4_theLatestMarkIsGoneThen() {
        ShearHedge x = new ShearHedge();
        for (int i = 1; i <= 3; i++) {
            Check.taken(x, "mark()", x.mark(), i);
            x.grow(0, -1);
        }
        Check.taken(x, "back()", x.back(), 2);
        Check.taken(x, "many(0)", x.many(0), 2);
        x.grow(1, -1);
        Check.taken(x, "back()", x.back(), 1);
        Check.taken(x, "many(0)", x.many(0), 1);
        Check.taken(x, "mark()", x.mark(), 2);
        x.grow(2, -1);
        Check.taken(x, "back()", x.back(), 1);
        Check.taken(x, "many(0)", x.many(0), 1);
        Check.taken(x, "back()", x.back(), 0);
        Check.taken(x, "many(0)", x.many(0), 0);
        Check.refused(x, "back()", x.back(), 8);
    }

    @Sentence("the HEDGE with all that became of it, the SEASONS are kept as they are")
    static void paragraph4_whatAMarkDoesNotKeep() {
        ShearHedge x = of("sprig blue;", "cut left 0;").made();
        x.mark();
        x.live(5);
        x.worth();
        x.write(0, 1, 99);
        x.tray(3, 0, 1);
        Check.hedge(x, "!");
        x.feed(0x68656170, 0x20313b20, 0, 0, 0);
        Check.taken(x, "back()", x.back(), 2);
        Check.taken(x, "lived(1)", x.lived(1), 1);
        Check.due("top()", x.top(), 0);
        Check.taken(x, "read(0, 1)", x.read(0, 1), 99);
        Check.taken(x, "read(3, 0)", x.read(3, 0), 0);
        Check.due("fault(0)", x.fault(0), 1);
        Check.taken(x, "hedge(8): the tape", x.hedge(8), 0);
    }

    // ---- promises 50 to 54

    @Sentence("LIVED: how many STEPS were come to, MISSED ones, too (5; 8: no SEASONS).")
    static void promise50_seeds0To9999() {
        RICH.takes(4, "live", 0);
        RICH.takes(4, "live", 9999);
        RICH.refusesEach(5, Twins.outside(0, 9999), 0, "live", 0);
    }

    @Sentence("MISSED ones, too")
    static void promise50_missedOnesToo() {
        lives(of("", "cut left 0;take left 0;less 0 0;grow red on 0;any;"), 0, 5, 5, 0, 0, 0, 0);
    }

    @Sentence("8: no SEASONS")
    static void promise50_noSeasons() {
        NEW.refuses(8, "live", 0);
        NEW.refuses(8, "live", 9999);
        NEW.and(x -> Check.seasons(x, "any")).refuses(8, "live", 0);
        NEW.and(x -> Check.seasons(x, "any;")).takes(1, "live", 0);
        NEW.and(x -> Check.seasons(x, "")).takes(0, "live", 0);
        Twins another = RICH.and(x -> x.hedge(0));
        another.refuses(8, "live", 0);
        RICH.and(x -> x.hedge(3)).takes(4, "live", 0);
    }

    @Sentence("what 0: MISSED, 1: CUTS, 2: how many SPRIGS FELL, 3: GREW, 4: 1 if a STEP was left to be done (by the 300 alone, not by stop), else 0")
    static void promise51_what0To4() {
        String seasons = "cut left 0;cut left 0;loop 5;grow red;end;cut right 4;cut right 1;grow red on 0;";
        Twins lived = of("sprig blue;sprig red on 0;sprig red on 0;", seasons).and(x -> x.live(0));
        int[] due = {3, 2, 4, 5, 0};
        for (int what = 0; what <= 4; what++) lived.asks(due[what], "lived", what);
        lived.refusesEach(5, Twins.outside(0, 4), 0, "lived", 0);
        NEW.refusesEach(5, Twins.outside(0, 4), 0, "lived", 0);
    }

    @Sentence("(by the 300 alone, not by stop)")
    static void promise51_leftByThe300Alone() {
        String most = "loop 99;any;any;any;end;any;";
        lives(of("", most + "any;"), 0, 300, 299, 0, 0, 0, 0);
        lives(of("", most + "any;any;"), 0, 300, 299, 0, 0, 0, 1);
        lives(of("", most + "stop;any;"), 0, 300, 298, 0, 0, 0, 0);
        lives(of("", "stop;any;"), 0, 1, 0, 0, 0, 0, 0);
        lives(of("", most + "any;stop;"), 0, 300, 299, 0, 0, 0, 1);
    }

    @Sentence("(5; 8: there was none)")
    static void promise51_thereWasNone() {
        for (int what = 0; what <= 4; what++) {
            NEW.refuses(8, "lived", what);
            Twins refused = NEW.and(x -> {
                x.live(0);
                Check.seasons(x, "any;");
                x.live(10000);
                x.live(-1);
                x.mean(0, 1);
            });
            refused.refuses(8, "lived", what);
            refused.and(x -> x.live(0)).takes(what == 0 ? 1 : 0, "lived", what);
        }
    }

    @Sentence("Of live() latest with STATUS 0, whatever came since")
    static void promise51_whateverCameSince() {
        Twins lived = of("sprig blue;sprig red on 0;", "cut left 0;cut left 0;grow green;").and(x -> x.live(0));
        Twins.Setup[] since = {x -> x.live(10000), x -> x.mean(0, 20), x -> x.back(), x -> x.hedge(0), x -> x.seasons(0), x -> x.mark(),
            x -> x.cut(0, 2), x -> Check.hedge(x, "?"), x -> {
                x.hedge(0);
                x.live(0);
            }};
        int[] due = {1, 1, 2, 1, 0};
        for (Twins.Setup one : since) {
            for (int what = 0; what <= 4; what++) lived.and(one).takes(due[what], "lived", what);
        }
        lived.and(x -> x.live(1)).takes(2, "lived", 0);
        lived.and(x -> x.live(1)).takes(0, "lived", 1);
        Twins left = of("", "loop 99;loop 99;grow red;end;end;").and(x -> x.live(0));
        left.takes(1, "lived", 4);
        Twins then = left.and(x -> Check.seasons(x, "stop;")).and(x -> x.live(0));
        for (int what = 0; what <= 4; what++) then.takes(0, "lived", what);
        Twins when = left.and(x -> Check.seasons(x, "when stands 0;cut right 0;end;")).and(x -> x.live(0));
        int[] once = {0, 1, 1, 0, 0};
        for (int what = 0; what <= 4; what++) when.takes(once[what], "lived", what);
    }

    @Sentence("The FRACTION is the mean of the WORTH of the HEDGE behind the SEASONS, by so many seeds (1 to 20) from one on (all stays as it is)")
    static void promise52_1To20Seeds() {
        Twins random = of("sprig blue;sprig red;", "any;");
        for (int many : new int[] {1, 2, 19, 20}) {
            int sum = 0;
            for (int seed = 50; seed < 50 + many; seed++) {
                int standing = standing(seed, 2, 1);
                sum += (standing & 1) - (standing >> 1);
            }
            random.asks(1, "mean", 50, many);
            ShearHedge x = random.takes(1, "mean", 50, many);
            Check.due("mean of " + many, x.top() * many, sum * x.bottom());
        }
        RICH.asks(1, "mean", 0, 20);
        RICH.refusesEach(5, Twins.outside(1, 20), 1, "mean", 0, 1);
    }

    @Sentence("5: the last above 9,999, too")
    static void promise52_theLastAbove9999() {
        RICH.takes(1, "mean", 0, 1);
        RICH.takes(1, "mean", 9999, 1);
        RICH.refuses(5, "mean", 9999, 2);
        RICH.takes(1, "mean", 9998, 2);
        RICH.takes(1, "mean", 9980, 20);
        RICH.refuses(5, "mean", 9981, 20);
        RICH.refuses(5, "mean", 9981, 20);
        RICH.refusesEach(5, Twins.outside(0, 9999), 0, "mean", 0, 1);
        RICH.refuses(5, "mean", MAX, 20);
        RICH.refuses(5, "mean", -1, 2);
        RICH.refuses(5, "mean", MAX, MAX);
        RICH.refuses(5, "mean", MIN, MAX);
    }

    @Sentence("(5: the last above 9,999, too; 8)")
    static void promise52_noSeasonsIs8() {
        NEW.refuses(8, "mean", 0, 1);
        NEW.refuses(8, "mean", 9999, 1);
        NEW.refuses(5, "mean", 9999, 2);
        RICH.and(x -> x.hedge(0)).refuses(8, "mean", 0, 20);
        NEW.and(x -> Check.seasons(x, "")).tells(0, 1, "mean", 0, 20);
        NEW.and(x -> Check.seasons(x, "grow red;")).tells(-1, 1, "mean", 0, 20);
    }

    @Sentence("A MARK more: how many there are (7).")
    static void promise53_atMost3() {
        NEW.takes(1, "mark");
        NEW.and(x -> x.mark()).takes(2, "mark");
        RICH.takes(3, "mark");
        RICH.and(x -> x.mark()).refuses(7, "mark");
        RICH.and(x -> x.mark()).and(x -> x.cut(0, 0)).refuses(7, "mark");
        RICH.and(x -> x.mark()).and(x -> x.back()).takes(3, "mark");
    }

    @Sentence("All is taken back to the latest MARK: how many there are left (8).")
    static void promise54_thereIsNone() {
        NEW.refuses(8, "back");
        NEW.and(x -> x.mark()).takes(0, "back");
        RICH.takes(1, "back");
        RICH.and(x -> x.mark()).takes(2, "back");
        RICH.and(x -> x.back()).takes(0, "back");
        RICH.and(x -> x.back()).and(x -> x.back()).refuses(8, "back");
    }
}
