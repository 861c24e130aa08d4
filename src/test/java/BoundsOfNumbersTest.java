/** The boundaries of numbers and FRACTIONS, in paragraphs 3 and 4 and in the sentences of promises 39 to 42. */
public final class BoundsOfNumbersTest {
    private static final int MIN = Twins.MIN;
    private static final int MAX = Twins.MAX;
    private static final int TOP = 20971520;
    private static final Twins RICH = Twins.rich();

    public static void main(String[] args) {
        Sentences.run(BoundsOfNumbersTest.class);
    }

    private static void simplest(long top, long bottom, int p, int k, int q, int m) {
        RICH.tells(top, bottom, "simplest", p, k, q, m);
        // the same with the other sign
        RICH.tells(-top, bottom, "simplest", -q, m, -p, k);
    }

    private static void stalk(int p, int k, String colours) {
        for (int i = 0; i < colours.length(); i++) RICH.takes(colours.charAt(i) == 'B' ? 0 : 1, "stalkAt", p, k, i);
        RICH.refuses(8, "stalkAt", p, k, colours.length());
        RICH.refuses(8, "stalkAt", p, k, -1);
    }

    // ---- paragraphs 3 and 4

    @Sentence("SIMPLEST of those between two numbers (neither of them): the one with the least BIRTHDAY.")
    static void paragraph3_neitherOfThem() {
        simplest(1, 2, 0, 0, 1, 0);
        simplest(1, 1, 0, 0, 2, 0);
        simplest(3, 2, 1, 0, 2, 0);
        simplest(2, 1, 1, 0, 3, 0);
        simplest(-1, 2, -1, 0, 0, 0);
        simplest(0, 1, -1, 0, 1, 0);
        simplest(1, 1, 0, 0, TOP, 20);
        simplest(3, 4, 1, 1, 1, 0);
        simplest(1, 4, 0, 0, 1, 1);
        simplest(1, 4, 0, 0, 2, 2);
        // 1 is between, by a little at one end, and not
        simplest(1, 1, 1, 1, (1 << 20) + 1, 20);
        simplest(3, 4, 1, 1, 1 << 20, 20);
        simplest(1, 1, (1 << 20) - 1, 20, 2, 0);
        simplest(3, 2, 1 << 20, 20, 2, 0);
        // 0 is between, and not
        simplest(0, 1, -1, 20, 1, 20);
        simplest(1, 1 << 21, 0, 20, 1, 20);
        simplest(2L * TOP - 1, 1 << 21, TOP - 1, 20, TOP, 20);
        simplest(39, 2, 19, 0, 20, 0);
        simplest(0, 1, -20, 0, 20, 0);
    }

    @Sentence("BIRTHDAY of a whole number: what it is without sign; of another one: what it is without sign, rounded down, "
        + "and the least k by which it times 2 to the k is whole, and 1 more, together.")
    static void paragraph3_birthdays() {
        long[][] due = {{0, 0, 0}, {0, 20, 0}, {1, 0, 1}, {-1, 0, 1}, {20, 0, 20}, {-20, 0, 20}, {40, 1, 20}, {2, 1, 1}, {-4, 2, 1},
            {1, 1, 2}, {-1, 1, 2}, {1, 2, 3}, {3, 2, 3}, {2, 2, 2}, {3, 1, 3}, {-3, 1, 3}, {39, 1, 21}, {1, 20, 21}, {TOP - 1, 20, 40},
            {1 - TOP, 20, 40}, {(1 << 20) - 1, 20, 21}, {(1 << 20) + 1, 20, 22}};
        for (long[] one : due) RICH.takes(one[2], "birthday", one[0], one[1]);
    }

    @Sentence("STALK of a number (from -20 to 20)")
    static void paragraph3_stalksOfTheLeastAndTheGreatest() {
        stalk(20, 0, "BBBBBBBBBBBBBBBBBBBB");
        stalk(-TOP, 20, "RRRRRRRRRRRRRRRRRRRR");
        stalk(TOP - 1, 20, "BBBBBBBBBBBBBBBBBBBBRBBBBBBBBBBBBBBBBBBB");
        stalk(1 - TOP, 20, "RRRRRRRRRRRRRRRRRRRRBRRRRRRRRRRRRRRRRRRR");
        stalk(1, 20, "BRRRRRRRRRRRRRRRRRRRR");
        stalk(-1, 20, "RBBBBBBBBBBBBBBBBBBBB");
        RICH.refuses(5, "stalkAt", 21, 0, 0);
        RICH.refuses(5, "stalkAt", -21, 0, 0);
        RICH.refuses(5, "stalkAt", TOP + 1, 20, 0);
    }

    @Sentence("the row of BLUE and RED SPRIGS, each on the one ahead, that is worth it: of a whole number as many BLUE ones (RED ones below 0); of another one above 0 a BLUE one more than it is rounded down, "
        + "a RED one, then, as to the number that is worth so far, BLUE if that is less, RED if it is more, till it is that; "
        + "of one below 0 that of the other sign with the other colours.")
    static void paragraph3_stalks() {
        stalk(0, 0, "");
        stalk(0, 20, "");
        stalk(1, 0, "B");
        stalk(-1, 0, "R");
        stalk(6, 1, "BBB");
        stalk(1, 1, "BR");
        stalk(3, 1, "BBR");
        stalk(1, 2, "BRR");
        stalk(3, 2, "BRB");
        stalk(3, 3, "BRRB");
        stalk(5, 3, "BRBR");
        stalk(9, 3, "BBRRR");
        stalk(-3, 3, "RBBR");
        stalk(-9, 3, "RRBBB");
    }

    @Sentence("FRACTIONS are told by top() and bottom() without a common divisor, the bottom above 0; 0 is 0 by 1.")
    static void paragraph4_withoutACommonDivisor() {
        RICH.tells(0, 1, "simplest", -2, 1, 6, 3);
        Twins bets = Twins.of("bet 1 1;bet 0 2;bet 2 4;bet 3 4;");
        bets.tells(1, 1, "heat", 0, 0);
        bets.tells(0, 1, "heat", 0, 1);
        bets.tells(-1, 1, "heat", 1, 1);
        bets.tells(3, 1, "heat", 2, 0);
        bets.tells(-1, 1, "heat", 2, 1);
        bets.tells(7, 2, "heat", 3, 0);
        bets.tells(-1, 2, "heat", 3, 1);
        Twins of4 = Twins.of("sprig blue;".repeat(4));
        of4.tells(1, 2, "oddsBlue", 15, 0, 0, 0);
        of4.tells(3, 4, "oddsBlue", 15, 2, 0, 0);
        of4.tells(1, 1, "oddsBlue", 15, 4, 0, 0);
        of4.tells(0, 1, "oddsBlue", 15, -4, 0, 0);
        of4.tells(1, 1, "luck", 1);
        Twins.of("").tells(0, 1, "luck", 0);
        Twins.of("sprig red;").tells(0, 1, "luck", 1);
        Twins.of("sprig blue;sprig red;").tells(0, 1, "worth");
    }

    @Sentence("A number p by 2 to the k is given by p (-20,971,520 to 20,971,520) and k (0 to 20), and must be from -20 to 20.")
    static void paragraph4_numbersThatCanBe() {
        for (int k = 0; k <= 20; k++) {
            RICH.takes(20, "birthday", 20L << k, k);
            RICH.takes(20, "birthday", -20L << k, k);
            RICH.refuses(5, "birthday", (20L << k) + 1, k);
            RICH.refuses(5, "birthday", (-20L << k) - 1, k);
        }
        RICH.takes(0, "birthday", 0, 20);
        for (long k : new long[] {MIN, -1, 21, 31, 32, 64, MAX}) {
            RICH.refuses(5, "birthday", 0, k);
            RICH.refuses(5, "birthday", 1, k);
            RICH.refuses(5, "birthday", TOP, k);
        }
        // what would be from -20 to 20 once more, if an int or a long wrapped around
        for (long p : new long[] {MIN, MAX, 1L << 24, 1 << 30, -1 << 30, 1 << 25}) RICH.refuses(5, "birthday", p, 0);
        for (long p : new long[] {MIN, MAX, 1 << 30, -1 << 30, 1 << 25, TOP + 1, -TOP - 1}) RICH.refuses(5, "birthday", p, 20);
        numbersOfEachCall();
    }

    /** All calls that are given numbers look at them alike. */
    private static void numbersOfEachCall() {
        int[][] none = {{21, 0}, {-21, 0}, {TOP + 1, 20}, {-TOP - 1, 20}, {TOP, 19}, {MAX, 20}, {MIN, 20}, {0, -1}, {0, 21}, {1, MAX}, {1, MIN}};
        for (int[] number : none) {
            int p = number[0];
            int k = number[1];
            RICH.refuses(5, "simplest", p, k, 20, 0);
            RICH.refuses(5, "simplest", -20, 0, p, k);
            RICH.refuses(5, "birthday", p, k);
            RICH.refuses(5, "stalkAt", p, k, 0);
            RICH.refuses(5, "colourings", 1, p, k);
            RICH.refuses(5, "firstRed", 1, p, k);
            RICH.refuses(5, "oddsBlue", 1, p, k, 0);
            RICH.refuses(5, "ask", 1, p, k);
        }
        int[][] fine = {{20, 0}, {-20, 0}, {TOP, 20}, {-TOP, 20}, {TOP / 2, 19}};
        for (int[] number : fine) {
            RICH.takes(20, "birthday", number[0], number[1]);
            RICH.takes(0, "colourings", 1, number[0], number[1]);
            RICH.takes(number[0] > 0 ? 0 : 1, "stalkAt", number[0], number[1], 19);
            RICH.refuses(8, "firstRed", 1, number[0], number[1]);
            RICH.refuses(8, "oddsBlue", 1, number[0], number[1], 0);
            RICH.refuses(8, "ask", 1, number[0], number[1]);
        }
    }

    // ---- promises 39 to 42

    @Sentence("The FRACTION is the SIMPLEST number between p by 2 to the k and q by 2 to the m (5; 9: the first one is not less).")
    static void promise39_theFirstOneIsNotLess() {
        RICH.tells(3, 2, "simplest", 1, 0, 2, 0);
        RICH.asks(1, "simplest", 1, 0, 2, 0);
        RICH.refuses(9, "simplest", 1, 0, 1, 0);
        RICH.refuses(9, "simplest", 2, 0, 1, 0);
        RICH.refuses(9, "simplest", 1, 0, 4, 2);
        RICH.refuses(9, "simplest", 1 << 20, 20, 1, 0);
        RICH.refuses(9, "simplest", (1 << 20) + 1, 20, 1, 0);
        RICH.tells(2 * (1 << 20) - 1, 1 << 21, "simplest", (1 << 20) - 1, 20, 1, 0);
        RICH.refuses(9, "simplest", 0, 0, 0, 20);
        RICH.refuses(9, "simplest", 20, 0, -20, 0);
        RICH.refuses(9, "simplest", 20, 0, 20, 0);
        RICH.refuses(9, "simplest", 1, 1, 1, 2);
        RICH.tells(3, 8, "simplest", 1, 2, 1, 1);
    }

    @Sentence("(5; 9: the first one is not less)")
    static void promise39_aNumberThatCantBe() {
        RICH.refuses(5, "simplest", 21, 0, 20, 0);
        RICH.refuses(5, "simplest", 20, 0, 21, 0);
        RICH.refuses(5, "simplest", -21, 0, 0, 0);
        RICH.refuses(5, "simplest", 0, 0, 41, 1);
        RICH.refuses(5, "simplest", 0, 21, 1, 0);
        RICH.refuses(5, "simplest", 0, 0, 1, 21);
        RICH.refuses(5, "simplest", 0, -1, 1, 0);
        RICH.refuses(5, "simplest", 0, 0, 1, -1);
    }

    @Sentence("BIRTHDAY of p by 2 to the k (5).")
    static void promise40_aNumberThatCantBe() {
        RICH.asks(20, "birthday", -20, 0);
        RICH.asks(40, "birthday", TOP - 1, 20);
        RICH.refuses(5, "birthday", 21, 0);
        RICH.refuses(5, "birthday", -21, 0);
        RICH.refuses(5, "birthday", 41, 1);
        RICH.refuses(5, "birthday", TOP + 1, 20);
        RICH.refuses(5, "birthday", 1, 21);
        RICH.refuses(5, "birthday", 1, -1);
    }

    @Sentence("Of the STALK of p by 2 to the k the COLOUR of the i-th SPRIG, from 0 (on the ground) on (5; 8: no such).")
    static void promise41_noSuchSprigIs8() {
        RICH.asks(0, "stalkAt", 5, 3, 0);
        RICH.asks(1, "stalkAt", 5, 3, 3);
        RICH.refusesEach(8, Twins.outside(0, 3), 2, "stalkAt", 5, 3, 0);
        RICH.asks(0, "stalkAt", 3, 0, 2);
        RICH.refusesEach(8, Twins.outside(0, 2), 2, "stalkAt", 3, 0, 0);
        RICH.refusesEach(8, Twins.outside(0, 2), 2, "stalkAt", -3, 0, 0);
        RICH.refusesEach(8, new long[] {MIN, -1, 0, 1, MAX}, 2, "stalkAt", 0, 0, 0);
        RICH.takes(0, "stalkAt", TOP - 1, 20, 39);
        RICH.refuses(8, "stalkAt", TOP - 1, 20, 40);
    }

    @Sentence("(5; 8: no such)")
    static void promise41_aNumberThatCantBe() {
        RICH.refuses(5, "stalkAt", 21, 0, 0);
        RICH.refuses(5, "stalkAt", 21, 0, 99);
        RICH.refuses(5, "stalkAt", 0, 21, 0);
        RICH.refuses(5, "stalkAt", 0, -1, -1);
    }

    /** TRAY 1 has these numbers. */
    private static Twins row(int sort, long... numbers) {
        return RICH.and(x -> {
            x.tray(1, sort, numbers.length);
            for (int i = 0; i < numbers.length; i++) x.write(1, i, numbers[i]);
        });
    }

    @Sentence("The FRACTION is the WORTH of a STALK of the first n numbers (0 to 20) of a TRAY (0 BLUE, 1 RED)")
    static void promise42_firstNNumbers0To20() {
        long[] blue = new long[21];
        Twins many = row(0, blue);
        many.tells(0, 1, "stalkWorth", 1, 0);
        many.tells(1, 1, "stalkWorth", 1, 1);
        many.tells(20, 1, "stalkWorth", 1, 20);
        many.asks(1, "stalkWorth", 1, 20);
        many.refusesEach(5, new long[] {MIN, -1, 21}, 1, "stalkWorth", 1, 0);
        long[] red = new long[60];
        for (int i = 0; i < 60; i++) red[i] = 1;
        row(2, red).tells(-20, 1, "stalkWorth", 1, 20);
        row(2, red).refusesEach(5, new long[] {MIN, -1, 21, 60}, 1, "stalkWorth", 1, 0);
        long[] thin = red.clone();
        thin[0] = 0;
        row(3, thin).tells(1, 1 << 19, "stalkWorth", 1, 20);
    }

    @Sentence("(0 BLUE, 1 RED)")
    static void promise42_aNumberInATrayThatCantBe() {
        for (long none : new long[] {-1, 2, 3, 1L << 32, (1L << 32) + 1, Long.MAX_VALUE, Long.MIN_VALUE}) {
            row(3, none, 0, 0).refuses(5, "stalkWorth", 1, 3);
            row(3, 0, 0, none).refuses(5, "stalkWorth", 1, 3);
            row(3, 0, 0, none).tells(2, 1, "stalkWorth", 1, 2);
            row(3, none).tells(0, 1, "stalkWorth", 1, 0);
        }
        row(0, 256, 257).tells(1, 2, "stalkWorth", 1, 2);
        row(0, 0, 255).refuses(5, "stalkWorth", 1, 2);
    }

    @Sentence("the first on the ground")
    static void promise42_theFirstOnTheGround() {
        row(1, 0, 1, 1).tells(1, 4, "stalkWorth", 1, 3);
        row(1, 1, 0, 0).tells(-1, 4, "stalkWorth", 1, 3);
        row(1, 0, 0, 1).tells(3, 2, "stalkWorth", 1, 3);
        row(1, 1, 1, 0).tells(-3, 2, "stalkWorth", 1, 3);
    }

    @Sentence("(1; 3; 4; 5)")
    static void promise42_noTrayAMissingOneTooFewNumbers() {
        RICH.refusesEach(1, Twins.outside(0, 3), 0, "stalkWorth", 0, 0);
        RICH.refuses(3, "stalkWorth", 3, 0);
        row(0, 0, 0, 0).tells(3, 1, "stalkWorth", 1, 3);
        row(0, 0, 0, 0).refusesEach(4, new long[] {4, 20, 21, MAX}, 1, "stalkWorth", 1, 0);
        row(0).tells(0, 1, "stalkWorth", 1, 0);
        row(0).refuses(4, "stalkWorth", 1, 1);
    }
}
