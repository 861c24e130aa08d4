/**
 * A hedge that two gardeners cut by turns: ../shared/DOC.md says, as numbered promises, what each call does.
 *
 * Every row that a call needs is made with the object and used again, so that no call makes an object.
 */
public final class ShearHedge {
    public static final int NONE = -1;

    private static final int LEFT = 0;
    private static final int RIGHT = 1;
    private static final int BLUE = 0;
    private static final int RED = 1;
    private static final int GREEN = 2;
    private static final int FELL = 3;

    private static final int MOST_SPRIGS = 20;
    private static final int MOST_HEAPS = 4;
    private static final int MOST_IN_HEAP = 15;
    private static final int MOST_BETS = 5;
    private static final int MOST_OF_BET = 20;
    private static final int MOST_MARKS = 3;
    private static final int MOST_BYTES = 900;
    private static final int MOST_SEASONS_BYTES = 300;
    private static final int MOST_SEED = 9999;
    private static final int MOST_SEEDS = 20;

    // A worth is kept as so many 2^-30: 20 sprigs need no finer part than 2^-20, and 2^-21 lies between two given numbers.
    private static final int FINE = 30;
    private static final long ONE = 1L << FINE;
    private static final int MOST_WORTH = 20;
    private static final int MOST_HALVINGS = 20;
    private static final int MOST_TOP = 20971520;

    private static final int NO_TRAY = 1;
    private static final int NO_SUCH = 2;
    private static final int TRAY_MISSING = 3;
    private static final int NO_PLACE = 4;
    private static final int BAD_NUMBER = 5;
    private static final int BELOW_ZERO = 6;
    private static final int ONE_TOO_MANY = 7;
    private static final int THERE_IS_NONE = 8;
    private static final int CAN_NOT_BE = 9;
    private static final int FAULTY_TEXT = 10;
    private static final int UNLIKE_SORTS = 11;

    private static final int NO_TOKEN = 1;
    private static final int OUT_OF_PLACE = 2;
    private static final int WRONG_NUMBER = 4;
    private static final int WRONG_COLOUR = 5;
    private static final int TOO_MANY = 6;
    private static final int TOO_DEEP = 7;

    private final Trays trays = new Trays();
    private final Tokens tape = new Tokens();
    private final Hedge hedge = new Hedge();
    private final Hedge trial = new Hedge();
    private final Seasons seasons = new Seasons();
    private final Seasons freshSeasons = new Seasons();
    private final Hedge[] keptHedges = new Hedge[MOST_MARKS];
    private final Seasons[] keptSeasons = new Seasons[MOST_MARKS];
    private final Play play = new Play();
    private final Ways ways = new Ways();
    private final Shears shears = new Shears();
    private final Life latestLife = new Life();
    private final Life trialLife = new Life();
    private boolean hasLived = false;
    private int marks = 0;
    private int textFault = NONE;
    private int textFaultPlace = NONE;
    private int latestStatus = 0;
    private long fractionTop = 0;
    private long fractionBottom = 1;

    public ShearHedge() {
        for (int i = 0; i < MOST_MARKS; i++) {
            keptHedges[i] = new Hedge();
            keptSeasons[i] = new Seasons();
        }
    }

    public int status() {
        return latestStatus;
    }

    public long top() {
        return fractionTop;
    }

    public long bottom() {
        return fractionBottom;
    }

    // ---- TRAYS

    public boolean tray(int tray, int sort, int many) {
        if (!Trays.isTray(tray) || !Trays.isSort(sort)) return no(NO_TRAY);
        if (many > Trays.MOST_NUMBERS) return no(BAD_NUMBER);
        if (many < 0) return no(BELOW_ZERO);
        trays.lay(tray, sort, many);
        return yes();
    }

    public boolean write(int tray, int place, long v) {
        int refused = placeStatus(tray, place);
        if (refused != 0) return no(refused);
        trays.put(tray, place, v);
        return yes();
    }

    public long read(int tray, int place) {
        int refused = placeStatus(tray, place);
        if (refused != 0) return none(refused);
        latestStatus = 0;
        return trays.at(tray, place);
    }

    public boolean pour(int tray, int i, int to, int j, int many) {
        if (!Trays.isTray(tray) || !Trays.isTray(to)) return no(NO_TRAY);
        if (trays.isMissing(tray) || trays.isMissing(to)) return no(TRAY_MISSING);
        if (trays.sortOf(tray) != trays.sortOf(to)) return no(UNLIKE_SORTS);
        if (many < 0) return no(BELOW_ZERO);
        if (!trays.holds(tray, i, many) || !trays.holds(to, j, many)) return no(NO_PLACE);
        trays.move(tray, i, to, j, many);
        return yes();
    }

    // ---- texts

    public int feed(int a, int b, int c, int d, int e) {
        if (!tape.hasRoom(20)) return NONE;
        tape.append(a);
        tape.append(b);
        tape.append(c);
        tape.append(d);
        tape.append(e);
        return tape.fed;
    }

    public int hedge(int n) {
        if (n < 0 || n > tape.fed) return none(BAD_NUMBER);
        tape.open(n);
        HedgeText.parse(tape, trial);
        if (!closeText()) return none(FAULTY_TEXT);
        Hedge.copy(trial, hedge);
        seasons.forget();
        return told(hedge.sprigs);
    }

    public int seasons(int n) {
        if (n < 0 || n > tape.fed || n > MOST_SEASONS_BYTES) return none(BAD_NUMBER);
        tape.open(n);
        SeasonsText.parse(tape, freshSeasons);
        if (!closeText()) return none(FAULTY_TEXT);
        Seasons.copy(freshSeasons, seasons);
        return told(seasons.steps);
    }

    public int fault(int what) {
        if (what == 0) return textFault;
        if (what == 1) return textFaultPlace;
        return NONE;
    }

    public int many(int what) {
        switch (what) {
            case 0: return told(hedge.sprigs);
            case 1: return told(hedge.heaps);
            case 2: return told(hedge.bets);
            case 3: return told(hedge.standing);
            case 4: return told(hedge.taken);
            case 5: return told(hedge.cuts);
            case 6: return told(hedge.score);
            default: return none(BAD_NUMBER);
        }
    }

    public int sprig(int sprig, int what) {
        if (!hedge.hasSprig(sprig)) return none(NO_SUCH);
        boolean stands = hedge.isStanding(sprig);
        switch (what) {
            case 0: return told(hedge.colour[sprig]);
            case 1: return hedge.on[sprig] == NONE ? none(THERE_IS_NONE) : told(hedge.on[sprig]);
            case 2: return told(stands ? 1 : 0);
            case 3: return told(hedge.rightOn(sprig));
            case 4: return stands ? told(Integer.bitCount(hedge.branchSet(sprig))) : none(THERE_IS_NONE);
            default: return none(BAD_NUMBER);
        }
    }

    public int heap(int heap) {
        if (!hedge.hasHeap(heap)) return none(NO_SUCH);
        return told(hedge.heap[heap]);
    }

    public int bet(int bet, int side) {
        if (!hedge.hasBet(bet) || !isSide(side)) return none(NO_SUCH);
        return told(hedge.betFor(bet, side));
    }

    public int copyColours(int tray) {
        if (!Trays.isTray(tray)) return none(NO_TRAY);
        if (trays.isMissing(tray)) return none(TRAY_MISSING);
        if (!trays.holds(tray, 0, hedge.sprigs)) return none(NO_PLACE);
        for (int i = 0; i < hedge.sprigs; i++) {
            trays.put(tray, i, hedge.isStanding(i) ? hedge.colour[i] : FELL);
        }
        return told(hedge.sprigs);
    }

    // ---- what is done

    public int cut(int side, int sprig) {
        if (!isSide(side) || !hedge.hasSprig(sprig)) return none(NO_SUCH);
        if (!hedge.mayCut(side, sprig)) return none(CAN_NOT_BE);
        return told(hedge.shear(sprig));
    }

    public int take(int side, int bet) {
        if (!isSide(side) || !hedge.hasBet(bet)) return none(NO_SUCH);
        if (!hedge.mayTake(bet)) return none(CAN_NOT_BE);
        hedge.winBet(side, bet);
        return told(hedge.score);
    }

    public int less(int heap, int n) {
        if (!hedge.hasHeap(heap)) return none(NO_SUCH);
        if (n < 0 || n > MOST_IN_HEAP) return none(BAD_NUMBER);
        if (!hedge.mayLessen(heap, n)) return none(CAN_NOT_BE);
        hedge.lessen(heap, n);
        return told(hedge.nimWith(hedge.standing));
    }

    public int spend(int side) {
        if (!isSide(side)) return none(NO_SUCH);
        if (!hedge.maySpend(side)) return none(CAN_NOT_BE);
        hedge.spendOne(side);
        return told(hedge.score);
    }

    public int grow(int colour, int on) {
        if (on != NONE && !hedge.hasSprig(on)) return none(NO_SUCH);
        if (colour < BLUE || colour > GREEN) return none(BAD_NUMBER);
        if (hedge.sprigs >= MOST_SPRIGS) return none(ONE_TOO_MANY);
        if (!hedge.mayGrow(colour, on)) return none(CAN_NOT_BE);
        hedge.addSprig(colour, on);
        return told(hedge.sprigs - 1);
    }

    public int paint(int sprig) {
        if (!hedge.hasSprig(sprig)) return none(NO_SUCH);
        if (!hedge.hasWorth(sprig)) return none(CAN_NOT_BE);
        hedge.colour[sprig] = hedge.colour[sprig] == BLUE ? RED : BLUE;
        return told(hedge.colour[sprig]);
    }

    public int pile(int n) {
        if (n < 0 || n > MOST_IN_HEAP) return none(BAD_NUMBER);
        if (hedge.heaps >= MOST_HEAPS) return none(ONE_TOO_MANY);
        hedge.addHeap(n);
        return told(hedge.heaps - 1);
    }

    public int offer(int left, int right) {
        if (!Hedge.canBeBet(left, right)) return none(BAD_NUMBER);
        if (hedge.bets >= MOST_BETS) return none(ONE_TOO_MANY);
        hedge.addBet(left, right);
        return told(hedge.bets - 1);
    }

    // ---- what it is worth

    public boolean worth() {
        return tellNumber(hedge.worthWith(hedge.standing));
    }

    public boolean worthOf(int sprig) {
        if (!hedge.hasSprig(sprig)) return no(NO_SUCH);
        if (!hedge.hasWorth(sprig)) return no(CAN_NOT_BE);
        return tellNumber(hedge.branchWorth(sprig));
    }

    public int nimber() {
        return told(hedge.nimWith(hedge.standing));
    }

    public int nimOf(int sprig) {
        if (!hedge.hasSprig(sprig)) return none(NO_SUCH);
        if (!hedge.isStanding(sprig) || hedge.colour[sprig] != GREEN) return none(CAN_NOT_BE);
        return told(hedge.branchNim(sprig));
    }

    public int compare(int sprig, int other) {
        if (!hedge.hasSprig(sprig) || !hedge.hasSprig(other)) return none(NO_SUCH);
        if (!hedge.hasWorth(sprig) || !hedge.hasWorth(other)) return none(CAN_NOT_BE);
        return told(Long.compare(hedge.branchWorth(sprig), hedge.branchWorth(other)) + 1);
    }

    // ---- who wins

    public int outcome() {
        boolean leftByLeft = Play.winsBeginning(hedge, LEFT);
        boolean rightByRight = Play.winsBeginning(hedge, RIGHT);
        if (leftByLeft) return told(rightByRight ? 2 : 0);
        return told(rightByRight ? 1 : 3);
    }

    public int winner(int side) {
        if (!isSide(side)) return none(NO_SUCH);
        return told(Play.winsBeginning(hedge, side) ? side : other(side));
    }

    public int moves(int side) {
        if (!isSide(side)) return none(NO_SUCH);
        play.look(hedge, side);
        return told(play.found);
    }

    public int wins(int side) {
        if (!isSide(side)) return none(NO_SUCH);
        play.look(hedge, side);
        return told(play.winning);
    }

    public int bestOf(int side, int what) {
        if (!isSide(side)) return none(NO_SUCH);
        if (what < 0 || what > 2) return none(BAD_NUMBER);
        play.look(hedge, side);
        if (play.winning == 0) return none(THERE_IS_NONE);
        if (what == 0) return told(play.firstKind);
        return told(what == 1 ? play.firstPlace : play.firstLeft);
    }

    public boolean stop(int side) {
        if (!isSide(side)) return no(NO_SUCH);
        return tellNumber(Play.settled(hedge, hedge.worthWith(hedge.standing), hedge.taken, side));
    }

    public int hottest() {
        int bet = hedge.hottestBut(hedge.taken);
        return bet == NONE ? none(THERE_IS_NONE) : told(bet);
    }

    public boolean heat(int bet, int what) {
        if (!hedge.hasBet(bet)) return no(NO_SUCH);
        if (what != 0 && what != 1) return no(BAD_NUMBER);
        int right = hedge.betFor(bet, RIGHT);
        return tellFraction(hedge.betFor(bet, LEFT) + (what == 0 ? right : -right), 2);
    }

    // ---- numbers

    public boolean simplest(int p, int k, int q, int m) {
        if (!Numbers.canBe(p, k) || !Numbers.canBe(q, m)) return no(BAD_NUMBER);
        long low = Numbers.of(p, k);
        long high = Numbers.of(q, m);
        if (low >= high) return no(CAN_NOT_BE);
        return tellNumber(Numbers.between(low, high));
    }

    public int birthday(int p, int k) {
        if (!Numbers.canBe(p, k)) return none(BAD_NUMBER);
        return told(Numbers.age(Numbers.of(p, k)));
    }

    public int stalkAt(int p, int k, int i) {
        if (!Numbers.canBe(p, k)) return none(BAD_NUMBER);
        int colour = Numbers.stalkColour(Numbers.of(p, k), i);
        return colour == NONE ? none(THERE_IS_NONE) : told(colour);
    }

    public boolean stalkWorth(int tray, int n) {
        if (!Trays.isTray(tray)) return no(NO_TRAY);
        if (trays.isMissing(tray)) return no(TRAY_MISSING);
        if (n >= 0 && !trays.holds(tray, 0, n)) return no(NO_PLACE);
        if (n < 0 || n > MOST_SPRIGS) return no(BAD_NUMBER);
        long worth = 0;
        for (int i = n - 1; i >= 0; i--) {
            long colour = trays.at(tray, i);
            if (colour != BLUE && colour != RED) return no(BAD_NUMBER);
            worth = Numbers.branch((int) colour, worth);
        }
        return tellNumber(worth);
    }

    // ---- colourings, balance, luck

    public int colourings(int set, int p, int k) {
        if (!findWays(set, p, k)) return none(BAD_NUMBER);
        return told(ways.found);
    }

    public int firstRed(int set, int p, int k) {
        if (!findWays(set, p, k)) return none(BAD_NUMBER);
        return ways.found == 0 ? none(THERE_IS_NONE) : told(ways.firstRedSet);
    }

    public boolean oddsBlue(int set, int p, int k, int sprig) {
        if (!hedge.hasSprig(sprig)) return no(NO_SUCH);
        if (!findWays(set, p, k)) return no(BAD_NUMBER);
        if (ways.found == 0) return no(THERE_IS_NONE);
        if (!isIn(set, sprig)) return no(CAN_NOT_BE);
        return tellFraction(ways.blue[sprig], ways.found);
    }

    public int ask(int set, int p, int k) {
        if (!findWays(set, p, k)) return none(BAD_NUMBER);
        return ways.found < 2 ? none(THERE_IS_NONE) : told(ways.bestParting(set));
    }

    public int balance() {
        int set = shears.balancing(hedge);
        return set == NONE ? none(THERE_IS_NONE) : told(Integer.bitCount(set));
    }

    public int balanceSet() {
        int set = shears.balancing(hedge);
        return set == NONE ? none(THERE_IS_NONE) : told(set);
    }

    public boolean luck(int side) {
        if (!isSide(side)) return no(NO_SUCH);
        if (!Shears.leavesToLuck(hedge)) return no(CAN_NOT_BE);
        return tellFraction(shears.oddsOfLeft(hedge, side), Shears.SURE);
    }

    // ---- SEASONS

    public int live(int seed) {
        if (seed < 0 || seed > MOST_SEED) return none(BAD_NUMBER);
        if (!seasons.given) return none(THERE_IS_NONE);
        latestLife.run(hedge, seasons, seed);
        hasLived = true;
        return told(latestLife.steps);
    }

    public int lived(int what) {
        if (what < 0 || what > 4) return none(BAD_NUMBER);
        if (!hasLived) return none(THERE_IS_NONE);
        switch (what) {
            case 0: return told(latestLife.missed);
            case 1: return told(latestLife.cuts);
            case 2: return told(latestLife.fallen);
            case 3: return told(latestLife.grown);
            default: return told(latestLife.unfinished ? 1 : 0);
        }
    }

    public boolean mean(int seed, int many) {
        if (seed < 0 || many < 1 || many > MOST_SEEDS || seed > MOST_SEED + 1 - many) return no(BAD_NUMBER);
        if (!seasons.given) return no(THERE_IS_NONE);
        long sum = 0;
        for (int i = 0; i < many; i++) {
            Hedge.copy(hedge, trial);
            trialLife.run(trial, seasons, seed + i);
            sum += trial.worthWith(trial.standing);
        }
        return tellFraction(sum, many * ONE);
    }

    // ---- MARKS

    public int mark() {
        if (marks < 0 || marks >= MOST_MARKS) return none(ONE_TOO_MANY);
        Hedge.copy(hedge, keptHedges[marks]);
        Seasons.copy(seasons, keptSeasons[marks]);
        marks++;
        return told(marks);
    }

    public int back() {
        if (marks <= 0 || marks > MOST_MARKS) return none(THERE_IS_NONE);
        marks--;
        Hedge.copy(keptHedges[marks], hedge);
        Seasons.copy(keptSeasons[marks], seasons);
        return told(marks);
    }

    // ---- what the calls above share

    private int told(int answer) {
        latestStatus = 0;
        return answer;
    }

    private int none(int why) {
        latestStatus = why;
        return NONE;
    }

    private boolean yes() {
        latestStatus = 0;
        return true;
    }

    private boolean no(int why) {
        latestStatus = why;
        return false;
    }

    private boolean tellNumber(long worth) {
        return tellFraction(worth, ONE);
    }

    /** The bottom is above 0. */
    private boolean tellFraction(long top, long bottom) {
        long divisor = Numbers.commonDivisor(Math.abs(top), bottom);
        if (divisor > 0) {
            fractionTop = top / divisor;
            fractionBottom = bottom / divisor;
        }
        return yes();
    }

    /** The STATUS with which a place of a TRAY is refused. */
    private int placeStatus(int tray, int place) {
        if (!Trays.isTray(tray)) return NO_TRAY;
        if (trays.isMissing(tray)) return TRAY_MISSING;
        return trays.holds(tray, place, 1) ? 0 : NO_PLACE;
    }

    /** What fault() tells of the text just read; whether it has none. */
    private boolean closeText() {
        textFault = tape.fault;
        textFaultPlace = tape.faultPlace;
        tape.empty();
        return textFault == 0;
    }

    private boolean findWays(int set, int p, int k) {
        if (!Ways.canBe(hedge, set) || !Numbers.canBe(p, k)) return false;
        // the colours are tried on a copy, so that the hedge keeps its own
        Hedge.copy(hedge, trial);
        ways.find(trial, set, Numbers.of(p, k));
        return true;
    }

    private static boolean isSide(int side) {
        return side == LEFT || side == RIGHT;
    }

    private static int other(int side) {
        return side == LEFT ? RIGHT : LEFT;
    }

    /** Whether a set, 1 for what bears number 0, holds what bears this number. */
    private static boolean isIn(int set, int number) {
        return (set >> number & 1) != 0;
    }

    private static final class Trays {
        static final int MOST_TRAYS = 4;
        static final int MOST_NUMBERS = 60;

        private final long[][] numbers = new long[MOST_TRAYS][MOST_NUMBERS];
        private final int[] sort = new int[MOST_TRAYS];
        private final int[] length = new int[MOST_TRAYS];

        Trays() {
            for (int i = 0; i < MOST_TRAYS; i++) length[i] = NONE;
        }

        static boolean isTray(int tray) {
            return tray >= 0 && tray < MOST_TRAYS;
        }

        static boolean isSort(int sort) {
            return sort >= 0 && sort <= 3;
        }

        boolean isMissing(int tray) {
            return !isTray(tray) || length[tray] == NONE;
        }

        int sortOf(int tray) {
            return isTray(tray) ? sort[tray] : NONE;
        }

        /** Whether so many numbers stand in a TRAY from this place on. */
        boolean holds(int tray, int place, int many) {
            return isTray(tray) && place >= 0 && many >= 0 && place <= length[tray] && many <= length[tray] - place;
        }

        void lay(int tray, int newSort, int many) {
            if (!isTray(tray) || many > MOST_NUMBERS) return;
            sort[tray] = newSort;
            length[tray] = many;
            for (int i = 0; i < many; i++) numbers[tray][i] = 0;
        }

        long at(int tray, int place) {
            return holds(tray, place, 1) ? numbers[tray][place] : NONE;
        }

        void put(int tray, int place, long v) {
            if (holds(tray, place, 1)) numbers[tray][place] = fitted(v, sort[tray]);
        }

        void move(int tray, int i, int to, int j, int many) {
            if (!holds(tray, i, many) || !holds(to, j, many)) return;
            System.arraycopy(numbers[tray], i, numbers[to], j, many);
        }

        private static long fitted(long v, int sort) {
            switch (sort) {
                case 0: return (byte) v;
                case 1: return (short) v;
                case 2: return (int) v;
                default: return v;
            }
        }
    }

    /** The tape and the TOKENS on it, read one by one; the first fault stays, and nothing is read behind it. */
    private static final class Tokens {
        private static final int END = 0;
        private static final int WORD = 1;
        private static final int NUMBER = 2;
        private static final int SIGN = 3;
        private static final int STRANGE = 4;
        private static final int MOST_DIGITS = 4;

        private final byte[] bytes = new byte[MOST_BYTES];
        int fed = 0;
        int fault = 0;
        int faultPlace = NONE;
        private int end = 0;
        private int kind = END;
        private int start = 0;
        private int behind = 0;
        private int value = 0;

        boolean hasRoom(int many) {
            return fed <= MOST_BYTES - many;
        }

        void append(int four) {
            if (!hasRoom(4)) return;
            for (int shift = 24; shift >= 0; shift -= 8) {
                bytes[fed] = (byte) (four >> shift);
                fed++;
            }
        }

        void empty() {
            fed = 0;
        }

        /** Reads the first TOKEN of the text of the first n bytes. */
        void open(int n) {
            end = Math.max(0, Math.min(n, fed));
            fault = 0;
            faultPlace = NONE;
            behind = 0;
            step();
        }

        boolean goesOn() {
            return fault == 0 && kind != END;
        }

        /** Reads the next TOKEN. */
        void step() {
            if (fault != 0) return;
            start = behind;
            while (start < end && isBlank(charAt(start))) start++;
            behind = start;
            int first = charAt(start);
            if (start >= end) {
                kind = END;
            } else if (isLetter(first)) {
                kind = WORD;
                while (behind < end && isLetter(charAt(behind))) behind++;
            } else if (isDigit(first)) {
                readNumber();
            } else {
                kind = isSign(first) ? SIGN : STRANGE;
                behind++;
            }
        }

        private void readNumber() {
            value = 0;
            while (behind < end && isDigit(charAt(behind))) {
                // past 4 digits the value is never asked for
                if (behind - start < MOST_DIGITS) value = value * 10 + charAt(behind) - '0';
                behind++;
            }
            kind = behind - start <= MOST_DIGITS ? NUMBER : STRANGE;
        }

        boolean isWord(String word) {
            if (kind != WORD || behind - start != word.length()) return false;
            for (int i = 0; i < word.length(); i++) {
                if (charAt(start + i) != word.charAt(i)) return false;
            }
            return true;
        }

        boolean isMark(char sign) {
            return kind == SIGN && charAt(start) == sign;
        }

        /** Whether a NUMBER stands here that is from 0 on and below the given one. */
        boolean isNumberBelow(int most) {
            return kind == NUMBER && value < most;
        }

        int valueHere() {
            return value;
        }

        void refuse(int why) {
            if (fault != 0) return;
            fault = kind == STRANGE ? NO_TOKEN : why;
            faultPlace = start;
        }

        void takeClose() {
            if (isMark(';')) step();
            else refuse(OUT_OF_PLACE);
        }

        int takeNumber(int least, int most) {
            int number = value;
            if (kind != NUMBER) refuse(OUT_OF_PLACE);
            else if (number < least || number > most) refuse(WRONG_NUMBER);
            step();
            return fault == 0 ? number : least;
        }

        int takeColour() {
            int colour = isWord("blue") ? BLUE : isWord("red") ? RED : isWord("green") ? GREEN : NONE;
            if (colour == NONE) refuse(OUT_OF_PLACE);
            step();
            return colour;
        }

        int takeSide() {
            int side = isWord("left") ? LEFT : isWord("right") ? RIGHT : NONE;
            if (side == NONE) refuse(OUT_OF_PLACE);
            step();
            return side;
        }

        private int charAt(int place) {
            return place >= 0 && place < end && place < MOST_BYTES ? bytes[place] : NONE;
        }

        private static boolean isBlank(int c) {
            return c == 10 || c == 32;
        }

        private static boolean isLetter(int c) {
            return c >= 'a' && c <= 'z';
        }

        private static boolean isDigit(int c) {
            return c >= '0' && c <= '9';
        }

        private static boolean isSign(int c) {
            return c == ';' || c == '<' || c == '>' || c == '=';
        }
    }

    /** The HEDGE with all that became of it, but for the SEASONS. */
    private static final class Hedge {
        final int[] colour = new int[MOST_SPRIGS];
        final int[] on = new int[MOST_SPRIGS];
        final int[] heap = new int[MOST_HEAPS];
        private final int[] forLeft = new int[MOST_BETS];
        private final int[] forRight = new int[MOST_BETS];
        int sprigs = 0;
        int standing = 0;
        int heaps = 0;
        int bets = 0;
        int taken = 0;
        int score = 0;
        int cuts = 0;
        // what stands right on each sprig, together: made anew whenever the hedge is weighed
        private final long[] worthAbove = new long[MOST_SPRIGS];
        private final int[] nimAbove = new int[MOST_SPRIGS];

        static void copy(Hedge from, Hedge to) {
            if (from == null || to == null) return;
            for (int i = 0; i < MOST_SPRIGS; i++) {
                to.colour[i] = from.colour[i];
                to.on[i] = from.on[i];
            }
            for (int i = 0; i < MOST_HEAPS; i++) to.heap[i] = from.heap[i];
            for (int i = 0; i < MOST_BETS; i++) {
                to.forLeft[i] = from.forLeft[i];
                to.forRight[i] = from.forRight[i];
            }
            to.sprigs = from.sprigs;
            to.standing = from.standing;
            to.heaps = from.heaps;
            to.bets = from.bets;
            to.taken = from.taken;
            to.score = from.score;
            to.cuts = from.cuts;
        }

        void clear() {
            sprigs = 0;
            standing = 0;
            heaps = 0;
            bets = 0;
            taken = 0;
            score = 0;
            cuts = 0;
        }

        boolean hasSprig(int sprig) {
            return sprig >= 0 && sprig < sprigs && sprig < MOST_SPRIGS;
        }

        boolean hasHeap(int number) {
            return number >= 0 && number < heaps && number < MOST_HEAPS;
        }

        boolean hasBet(int bet) {
            return bet >= 0 && bet < bets && bet < MOST_BETS;
        }

        boolean isStanding(int sprig) {
            return hasSprig(sprig) && isIn(standing, sprig);
        }

        /** Whether a SPRIG stands that is BLUE or RED. */
        boolean hasWorth(int sprig) {
            return isStanding(sprig) && colour[sprig] != GREEN;
        }

        boolean mayCut(int side, int sprig) {
            return isStanding(sprig) && colour[sprig] != (side == LEFT ? RED : BLUE);
        }

        boolean mayTake(int bet) {
            return hasBet(bet) && !isIn(taken, bet);
        }

        boolean mayLessen(int number, int n) {
            return hasHeap(number) && n >= 0 && n < heap[number];
        }

        boolean maySpend(int side) {
            return side == LEFT ? score > 0 : score < 0;
        }

        boolean mayGrow(int newColour, int ground) {
            return sprigs < MOST_SPRIGS && (ground == NONE || isStanding(ground)) && fits(newColour, ground);
        }

        /** Whether a SPRIG of this COLOUR can be on that one, or on the ground. */
        boolean fits(int newColour, int ground) {
            if (ground == NONE) return true;
            return hasSprig(ground) && (newColour == GREEN) == (colour[ground] == GREEN);
        }

        static boolean canBeBet(int left, int right) {
            return left >= 0 && left <= MOST_OF_BET && right >= 0 && right <= MOST_OF_BET && left + right > 0;
        }

        void addSprig(int newColour, int ground) {
            if (sprigs >= MOST_SPRIGS) return;
            colour[sprigs] = newColour;
            on[sprigs] = ground;
            standing |= 1 << sprigs;
            sprigs++;
        }

        void addHeap(int n) {
            if (heaps >= MOST_HEAPS) return;
            heap[heaps] = n;
            heaps++;
        }

        void addBet(int left, int right) {
            if (bets >= MOST_BETS) return;
            forLeft[bets] = left;
            forRight[bets] = right;
            bets++;
        }

        /** How many FALL. */
        int shear(int sprig) {
            int falling = branchSet(sprig);
            standing &= ~falling;
            cuts++;
            return Integer.bitCount(falling);
        }

        void winBet(int side, int bet) {
            if (!mayTake(bet)) return;
            score += gain(bet, side);
            taken |= 1 << bet;
        }

        void lessen(int number, int n) {
            if (mayLessen(number, n)) heap[number] = n;
        }

        void spendOne(int side) {
            score += side == LEFT ? -1 : 1;
        }

        int betFor(int bet, int side) {
            if (!hasBet(bet)) return 0;
            return side == LEFT ? forLeft[bet] : forRight[bet];
        }

        /** By how much the SCORE is more, if a SIDE takes a BET. */
        int gain(int bet, int side) {
            if (!hasBet(bet)) return 0;
            return side == LEFT ? forLeft[bet] : -forRight[bet];
        }

        /** The HOTTEST BET but for a set of them. */
        int hottestBut(int set) {
            int hottest = NONE;
            int most = 0;
            for (int i = 0; i < bets && i < MOST_BETS; i++) {
                int together = forLeft[i] + forRight[i];
                if (!isIn(set, i) && together > most) {
                    hottest = i;
                    most = together;
                }
            }
            return hottest;
        }

        int rightOn(int sprig) {
            int set = 0;
            for (int i = 0; i < sprigs; i++) {
                if (isStanding(i) && on[i] == sprig) set |= 1 << i;
            }
            return set;
        }

        /** The set of a SPRIG that stands and of all that is on it, on that, and so on. */
        int branchSet(int sprig) {
            if (!hasSprig(sprig)) return 0;
            int set = standing & 1 << sprig;
            // one pass is enough, as each sprig is on one ahead of it
            for (int i = sprig + 1; i < sprigs && i < MOST_SPRIGS; i++) {
                if (on[i] != NONE && isIn(set, on[i])) set |= standing & 1 << i;
            }
            return set;
        }

        long branchWorth(int sprig) {
            if (!hasWorth(sprig)) return 0;
            worthWith(standing);
            return Numbers.branch(colour[sprig], worthAbove[sprig]);
        }

        int branchNim(int sprig) {
            if (!isStanding(sprig)) return 0;
            nimWith(standing);
            return nimAbove[sprig] + 1;
        }

        /** WORTH of the HEDGE, if just these SPRIGS stand. */
        long worthWith(int set) {
            long sum = score * ONE;
            for (int i = 0; i < MOST_SPRIGS; i++) worthAbove[i] = 0;
            for (int i = sprigs - 1; i >= 0; i--) {
                if (!isIn(set, i) || !hasSprig(i) || colour[i] == GREEN) continue;
                long branch = Numbers.branch(colour[i], worthAbove[i]);
                if (hasSprig(on[i])) worthAbove[on[i]] += branch;
                else sum += branch;
            }
            return sum;
        }

        /** NIMBER of the HEDGE, if just these SPRIGS stand. */
        int nimWith(int set) {
            int sum = 0;
            for (int i = 0; i < MOST_HEAPS; i++) {
                if (hasHeap(i)) sum ^= heap[i];
            }
            for (int i = 0; i < MOST_SPRIGS; i++) nimAbove[i] = 0;
            for (int i = sprigs - 1; i >= 0; i--) {
                if (!isIn(set, i) || !hasSprig(i) || colour[i] != GREEN) continue;
                int branch = nimAbove[i] + 1;
                if (hasSprig(on[i])) nimAbove[on[i]] ^= branch;
                else sum ^= branch;
            }
            return sum;
        }
    }

    /** A HEDGE as a text. */
    private static final class HedgeText {
        static void parse(Tokens text, Hedge hedge) {
            hedge.clear();
            for (int part = 0; part < MOST_BYTES && text.goesOn(); part++) {
                if (text.isWord("sprig")) parseSprig(text, hedge);
                else if (text.isWord("heap")) parseHeap(text, hedge);
                else if (text.isWord("bet")) parseBet(text, hedge);
                else text.refuse(OUT_OF_PLACE);
            }
        }

        private static void parseSprig(Tokens text, Hedge hedge) {
            if (hedge.sprigs >= MOST_SPRIGS) text.refuse(TOO_MANY);
            text.step();
            int colour = text.takeColour();
            int ground = NONE;
            if (text.isWord("on")) {
                text.step();
                ground = takeGround(text, hedge, colour);
            }
            text.takeClose();
            if (text.fault == 0) hedge.addSprig(colour, ground);
        }

        private static int takeGround(Tokens text, Hedge hedge, int colour) {
            if (text.isNumberBelow(hedge.sprigs) && !hedge.fits(colour, text.valueHere())) text.refuse(WRONG_COLOUR);
            return text.takeNumber(0, hedge.sprigs - 1);
        }

        private static void parseHeap(Tokens text, Hedge hedge) {
            if (hedge.heaps >= MOST_HEAPS) text.refuse(TOO_MANY);
            text.step();
            int n = text.takeNumber(0, MOST_IN_HEAP);
            text.takeClose();
            if (text.fault == 0) hedge.addHeap(n);
        }

        private static void parseBet(Tokens text, Hedge hedge) {
            if (hedge.bets >= MOST_BETS) text.refuse(TOO_MANY);
            text.step();
            int left = text.takeNumber(0, MOST_OF_BET);
            int right = text.takeNumber(left == 0 ? 1 : 0, MOST_OF_BET);
            text.takeClose();
            if (text.fault == 0) hedge.addBet(left, right);
        }
    }

    /** SEASONS, step by step; an end stands in the row as well, and knows where its when or loop begins. */
    private static final class Seasons {
        static final int MOST_STEPS = 30;
        static final int MOST_ENTRIES = 2 * MOST_STEPS;
        static final int MOST_OPEN = 3;

        static final int CUT = 0;
        static final int TAKE = 1;
        static final int LESS = 2;
        static final int GROW = 3;
        static final int ANY = 4;
        static final int WHEN = 5;
        static final int LOOP = 6;
        static final int STOP = 7;
        static final int END = 8;

        static final int STANDS = 0;
        static final int WORTH = 1;
        static final int NIMBER = 2;
        static final int WINS = 3;

        static final int SMALLER = 0;
        static final int GREATER = 1;
        static final int EQUAL = 2;

        boolean given = false;
        int steps = 0;
        int entries = 0;
        final int[] kind = new int[MOST_ENTRIES];
        final int[] first = new int[MOST_ENTRIES];
        final int[] second = new int[MOST_ENTRIES];
        final int[] third = new int[MOST_ENTRIES];
        // of a when or loop its end, of an end its when or loop
        final int[] mate = new int[MOST_ENTRIES];
        int open = 0;
        private final int[] opened = new int[MOST_OPEN];

        static void copy(Seasons from, Seasons to) {
            if (from == null || to == null) return;
            to.given = from.given;
            to.steps = from.steps;
            to.entries = from.entries;
            for (int i = 0; i < MOST_ENTRIES; i++) {
                to.kind[i] = from.kind[i];
                to.first[i] = from.first[i];
                to.second[i] = from.second[i];
                to.third[i] = from.third[i];
                to.mate[i] = from.mate[i];
            }
        }

        void forget() {
            given = false;
        }

        void begin() {
            given = true;
            steps = 0;
            entries = 0;
            open = 0;
        }

        boolean hasEntry(int entry) {
            return entry >= 0 && entry < entries && entry < MOST_ENTRIES;
        }

        static boolean isBlock(int kind) {
            return kind == WHEN || kind == LOOP;
        }

        void add(int newKind, int a, int b, int c) {
            if (steps >= MOST_STEPS || entries >= MOST_ENTRIES) return;
            kind[entries] = newKind;
            first[entries] = a;
            second[entries] = b;
            third[entries] = c;
            mate[entries] = NONE;
            if (isBlock(newKind) && open < MOST_OPEN) {
                opened[open] = entries;
                open++;
            }
            entries++;
            steps++;
        }

        void close() {
            if (open <= 0 || open > MOST_OPEN || entries >= MOST_ENTRIES) return;
            open--;
            int beginning = opened[open];
            kind[entries] = END;
            mate[entries] = beginning;
            if (hasEntry(beginning)) mate[beginning] = entries;
            entries++;
        }
    }

    /** SEASONS as a text. */
    private static final class SeasonsText {
        private static final int MOST_ROUNDS = 99;
        private static final int MOST_NIMBER = 31;

        static void parse(Tokens text, Seasons seasons) {
            seasons.begin();
            for (int part = 0; part < MOST_SEASONS_BYTES && text.goesOn(); part++) {
                if (text.isWord("end")) parseEnd(text, seasons);
                else parseStep(text, seasons);
            }
            if (seasons.open > 0) text.refuse(OUT_OF_PLACE);
        }

        private static void parseEnd(Tokens text, Seasons seasons) {
            if (seasons.open == 0) text.refuse(OUT_OF_PLACE);
            text.step();
            text.takeClose();
            if (text.fault == 0) seasons.close();
        }

        private static void parseStep(Tokens text, Seasons seasons) {
            int kind = kindHere(text);
            if (kind == NONE) text.refuse(OUT_OF_PLACE);
            if (seasons.steps >= Seasons.MOST_STEPS) text.refuse(TOO_MANY);
            if (Seasons.isBlock(kind) && seasons.open >= Seasons.MOST_OPEN) text.refuse(TOO_DEEP);
            text.step();
            switch (kind) {
                case Seasons.CUT: parseDeed(text, seasons, kind, MOST_SPRIGS); break;
                case Seasons.TAKE: parseDeed(text, seasons, kind, MOST_BETS); break;
                case Seasons.LESS: parseLess(text, seasons); break;
                case Seasons.GROW: parseGrow(text, seasons); break;
                case Seasons.WHEN: parseWhen(text, seasons); break;
                case Seasons.LOOP: seasons.add(kind, text.takeNumber(1, MOST_ROUNDS), 0, 0); break;
                default: seasons.add(kind, 0, 0, 0);
            }
            text.takeClose();
        }

        private static int kindHere(Tokens text) {
            if (text.isWord("cut")) return Seasons.CUT;
            if (text.isWord("take")) return Seasons.TAKE;
            if (text.isWord("less")) return Seasons.LESS;
            if (text.isWord("grow")) return Seasons.GROW;
            if (text.isWord("any")) return Seasons.ANY;
            if (text.isWord("when")) return Seasons.WHEN;
            if (text.isWord("loop")) return Seasons.LOOP;
            return text.isWord("stop") ? Seasons.STOP : NONE;
        }

        /** What a SIDE does with one of so many. */
        private static void parseDeed(Tokens text, Seasons seasons, int kind, int numbers) {
            int side = text.takeSide();
            seasons.add(kind, side, text.takeNumber(0, numbers - 1), 0);
        }

        private static void parseLess(Tokens text, Seasons seasons) {
            int heap = text.takeNumber(0, MOST_HEAPS - 1);
            seasons.add(Seasons.LESS, heap, text.takeNumber(0, MOST_IN_HEAP), 0);
        }

        private static void parseGrow(Tokens text, Seasons seasons) {
            int colour = text.takeColour();
            int ground = NONE;
            if (text.isWord("on")) {
                text.step();
                ground = text.takeNumber(0, MOST_SPRIGS - 1);
            }
            seasons.add(Seasons.GROW, colour, ground, 0);
        }

        private static void parseWhen(Tokens text, Seasons seasons) {
            int test = testHere(text);
            if (test == NONE) text.refuse(OUT_OF_PLACE);
            text.step();
            int comparison = test == Seasons.WORTH || test == Seasons.NIMBER ? takeComparison(text) : NONE;
            int number = 0;
            switch (test) {
                case Seasons.STANDS: number = text.takeNumber(0, MOST_SPRIGS - 1); break;
                case Seasons.WORTH: number = text.takeNumber(0, MOST_WORTH); break;
                case Seasons.NIMBER: number = text.takeNumber(0, MOST_NIMBER); break;
                default: number = text.takeSide();
            }
            seasons.add(Seasons.WHEN, test, number, comparison);
        }

        private static int testHere(Tokens text) {
            if (text.isWord("stands")) return Seasons.STANDS;
            if (text.isWord("worth")) return Seasons.WORTH;
            if (text.isWord("nimber")) return Seasons.NIMBER;
            return text.isWord("wins") ? Seasons.WINS : NONE;
        }

        private static int takeComparison(Tokens text) {
            int sign = text.isMark('<') ? Seasons.SMALLER
                    : text.isMark('>') ? Seasons.GREATER
                    : text.isMark('=') ? Seasons.EQUAL : NONE;
            if (sign == NONE) text.refuse(OUT_OF_PLACE);
            text.step();
            return sign;
        }
    }

    /** What a HEDGE becomes by its SEASONS and a seed. */
    private static final class Life {
        private static final int MOST_STEPS = 300;
        // each of the 300 steps is a loop at the most, and its end is come to 99 times
        private static final int MOST_TURNS = 300 * 100;

        int steps = 0;
        int missed = 0;
        int cuts = 0;
        int fallen = 0;
        int grown = 0;
        boolean unfinished = false;
        private int draws = 0;
        // of each loop how often it is still to be done
        private final int[] rounds = new int[Seasons.MOST_ENTRIES];

        void run(Hedge hedge, Seasons seasons, int seed) {
            steps = 0;
            missed = 0;
            cuts = 0;
            fallen = 0;
            grown = 0;
            unfinished = false;
            draws = seed;
            int at = 0;
            for (int turn = 0; turn <= MOST_TURNS && seasons.hasEntry(at); turn++) {
                if (seasons.kind[at] == Seasons.END) {
                    at = behindEnd(seasons, at);
                } else if (steps == MOST_STEPS) {
                    unfinished = true;
                    return;
                } else {
                    steps++;
                    at = doStep(hedge, seasons, at);
                }
            }
        }

        private int behindEnd(Seasons seasons, int at) {
            int beginning = seasons.mate[at];
            if (!seasons.hasEntry(beginning) || seasons.kind[beginning] != Seasons.LOOP) return at + 1;
            rounds[beginning]--;
            return rounds[beginning] > 0 ? beginning + 1 : at + 1;
        }

        /** The entry that comes next. */
        private int doStep(Hedge hedge, Seasons seasons, int at) {
            int a = seasons.first[at];
            int b = seasons.second[at];
            switch (seasons.kind[at]) {
                case Seasons.CUT: cutOff(hedge, a, b); break;
                case Seasons.TAKE: takeBet(hedge, a, b); break;
                case Seasons.LESS: lessenHeap(hedge, a, b); break;
                case Seasons.GROW: growOne(hedge, a, b); break;
                case Seasons.ANY: cutAny(hedge); break;
                case Seasons.WHEN: return holds(hedge, a, b, seasons.third[at]) ? at + 1 : seasons.mate[at] + 1;
                case Seasons.LOOP: rounds[at] = a; break;
                default: return seasons.entries;
            }
            return at + 1;
        }

        private void cutOff(Hedge hedge, int side, int sprig) {
            if (hedge.mayCut(side, sprig)) {
                cuts++;
                fallen += hedge.shear(sprig);
            } else {
                missed++;
            }
        }

        private void takeBet(Hedge hedge, int side, int bet) {
            if (hedge.mayTake(bet)) hedge.winBet(side, bet);
            else missed++;
        }

        private void lessenHeap(Hedge hedge, int heap, int n) {
            if (hedge.mayLessen(heap, n)) hedge.lessen(heap, n);
            else missed++;
        }

        private void growOne(Hedge hedge, int colour, int ground) {
            if (hedge.mayGrow(colour, ground)) {
                hedge.addSprig(colour, ground);
                grown++;
            } else {
                missed++;
            }
        }

        private void cutAny(Hedge hedge) {
            if (hedge.sprigs > 0) {
                int side = draw(2);
                cutOff(hedge, side, draw(hedge.sprigs));
            } else {
                missed++;
            }
        }

        private int draw(int n) {
            draws = (draws * 2971 + 10987) & 65535;
            return n > 0 ? (draws >> 3) % n : 0;
        }

        private static boolean holds(Hedge hedge, int test, int b, int sign) {
            switch (test) {
                case Seasons.STANDS: return hedge.isStanding(b);
                case Seasons.WORTH: return compares(Long.compare(hedge.worthWith(hedge.standing), b * ONE), sign);
                case Seasons.NIMBER: return compares(Integer.compare(hedge.nimWith(hedge.standing), b), sign);
                default: return Play.winsBeginning(hedge, b);
            }
        }

        private static boolean compares(int difference, int sign) {
            if (sign == Seasons.SMALLER) return difference < 0;
            return sign == Seasons.GREATER ? difference > 0 : difference == 0;
        }
    }

    /** Who wins, and by which MOVES. */
    private static final class Play {
        private static final int CUTTING = 0;
        private static final int TAKING = 1;
        private static final int LESSENING = 2;
        private static final int SPENDING = 3;

        int found = 0;
        int winning = 0;
        int firstKind = NONE;
        int firstPlace = NONE;
        int firstLeft = NONE;

        static boolean winsBeginning(Hedge hedge, int side) {
            long worth = hedge.worthWith(hedge.standing);
            int nim = hedge.nimWith(hedge.standing);
            return decides(settled(hedge, worth, hedge.taken, side), nim, isOdd(hedge, hedge.taken), side);
        }

        /**
         * The WORTH when all BETS are TAKEN, the HOTTEST first.
         * Whatever a SIDE does while there is a BET, it does as well or better to take the HOTTEST:
         * so this WORTH tells who wins, too.
         */
        static long settled(Hedge hedge, long worth, int taken, int begins) {
            long sum = worth;
            int gone = taken;
            int side = begins;
            for (int turn = 0; turn < MOST_BETS; turn++) {
                int bet = hedge.hottestBut(gone);
                if (bet == NONE) break;
                sum += hedge.gain(bet, side) * ONE;
                gone |= 1 << bet;
                side = other(side);
            }
            return sum;
        }

        /** Whether the BETS left are as many that, taken by turns, the other SIDE moves next. */
        private static boolean isOdd(Hedge hedge, int taken) {
            return (hedge.bets - Integer.bitCount(taken) & 1) != 0;
        }

        /** Whether who begins wins, by what is there when the BETS are TAKEN. */
        private static boolean decides(long worth, int nim, boolean otherNext, int begins) {
            if (worth != 0) return worth > 0 == (begins == LEFT);
            return nim != 0 != otherNext;
        }

        /** Tries all MOVES of a SIDE. */
        void look(Hedge hedge, int side) {
            found = 0;
            winning = 0;
            long worth = hedge.worthWith(hedge.standing);
            int nim = hedge.nimWith(hedge.standing);
            lookAtCuts(hedge, side);
            lookAtBets(hedge, side, worth, nim);
            lookAtHeaps(hedge, side, worth, nim);
            if (hedge.maySpend(side)) {
                long rest = worth + (side == LEFT ? -ONE : ONE);
                note(SPENDING, 0, 0, wonBy(hedge, rest, nim, hedge.taken, side));
            }
        }

        /** Whether a SIDE that has just moved wins. */
        private static boolean wonBy(Hedge hedge, long worth, int nim, int taken, int side) {
            int next = other(side);
            return !decides(settled(hedge, worth, taken, next), nim, isOdd(hedge, taken), next);
        }

        private void lookAtCuts(Hedge hedge, int side) {
            for (int i = 0; i < hedge.sprigs; i++) {
                if (!hedge.mayCut(side, i)) continue;
                int rest = hedge.standing & ~hedge.branchSet(i);
                note(CUTTING, i, 0, wonBy(hedge, hedge.worthWith(rest), hedge.nimWith(rest), hedge.taken, side));
            }
        }

        private void lookAtBets(Hedge hedge, int side, long worth, int nim) {
            for (int i = 0; i < hedge.bets; i++) {
                if (!hedge.mayTake(i)) continue;
                long rest = worth + hedge.gain(i, side) * ONE;
                note(TAKING, i, 0, wonBy(hedge, rest, nim, hedge.taken | 1 << i, side));
            }
        }

        private void lookAtHeaps(Hedge hedge, int side, long worth, int nim) {
            for (int i = 0; i < MOST_HEAPS; i++) {
                if (!hedge.hasHeap(i)) continue;
                int others = nim ^ hedge.heap[i];
                for (int n = 0; n < hedge.heap[i]; n++) {
                    note(LESSENING, i, n, wonBy(hedge, worth, others ^ n, hedge.taken, side));
                }
            }
        }

        private void note(int kind, int place, int left, boolean wins) {
            found++;
            if (!wins) return;
            if (winning == 0) {
                firstKind = kind;
                firstPlace = place;
                firstLeft = left;
            }
            winning++;
        }
    }

    /** Numbers, each as so many 2^-30. */
    private static final class Numbers {
        private static final int MOST_DIVISIONS = 100;

        /** Whether p by 2 to the k is a number that may be given. */
        static boolean canBe(int p, int k) {
            if (p < -MOST_TOP || p > MOST_TOP || k < 0 || k > MOST_HALVINGS) return false;
            long number = of(p, k);
            return number >= -MOST_WORTH * ONE && number <= MOST_WORTH * ONE;
        }

        static long of(int p, int k) {
            return (long) p << (FINE - k);
        }

        /** WORTH of a BLUE or RED SPRIG with branches on it that are worth so much together. */
        static long branch(int colour, long above) {
            long x = colour == BLUE ? above : -above;
            int n = x > 0 ? 1 : (int) ((ONE - x) >> FINE) + 1;
            long asBlue = (x + n * ONE) >> (n - 1);
            return colour == BLUE ? asBlue : -asBlue;
        }

        /** The SIMPLEST number between two. */
        static long between(long low, long high) {
            if (low < 0 && high > 0) return 0;
            return low < 0 ? -nextAbove(-high, -low) : nextAbove(low, high);
        }

        /** The same, if neither is below 0: the first in ever finer steps. */
        private static long nextAbove(long low, long high) {
            long number = high;
            for (int k = 0; k <= FINE && number >= high; k++) {
                int step = FINE - k;
                number = ((low >> step) + 1) << step;
            }
            return number;
        }

        private static boolean isWhole(long number) {
            return (number & (ONE - 1)) == 0;
        }

        /** BIRTHDAY. */
        static int age(long number) {
            int whole = (int) (Math.abs(number) >> FINE);
            if (isWhole(number)) return whole;
            return whole + FINE - Long.numberOfTrailingZeros(number) + 1;
        }

        /** The COLOUR of the i-th SPRIG of a STALK, which has as many as its BIRTHDAY tells. */
        static int stalkColour(long number, int i) {
            if (i < 0 || i >= age(number)) return NONE;
            int same = number < 0 ? RED : BLUE;
            int unlike = number < 0 ? BLUE : RED;
            long size = Math.abs(number);
            int whole = (int) (size >> FINE);
            if (isWhole(size) || i <= whole) return same;
            if (i == whole + 1) return unlike;
            long part = ONE >> 1;
            long sofar = whole * ONE + part;
            for (int at = whole + 2; at < i; at++) {
                part >>= 1;
                sofar += sofar < size ? part : -part;
            }
            return sofar < size ? same : unlike;
        }

        /** Of two numbers from 0 on. */
        static long commonDivisor(long a, long b) {
            long divisor = a;
            long rest = b;
            for (int turn = 0; turn < MOST_DIVISIONS && rest > 0; turn++) {
                long next = divisor % rest;
                divisor = rest;
                rest = next;
            }
            return divisor;
        }
    }

    /** COLOURINGS of a set by a number. */
    private static final class Ways {
        private static final int MOST_OF_SET = 10;

        int found = 0;
        int firstRedSet = 0;
        // of each sprig, in how many ways it is blue
        final int[] blue = new int[MOST_SPRIGS];

        static boolean canBe(Hedge hedge, int set) {
            if (set < 0 || set >= 1 << MOST_SPRIGS || Integer.bitCount(set) > MOST_OF_SET) return false;
            for (int i = 0; i < MOST_SPRIGS; i++) {
                if (isIn(set, i) && !hedge.hasWorth(i)) return false;
            }
            return true;
        }

        /** The hedge's colours are changed by this. */
        void find(Hedge hedge, int set, long number) {
            found = 0;
            firstRedSet = 0;
            for (int i = 0; i < MOST_SPRIGS; i++) blue[i] = 0;
            int reds = 0;
            for (int way = 0; way < 1 << MOST_OF_SET; way++) {
                colourAll(hedge, set, reds);
                if (hedge.worthWith(hedge.standing) == number) count(set, reds);
                // the next greater set out of this one
                reds = (reds - set) & set;
                if (reds == 0) break;
            }
        }

        private static void colourAll(Hedge hedge, int set, int reds) {
            for (int i = 0; i < MOST_SPRIGS; i++) {
                if (isIn(set, i)) hedge.colour[i] = isIn(reds, i) ? RED : BLUE;
            }
        }

        private void count(int set, int reds) {
            if (found == 0) firstRedSet = reds;
            found++;
            for (int i = 0; i < MOST_SPRIGS; i++) {
                if (isIn(set & ~reds, i)) blue[i]++;
            }
        }

        /** The SPRIG of the set by which the ways are parted the best. */
        int bestParting(int set) {
            int best = NONE;
            int least = found + 1;
            for (int i = 0; i < MOST_SPRIGS; i++) {
                int greater = Math.max(blue[i], found - blue[i]);
                if (isIn(set, i) && greater < least) {
                    best = i;
                    least = greater;
                }
            }
            return best;
        }
    }

    /** What comes of cuts: BALANCE and LUCK. */
    private static final class Shears {
        private static final int MOST_OFF = 3;
        private static final int MOST_SETS = 1140;
        private static final int MOST_BY_LUCK = 6;
        // 60 to the 6th: each draw among 1 to 6 divides the odds by a divisor of 60
        static final long SURE = 46656000000L;

        private final int[] branches = new int[MOST_SPRIGS];
        private final int[] members = new int[MOST_BY_LUCK];
        private final int[] falling = new int[MOST_BY_LUCK];
        private final long[][] odds = new long[2][1 << MOST_BY_LUCK];

        /** The set of BALANCE. */
        int balancing(Hedge hedge) {
            for (int i = 0; i < MOST_SPRIGS; i++) branches[i] = hedge.branchSet(i);
            int set = NONE;
            for (int size = 0; size <= MOST_OFF && set == NONE; size++) set = leastOf(hedge, size);
            return set;
        }

        private int leastOf(Hedge hedge, int size) {
            int set = (1 << size) - 1;
            for (int turn = 0; turn < MOST_SETS && set < 1 << hedge.sprigs; turn++) {
                if ((set & ~hedge.standing) == 0 && balances(hedge, set)) return set;
                set = nextOfSize(set);
            }
            return NONE;
        }

        /** The next greater set of as many. */
        private static int nextOfSize(int set) {
            if (set == 0) return 1 << MOST_SPRIGS;
            int lowest = set & -set;
            int raised = set + lowest;
            return raised | (set ^ raised) >> Integer.numberOfTrailingZeros(lowest) + 2;
        }

        private boolean balances(Hedge hedge, int set) {
            int rest = hedge.standing;
            for (int i = 0; i < MOST_SPRIGS; i++) {
                if (isIn(set, i)) rest &= ~branches[i];
            }
            return hedge.worthWith(rest) == 0 && hedge.nimWith(rest) == 0;
        }

        static boolean leavesToLuck(Hedge hedge) {
            if (Integer.bitCount(hedge.standing) > MOST_BY_LUCK || hedge.score != 0) return false;
            if (hedge.hottestBut(hedge.taken) != NONE) return false;
            for (int i = 0; i < MOST_HEAPS; i++) {
                if (hedge.hasHeap(i) && hedge.heap[i] > 0) return false;
            }
            return true;
        }

        /** How much of SURE, if a SIDE begins; each set of sprigs comes behind those that a cut leaves of it. */
        long oddsOfLeft(Hedge hedge, int begins) {
            int many = gather(hedge);
            int all = (1 << many) - 1;
            for (int set = 0; set <= all; set++) {
                odds[LEFT][set] = oddsOf(hedge, set, LEFT);
                odds[RIGHT][set] = oddsOf(hedge, set, RIGHT);
            }
            return odds[begins == LEFT ? LEFT : RIGHT][all];
        }

        /** Numbers the SPRIGS that stand anew, from 0 on: how many. */
        private int gather(Hedge hedge) {
            int many = 0;
            for (int i = 0; i < MOST_SPRIGS && many < MOST_BY_LUCK; i++) {
                if (!hedge.isStanding(i)) continue;
                members[many] = i;
                many++;
            }
            for (int i = 0; i < many; i++) {
                int branch = hedge.branchSet(members[i]);
                falling[i] = 0;
                for (int j = 0; j < many; j++) {
                    if (isIn(branch, members[j])) falling[i] |= 1 << j;
                }
            }
            return many;
        }

        private long oddsOf(Hedge hedge, int set, int side) {
            long sum = 0;
            int cuts = 0;
            for (int i = 0; i < MOST_BY_LUCK; i++) {
                if (!isIn(set, i) || !hedge.mayCut(side, members[i])) continue;
                sum += odds[other(side)][set & ~falling[i]];
                cuts++;
            }
            if (cuts > 0) return sum / cuts;
            return side == LEFT ? 0 : SURE;
        }
    }
}
