/** Promises 39 to 42: numbers, their BIRTHDAYS and STALKS. */
public final class NumbersTest {
    private static final int TOP = 20971520;

    public static void main(String[] args) {
        simplest();
        simplestOfMany();
        birthdays();
        stalks();
        stalkWorths();
        stalksAreWorthTheirNumber();
        Check.end("NumbersTest");
    }

    private static void simplest(int p, int k, int q, int m, long top, long bottom) {
        ShearHedge x = new ShearHedge();
        Check.tells(x, "simplest " + p + " " + k + " " + q + " " + m, x.simplest(p, k, q, m), top, bottom);
        Check.tells(x, "simplest, turned", x.simplest(-q, m, -p, k), -top, bottom);
    }

    private static void simplest() {
        simplest(0, 0, 1, 0, 1, 2);
        simplest(-1, 0, 1, 0, 0, 1);
        simplest(-1, 20, 1, 20, 0, 1);
        simplest(0, 0, 2, 0, 1, 1);
        simplest(0, 0, 20, 0, 1, 1);
        simplest(1, 1, 20, 0, 1, 1);
        simplest(7, 1, 20, 0, 4, 1);
        simplest(3, 0, 7, 1, 13, 4);
        simplest(3, 0, 4, 0, 7, 2);
        simplest(1, 2, 3, 2, 1, 2);
        simplest(1, 2, 1, 1, 3, 8);
        simplest(5, 3, 3, 2, 11, 16);
        simplest(2, 2, 6, 3, 5, 8);
        simplest(0, 0, 1, 20, 1, 1 << 21);
        simplest(TOP - 1, 20, TOP, 20, 2L * TOP - 1, 1 << 21);
        simplest(19, 0, 20, 0, 39, 2);
        simplest(18, 0, 20, 0, 19, 1);
        ShearHedge x = new ShearHedge();
        Check.refused(x, "not less: the same", x.simplest(1, 0, 1, 0), 9);
        Check.refused(x, "not less: the same otherwise", x.simplest(2, 1, 1, 0), 9);
        Check.refused(x, "not less: more", x.simplest(3, 1, 1, 0), 9);
        Check.refused(x, "above 20", x.simplest(0, 0, 21, 0), 5);
        Check.refused(x, "below -20", x.simplest(-41, 1, 0, 0), 5);
        Check.refused(x, "p", x.simplest(-TOP - 1, 20, 0, 0), 5);
        Check.refused(x, "q", x.simplest(0, 0, TOP + 1, 20), 5);
        Check.refused(x, "k", x.simplest(0, -1, 1, 0), 5);
        Check.refused(x, "k", x.simplest(0, 21, 1, 0), 5);
        Check.refused(x, "m", x.simplest(0, 0, 1, -1), 5);
        Check.refused(x, "m", x.simplest(0, 0, 1, 21), 5);
        Check.refused(x, "m and not less", x.simplest(1, 0, 0, 21), 5);
    }

    /** Between all eighths from -4 to 4, against a search by BIRTHDAY. */
    private static void simplestOfMany() {
        ShearHedge x = new ShearHedge();
        for (int low = -32; low < 32; low++) {
            for (int high = low + 1; high <= 32; high++) {
                int best = 0;
                int youngest = Integer.MAX_VALUE;
                // sixteenths: one at least lies between
                for (int p = 2 * low + 1; p < 2 * high; p++) {
                    int age = age(p, 4);
                    if (age < youngest) {
                        youngest = age;
                        best = p;
                    }
                }
                Check.due("simplest", x.simplest(low, 3, high, 3), true);
                Check.due("simplest " + low + " " + high, 16 * x.top(), best * x.bottom());
            }
        }
    }

    private static int age(int p, int k) {
        int size = Math.abs(p);
        int part = k;
        while (part > 0 && size % 2 == 0) {
            size /= 2;
            part--;
        }
        return part == 0 ? size : (size >> part) + part + 1;
    }

    private static void birthdays() {
        ShearHedge x = new ShearHedge();
        Check.taken(x, "birthday(0, 0)", x.birthday(0, 0), 0);
        Check.taken(x, "birthday(0, 20)", x.birthday(0, 20), 0);
        Check.taken(x, "birthday(-20, 0)", x.birthday(-20, 0), 20);
        Check.taken(x, "birthday(TOP, 20)", x.birthday(TOP, 20), 20);
        Check.taken(x, "birthday(-TOP, 20)", x.birthday(-TOP, 20), 20);
        Check.taken(x, "birthday(1, 1)", x.birthday(1, 1), 2);
        Check.taken(x, "birthday(3, 2)", x.birthday(3, 2), 3);
        Check.taken(x, "birthday(-5, 2)", x.birthday(-5, 2), 4);
        Check.taken(x, "birthday(6, 2)", x.birthday(6, 2), 3);
        Check.taken(x, "birthday(TOP - 1, 20)", x.birthday(TOP - 1, 20), 40);
        Check.taken(x, "birthday(1, 20)", x.birthday(1, 20), 21);
        for (int k = 0; k <= 20; k++) {
            for (int p = -300; p <= 300; p += 7) {
                if (Math.abs(p) <= 20L << k) Check.taken(x, "birthday", x.birthday(p, k), age(p, k));
                else Check.refused(x, "birthday", x.birthday(p, k), 5);
            }
        }
        Check.refused(x, "birthday(21, 0)", x.birthday(21, 0), 5);
        Check.refused(x, "birthday(-21, 0)", x.birthday(-21, 0), 5);
        Check.refused(x, "birthday(TOP + 1, 20)", x.birthday(TOP + 1, 20), 5);
        Check.refused(x, "birthday(-TOP - 1, 20)", x.birthday(-TOP - 1, 20), 5);
        Check.refused(x, "birthday(TOP, 19)", x.birthday(TOP, 19), 5);
        Check.refused(x, "birthday(max, 20)", x.birthday(Integer.MAX_VALUE, 20), 5);
        Check.refused(x, "birthday(min, 20)", x.birthday(Integer.MIN_VALUE, 20), 5);
        Check.refused(x, "birthday(1, -1)", x.birthday(1, -1), 5);
        Check.refused(x, "birthday(1, 21)", x.birthday(1, 21), 5);
        Check.refused(x, "birthday(0, 21)", x.birthday(0, 21), 5);
    }

    private static void stalk(int p, int k, String colours) {
        ShearHedge x = new ShearHedge();
        for (int i = 0; i < colours.length(); i++) {
            Check.taken(x, "stalkAt " + p + " " + k + " " + i, x.stalkAt(p, k, i), colours.charAt(i) == 'B' ? 0 : 1);
        }
        Check.refused(x, "stalkAt behind", x.stalkAt(p, k, colours.length()), 8);
        Check.refused(x, "stalkAt(-1)", x.stalkAt(p, k, -1), 8);
        Check.refused(x, "stalkAt(max)", x.stalkAt(p, k, Integer.MAX_VALUE), 8);
        Check.refused(x, "stalkAt(min)", x.stalkAt(p, k, Integer.MIN_VALUE), 8);
    }

    private static void stalks() {
        stalk(0, 0, "");
        stalk(3, 0, "BBB");
        stalk(-2, 0, "RR");
        stalk(40, 1, "BBBBBBBBBBBBBBBBBBBB");
        stalk(1, 1, "BR");
        stalk(-1, 1, "RB");
        stalk(1, 2, "BRR");
        stalk(3, 2, "BRB");
        stalk(5, 3, "BRBR");
        stalk(-5, 3, "RBRB");
        stalk(5, 2, "BBRR");
        stalk(7, 2, "BBRB");
        stalk(-11, 2, "RRRBR");
        stalk(1, 20, "BRRRRRRRRRRRRRRRRRRRR");
        stalk(TOP - 1, 20, "BBBBBBBBBBBBBBBBBBBBRBBBBBBBBBBBBBBBBBBB");
        ShearHedge x = new ShearHedge();
        Check.refused(x, "stalkAt of 21", x.stalkAt(21, 0, 0), 5);
        Check.refused(x, "stalkAt of -21", x.stalkAt(-21, 0, 99), 5);
        Check.refused(x, "stalkAt by -1", x.stalkAt(1, -1, 0), 5);
        Check.refused(x, "stalkAt by 21", x.stalkAt(1, 21, 0), 5);
    }

    private static void stalkWorths() {
        ShearHedge x = new ShearHedge();
        Check.refused(x, "stalkWorth(-1, 0)", x.stalkWorth(-1, 0), 1);
        Check.refused(x, "stalkWorth(4, 0)", x.stalkWorth(4, 0), 1);
        Check.refused(x, "stalkWorth(0, 0)", x.stalkWorth(0, 0), 3);
        Check.refused(x, "stalkWorth(0, -1)", x.stalkWorth(0, -1), 3);
        x.tray(0, 0, 10);
        x.tray(1, 3, 30);
        Check.refused(x, "stalkWorth(0, 11)", x.stalkWorth(0, 11), 4);
        Check.refused(x, "stalkWorth(0, 21)", x.stalkWorth(0, 21), 4);
        Check.refused(x, "stalkWorth(0, -1)", x.stalkWorth(0, -1), 5);
        Check.refused(x, "stalkWorth(0, min)", x.stalkWorth(0, Integer.MIN_VALUE), 5);
        Check.refused(x, "stalkWorth(1, 21)", x.stalkWorth(1, 21), 5);
        Check.refused(x, "stalkWorth(1, 31)", x.stalkWorth(1, 31), 4);
        Check.tells(x, "stalkWorth(0, 10)", x.stalkWorth(0, 10), 10, 1);
        Check.tells(x, "stalkWorth(1, 20)", x.stalkWorth(1, 20), 20, 1);
        Check.tells(x, "stalkWorth(1, 0)", x.stalkWorth(1, 0), 0, 1);
        x.write(1, 2, 1);
        x.write(1, 20, 2);
        Check.tells(x, "stalkWorth(1, 20)", x.stalkWorth(1, 20), 2 * (1 << 18) - 1, 1 << 18);
        Check.tells(x, "stalkWorth(1, 3)", x.stalkWorth(1, 3), 3, 2);
        x.write(1, 19, 2);
        Check.refused(x, "a 2 in it", x.stalkWorth(1, 20), 5);
        x.write(1, 19, -1);
        Check.refused(x, "a -1 in it", x.stalkWorth(1, 20), 5);
        x.write(1, 19, 1L << 32);
        Check.refused(x, "2 to the 32 in it", x.stalkWorth(1, 20), 5);
        Check.tells(x, "not among the first", x.stalkWorth(1, 19), 2 * (1 << 17) - 1, 1 << 17);
        x.write(1, 0, 2);
        Check.refused(x, "a 2 at first", x.stalkWorth(1, 20), 5);
        x.write(1, 0, 1);
        Check.tells(x, "stalkWorth(1, 1)", x.stalkWorth(1, 1), -1, 1);
        Check.tells(x, "stalkWorth(1, 2)", x.stalkWorth(1, 2), -1, 2);
        Check.tells(x, "stalkWorth(1, 3)", x.stalkWorth(1, 3), -3, 4);
    }

    private static void stalksAreWorthTheirNumber() {
        ShearHedge x = new ShearHedge();
        x.tray(0, 0, 40);
        for (int k = 0; k <= 10; k++) {
            for (int p = -(20 << k); p <= 20 << k; p += 1 + (k * k << k >> 4)) {
                int n = 0;
                for (int colour = x.stalkAt(p, k, 0); x.status() == 0 && n < 40; colour = x.stalkAt(p, k, n)) {
                    x.write(0, n, colour);
                    n++;
                }
                Check.due("as many as its BIRTHDAY", n, x.birthday(p, k));
                if (n > 20) continue;
                Check.due("stalkWorth", x.stalkWorth(0, n), true);
                Check.due("worth of the STALK of " + p + " " + k, x.top() << k, p * x.bottom());
            }
        }
    }
}
