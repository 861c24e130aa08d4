/** Promises 5 to 8: TRAYS. */
public final class TraysTest {
    public static void main(String[] args) {
        trays();
        places();
        sorts();
        pouring();
        pouringIsRefused();
        Check.end("TraysTest");
    }

    private static void trays() {
        ShearHedge x = new ShearHedge();
        Check.refused(x, "tray(-1, 0, 1)", x.tray(-1, 0, 1), 1);
        Check.refused(x, "tray(4, 0, 1)", x.tray(4, 0, 1), 1);
        Check.refused(x, "tray(0, -1, 1)", x.tray(0, -1, 1), 1);
        Check.refused(x, "tray(0, 4, 1)", x.tray(0, 4, 1), 1);
        Check.refused(x, "tray(0, 4, 61)", x.tray(0, 4, 61), 1);
        Check.refused(x, "tray(0, 0, 61)", x.tray(0, 0, 61), 5);
        Check.refused(x, "tray(0, 0, max)", x.tray(0, 0, Integer.MAX_VALUE), 5);
        Check.refused(x, "tray(0, 0, -1)", x.tray(0, 0, -1), 6);
        Check.refused(x, "tray(0, 0, min)", x.tray(0, 0, Integer.MIN_VALUE), 6);
        Check.refused(x, "read(0, 0): still MISSING", x.read(0, 0), 3);
        for (int t = 0; t < 4; t++) {
            Check.taken(x, "tray of 60", x.tray(t, t, 60));
            Check.taken(x, "read the first", x.read(t, 0), 0);
            Check.taken(x, "read the last", x.read(t, 59), 0);
            Check.refused(x, "read behind the last", x.read(t, 60), 4);
        }
        Check.taken(x, "write", x.write(1, 59, 77));
        Check.refused(x, "tray(1, 0, 61) keeps the row", x.tray(1, 0, 61), 5);
        Check.taken(x, "read(1, 59)", x.read(1, 59), 77);
        Check.taken(x, "a row anew is all 0", x.tray(1, 1, 60));
        Check.taken(x, "read(1, 59)", x.read(1, 59), 0);
        x.write(1, 0, 6);
        x.write(1, 2, 5);
        Check.taken(x, "a shorter row", x.tray(1, 1, 2));
        Check.refused(x, "read behind it", x.read(1, 2), 4);
        Check.taken(x, "a longer row", x.tray(1, 1, 3));
        Check.taken(x, "read(1, 0)", x.read(1, 0), 0);
        Check.taken(x, "read(1, 2)", x.read(1, 2), 0);
        Check.taken(x, "a row of nothing", x.tray(2, 0, 0));
        Check.refused(x, "read(2, 0)", x.read(2, 0), 4);
    }

    private static void places() {
        ShearHedge x = new ShearHedge();
        x.tray(0, 3, 5);
        Check.refused(x, "write(-1, 0, 1)", x.write(-1, 0, 1), 1);
        Check.refused(x, "write(4, 0, 1)", x.write(4, 0, 1), 1);
        Check.refused(x, "write(1, 0, 1)", x.write(1, 0, 1), 3);
        Check.refused(x, "write(1, 99, 1)", x.write(1, 99, 1), 3);
        Check.refused(x, "write(0, -1, 1)", x.write(0, -1, 1), 4);
        Check.refused(x, "write(0, 5, 1)", x.write(0, 5, 1), 4);
        Check.refused(x, "write(0, max, 1)", x.write(0, Integer.MAX_VALUE, 1), 4);
        Check.taken(x, "write(0, 4, -1)", x.write(0, 4, -1));
        Check.taken(x, "read(0, 4)", x.read(0, 4), -1);
        Check.refused(x, "read(-1, 0)", x.read(-1, 0), 1);
        Check.refused(x, "read(4, 0)", x.read(4, 0), 1);
        Check.refused(x, "read(1, 0)", x.read(1, 0), 3);
        Check.refused(x, "read(0, -1)", x.read(0, -1), 4);
        Check.refused(x, "read(0, min)", x.read(0, Integer.MIN_VALUE), 4);
        Check.refused(x, "read(0, 5)", x.read(0, 5), 4);
    }

    private static void sorts() {
        ShearHedge x = new ShearHedge();
        long[] written = {127, 128, -128, -129, 255, 256, 32767, 32768, -32769, 65536, 2147483647L, 2147483648L,
            -2147483649L, 4294967296L, Long.MAX_VALUE, Long.MIN_VALUE, -1, 0};
        for (int sort = 0; sort <= 3; sort++) {
            x.tray(sort, sort, written.length);
            for (int i = 0; i < written.length; i++) {
                long v = written[i];
                long cut = sort == 0 ? (byte) v : sort == 1 ? (short) v : sort == 2 ? (int) v : v;
                Check.taken(x, "write", x.write(sort, i, v));
                Check.taken(x, "read of sort " + sort + ", " + v, x.read(sort, i), cut);
            }
        }
    }

    private static ShearHedge withRows() {
        ShearHedge x = new ShearHedge();
        x.tray(0, 1, 6);
        x.tray(1, 1, 4);
        x.tray(2, 2, 4);
        for (int i = 0; i < 6; i++) x.write(0, i, 10 + i);
        for (int i = 0; i < 4; i++) x.write(1, i, 20 + i);
        return x;
    }

    private static void row(ShearHedge x, int tray, long... numbers) {
        for (int i = 0; i < numbers.length; i++) Check.taken(x, "read(" + tray + ", " + i + ")", x.read(tray, i), numbers[i]);
    }

    private static void pouring() {
        ShearHedge x = withRows();
        Check.taken(x, "pour(0, 1, 1, 2, 2)", x.pour(0, 1, 1, 2, 2));
        row(x, 1, 20, 21, 11, 12);
        row(x, 0, 10, 11, 12, 13, 14, 15);
        Check.taken(x, "pour on itself, up", x.pour(0, 0, 0, 1, 5));
        row(x, 0, 10, 10, 11, 12, 13, 14);
        Check.taken(x, "pour on itself, down", x.pour(0, 2, 0, 0, 4));
        row(x, 0, 11, 12, 13, 14, 13, 14);
        Check.taken(x, "pour of nothing", x.pour(0, 0, 1, 0, 0));
        Check.taken(x, "pour of nothing at the ends", x.pour(0, 6, 1, 4, 0));
        Check.taken(x, "pour of all", x.pour(1, 0, 0, 2, 4));
        row(x, 0, 11, 12, 20, 21, 11, 12);
    }

    private static void pouringIsRefused() {
        ShearHedge x = withRows();
        Check.refused(x, "pour(-1, ..)", x.pour(-1, 0, 0, 0, 1), 1);
        Check.refused(x, "pour(.., 4, ..)", x.pour(3, 0, 4, 0, 1), 1);
        Check.refused(x, "pour from a MISSING one", x.pour(3, 0, 2, 0, -1), 3);
        Check.refused(x, "pour to a MISSING one", x.pour(2, 0, 3, 0, -1), 3);
        Check.refused(x, "pour to another sort", x.pour(0, 0, 2, 0, -1), 11);
        Check.refused(x, "pour to another sort from no place", x.pour(0, 9, 2, 9, 1), 11);
        Check.refused(x, "pour of -1", x.pour(0, 9, 1, 9, -1), 6);
        Check.refused(x, "pour from place -1", x.pour(0, -1, 1, 0, 1), 4);
        Check.refused(x, "pour to place -1", x.pour(0, 0, 1, -1, 1), 4);
        Check.refused(x, "pour of too many from", x.pour(1, 2, 0, 0, 3), 4);
        Check.refused(x, "pour of too many to", x.pour(0, 0, 1, 2, 3), 4);
        Check.refused(x, "pour of very many", x.pour(0, 1, 1, 1, Integer.MAX_VALUE), 4);
        Check.refused(x, "pour from a far place", x.pour(0, Integer.MAX_VALUE, 1, 0, 1), 4);
        row(x, 0, 10, 11, 12, 13, 14, 15);
        row(x, 1, 20, 21, 22, 23);
        row(x, 2, 0, 0, 0, 0);
    }
}
