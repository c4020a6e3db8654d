/** Promises 29 to 34. */
public final class SheetsTest {
    private static final int BAD = SealedLips.BAD;
    private static final int NULL = SealedLips.NULL;
    private static final int CAST = SealedLips.CAST;
    private static final int INDEX = SealedLips.INDEX;
    private static final String EACH_SET = "9/30;d1357,d2367,d4567";

    private static void due(String call, long got, long want) {
        Check.due(call, got, want);
    }

    public static void main(String[] args) {
        told();
        toldRefused();
        film();
        filmRefused();
        sheet();
        drop();
        item();
        copy();
        copyRefused();
        Check.finish();
    }

    /** Whether item i of a sheet is v, which no call tells but told: of a court made for it. */
    private static boolean holds(SealedLips x, int sheet, int lane, int i, int v) {
        return x.told(7, sheet, lane, i, 1) == (x.ahead(7, 1, 0) == v ? 1023 : 0);
    }

    private static void told() {
        // a seal of 9: known by 1 until it breaks, by both from then on
        SealedLips x = Check.at("9/30;p0,p");
        x.sheet(0, 2, 10);
        int[] row = {1, 1, 3, 3, 3, 3};
        for (int i = 0; i < row.length; i++) {
            x.item(0, 2, 2 + i, row[i]);
        }
        due("heats 6 to 9", x.told(0, 0, 2, 2, 6), 0b1111000000);
        due("heats 6 to 9", x.told(0, 0, 2, 2, 3), 0b1111000000);
        due("any", x.told(0, 0, 2, 2, 2), 1023);
        due("one day", x.told(0, 0, 2, 2, 1), 1023);
        due("from the next", x.told(0, 0, 2, 3, 2), 0);
        x.item(0, 2, 4, 1);
        x.item(0, 2, 5, 1);
        due("heats 4, 5", x.told(0, 0, 2, 2, 5), 0b0000110000);
        x.item(0, 2, 6, 1);
        x.item(0, 2, 7, 1);
        due("heats 0 to 3", x.told(0, 0, 2, 2, 6), 0b0000001111);
        x.item(0, 2, 2, 1 + 256);
        due("no such set", x.told(0, 0, 2, 2, 1), 0);
        SealedLips y = new SealedLips();
        y.sheet(3, 3, 6);
        due("nobody", y.told(7, 3, 3, 0, 6), 1023);
        y.item(3, 3, 5, 1L << 32);
        due("all bits of a long count", y.told(7, 3, 3, 0, 6), 0);
    }

    private static void toldRefused() {
        SealedLips x = Check.at("9/30;p0,p");
        due("missing", x.told(0, 0, 2, 0, 1), NULL);
        x.sheet(0, 2, 6);
        due("thing 8", x.told(8, 0, 2, 0, 1), BAD);
        due("thing -1", x.told(-1, 0, 2, 0, 1), BAD);
        due("sheet 4", x.told(0, 4, 2, 0, 1), BAD);
        due("sheet -1", x.told(0, -1, 2, 0, 1), BAD);
        due("lane 4", x.told(0, 0, 4, 0, 1), BAD);
        due("lane -1", x.told(0, 0, -1, 0, 1), BAD);
        due("n 0", x.told(0, 0, 2, 0, 0), BAD);
        due("n 7", x.told(0, 0, 2, 0, 7), BAD);
        due("BAD first", x.told(8, 1, 1, 99, 1), BAD);
        due("NULL ahead of INDEX", x.told(0, 1, 1, 99, 1), NULL);
        due("CAST ahead of INDEX", x.told(0, 0, 1, 99, 1), CAST);
        due("i -1", x.told(0, 0, 2, -1, 1), INDEX);
        due("i least", x.told(0, 0, 2, Integer.MIN_VALUE, 6), INDEX);
        due("i most", x.told(0, 0, 2, Integer.MAX_VALUE, 6), INDEX);
        due("i 1, n 6", x.told(0, 0, 2, 1, 6), INDEX);
        due("i 0, n 6", x.told(0, 0, 2, 0, 6), 0);
    }

    private static void film() {
        for (int lane = 0; lane < 4; lane++) {
            SealedLips x = Check.at("9/30;p0,p,p,p,p,p");
            x.sheet(lane, lane, 24);
            due("film", x.film(0, 24, 6, lane, lane, 0), 24);
            due("as told", x.told(0, lane, lane, 0, 6), sameFor(x, 6, 6));
            due("film, a part", x.film(0, 3, 0, lane, lane, 4), 3);
            due("items ahead stay", x.told(0, lane, lane, 0, 4), sameFor(x, 6, 4));
            x.item(lane, lane, 0, 1);
            x.item(lane, lane, 1, 1);
            x.item(lane, lane, 2, 1);
            x.item(lane, lane, 3, 1);
            due("the part", x.told(0, lane, lane, 1, 6), sameFor(x, 0, 6));
        }
    }

    /** Heats by which who knows thing 0 behind each of so many days is as by heat h. */
    private static int sameFor(SealedLips x, int h, int days) {
        int set = 0;
        for (int other = 0; other <= 9; other++) {
            boolean same = true;
            for (int d = 1; d <= days; d++) {
                same &= x.ahead(0, d, other) == x.ahead(0, d, h);
            }
            set |= same ? 1 << other : 0;
        }
        return set;
    }

    private static void filmRefused() {
        SealedLips x = Check.at("9/30;p7,p");
        due("missing", x.film(7, 1, 0, 0, 0, 0), NULL);
        x.sheet(0, 0, 24);
        due("thing 8", x.film(8, 1, 0, 0, 0, 0), BAD);
        due("thing -1", x.film(-1, 1, 0, 0, 0, 0), BAD);
        due("n 0", x.film(0, 0, 0, 0, 0, 0), BAD);
        due("n 25", x.film(0, 25, 0, 0, 0, 0), BAD);
        due("h -1", x.film(0, 1, -1, 0, 0, 0), BAD);
        due("h 10", x.film(0, 1, 10, 0, 0, 0), BAD);
        due("sheet 4", x.film(0, 1, 0, 4, 0, 0), BAD);
        due("sheet -1", x.film(0, 1, 0, -1, 0, 0), BAD);
        due("lane 4", x.film(0, 1, 0, 0, 4, 0), BAD);
        due("lane -1", x.film(0, 1, 0, 0, -1, 0), BAD);
        due("BAD first", x.film(8, 1, 0, 1, 1, 99), BAD);
        due("NULL", x.film(0, 1, 0, 1, 1, 99), NULL);
        due("CAST", x.film(0, 1, 0, 0, 1, 99), CAST);
        due("i 24", x.film(0, 1, 0, 0, 0, 24), INDEX);
        due("i -1", x.film(0, 1, 0, 0, 0, -1), INDEX);
        due("i most", x.film(0, 24, 0, 0, 0, Integer.MAX_VALUE), INDEX);
        due("i 1, n 24", x.film(7, 24, 0, 0, 0, 1), INDEX);
        due("nothing is changed", holds(x, 0, 0, 1, 0) ? 1 : 0, 1);
        due("i 23", x.film(7, 1, 0, 0, 0, 23), 1);
        due("the last", holds(x, 0, 0, 23, 1) ? 1 : 0, 1);
    }

    private static void sheet() {
        SealedLips x = Check.at("9/30;p7,p");
        due("0 items", x.sheet(0, 0, 0), 0);
        due("24 items", x.sheet(3, 3, 24), 24);
        due("25 items", x.sheet(0, 0, 25), BAD);
        due("-1 items", x.sheet(0, 0, -1), SealedLips.SIZE);
        due("least", x.sheet(0, 0, Integer.MIN_VALUE), SealedLips.SIZE);
        due("sheet 4", x.sheet(4, 0, -1), BAD);
        due("sheet -1", x.sheet(-1, 0, 1), BAD);
        due("lane 4", x.sheet(0, 4, -1), BAD);
        due("lane -1", x.sheet(0, -1, 1), BAD);
        due("refused changes nothing", x.drop(0), 0);
        x.item(3, 3, 0, 1);
        due("item", holds(x, 3, 3, 0, 1) ? 1 : 0, 1);
        due("anew", x.sheet(3, 3, 24), 24);
        due("of zeros", x.told(0, 3, 3, 0, 6), 1023);
        due("another lane", x.sheet(3, 1, 2), 2);
        due("another lane", x.item(3, 3, 0, 1), CAST);
        due("shorter", x.item(3, 1, 2, 1), INDEX);
    }

    private static void drop() {
        SealedLips x = new SealedLips();
        due("missing", x.drop(0), NULL);
        x.sheet(0, 1, 9);
        due("had", x.drop(0), 9);
        due("missing", x.drop(0), NULL);
        due("missing", x.item(0, 1, 0, 1), NULL);
        x.sheet(0, 1, 0);
        due("empty is not missing", x.drop(0), 0);
        due("sheet 4", x.drop(4), BAD);
        due("sheet -1", x.drop(-1), BAD);
    }

    private static void item() {
        SealedLips x = Check.at("9/30;p7,p");
        long[] wide = {256L + 1, 65536L + 1, (1L << 32) + 1, 1L};
        for (int lane = 0; lane < 4; lane++) {
            x.sheet(0, lane, 2);
            due("item", x.item(0, lane, 1, wide[lane]), 1);
            due("lowest bits", x.told(7, 0, lane, 1, 1), 1023);
            due("the first stays", x.told(7, 0, lane, 0, 1), 0);
            due("half as wide", x.item(0, lane, 1, lane == 3 ? (1L << 32) + 1 : 128L + 1), 1);
            due("other bits", x.told(7, 0, lane, 1, 1), 0);
            due("all bits", x.item(0, lane, 1, -1L), 1);
            due("all bits", x.told(7, 0, lane, 1, 1), 0);
            due("i 2", x.item(0, lane, 2, 1), INDEX);
            due("i -1", x.item(0, lane, -1, 1), INDEX);
            due("i most", x.item(0, lane, Integer.MAX_VALUE, 1), INDEX);
            due("another lane", x.item(0, (lane + 1) % 4, 9, 1), CAST);
        }
        due("missing", x.item(1, 0, 9, 1), NULL);
        due("sheet 4", x.item(4, 0, 0, 1), BAD);
        due("sheet -1", x.item(-1, 0, 0, 1), BAD);
        due("lane 4", x.item(0, 4, 0, 1), BAD);
        due("lane -1", x.item(1, -1, 0, 1), BAD);
    }

    /** A sheet whose items are 0, 1, 2, .. */
    private static void count(SealedLips x, int sheet, int n) {
        x.sheet(sheet, 0, n);
        for (int i = 0; i < n; i++) {
            x.item(sheet, 0, i, i);
        }
    }

    /** What an item is, 0 to 7, or -1: of a court in which thing t is known by just the persons of set t. */
    private static int read(SealedLips x, int sheet, int i) {
        for (int set = 0; set < 8; set++) {
            if (x.told(set, sheet, 0, i, 1) == 1023) {
                return set;
            }
        }
        return -1;
    }

    private static void copy() {
        SealedLips x = Check.at(EACH_SET);
        count(x, 0, 6);
        due("on itself, to behind", x.copy(0, 0, 0, 1, 5), 5);
        int[] behind = {0, 0, 1, 2, 3, 4};
        for (int i = 0; i < 6; i++) {
            due("item " + i, read(x, 0, i), behind[i]);
        }
        count(x, 0, 6);
        due("on itself, to ahead", x.copy(0, 1, 0, 0, 5), 5);
        int[] ahead = {1, 2, 3, 4, 5, 5};
        for (int i = 0; i < 6; i++) {
            due("item " + i, read(x, 0, i), ahead[i]);
        }
        count(x, 0, 6);
        x.sheet(1, 0, 3);
        due("to another", x.copy(0, 4, 1, 1, 2), 2);
        int[] other = {0, 4, 5};
        for (int i = 0; i < 3; i++) {
            due("item " + i, read(x, 1, i), other[i]);
        }
        due("nothing at the end", x.copy(0, 6, 1, 3, 0), 0);
        due("the source stays", read(x, 0, 4), 4);
    }

    private static void copyRefused() {
        SealedLips x = Check.at(EACH_SET);
        count(x, 0, 6);
        x.sheet(1, 0, 3);
        x.sheet(2, 1, 3);
        due("from 4", x.copy(4, 0, 0, 0, 1), BAD);
        due("from -1", x.copy(-1, 0, 3, 0, 1), BAD);
        due("to 4", x.copy(3, 0, 4, 0, 1), BAD);
        due("to -1", x.copy(0, 0, -1, 0, 1), BAD);
        due("from missing", x.copy(3, 9, 2, 0, 1), NULL);
        due("to missing", x.copy(0, 9, 3, 0, 1), NULL);
        due("unlike", x.copy(0, 9, 2, 0, 1), CAST);
        due("i -1", x.copy(0, -1, 1, 0, 1), INDEX);
        due("j -1", x.copy(0, 0, 1, -1, 1), INDEX);
        due("n -1", x.copy(0, 0, 1, 0, -1), INDEX);
        due("n least", x.copy(0, 0, 1, 0, Integer.MIN_VALUE), INDEX);
        due("n most", x.copy(0, 1, 1, 1, Integer.MAX_VALUE), INDEX);
        due("i most", x.copy(0, Integer.MAX_VALUE, 1, 0, 1), INDEX);
        due("source too short", x.copy(0, 5, 1, 0, 2), INDEX);
        due("target too short", x.copy(0, 1, 1, 0, 4), INDEX);
        due("none behind the end", x.copy(0, 7, 1, 0, 0), INDEX);
        due("none behind the end", x.copy(0, 0, 1, 4, 0), INDEX);
        due("nothing is changed", read(x, 1, 0) + read(x, 1, 2), 0);
    }
}
