/** Boundary cases of sheets and of what is told, filmed, copied by them. */
public final class EdgesSheetsTest {
    private static final int BAD = SealedLips.BAD;
    private static final int NULL = SealedLips.NULL;
    private static final int INDEX = SealedLips.INDEX;
    /** Thing t is known by just the persons of set t, for good. */
    private static final String EACH_SET = "9/30;d1357,d2367,d4567";
    private static final int[] BITS = {8, 16, 32, 64};

    private static void due(String call, long got, long want) {
        Check.due(call, got, want);
    }

    public static void main(String[] args) {
        nothingAtFirst();
        lengths();
        newRows();
        drops();
        lowestBits();
        eachItem();
        toldOfOneToSix();
        toldHeats();
        toldOfAllBits();
        filmOfOneToTwentyFour();
        filmOfASlowRow();
        filmBeside();
        copiesOfNothing();
        copiesOfAll();
        copiesOverlap();
        copiesOfWideItems();
        Check.allNamed(29, 34);
        Check.finish();
    }

    /** What an item is, 0 to 7, or -1: of a court of each set. */
    private static int read(SealedLips x, int sheet, int lane, int i) {
        for (int v = 0; v < 8; v++) {
            if (x.told(v, sheet, lane, i, 1) == 1023) {
                return v;
            }
        }
        return -1;
    }

    private static void nothingAtFirst() {
        SealedLips x = Check.at(EACH_SET);
        for (int sheet = 0; sheet < 4; sheet++) {
            for (int lane = 0; lane < 4; lane++) {
                Check.edge(29, "SHEETS: nothing (at first)");
                due("told", x.told(0, sheet, lane, 0, 1), NULL);
                Check.edge(30, "SHEETS: nothing (at first)");
                due("film", x.film(0, 1, 0, sheet, lane, 0), NULL);
                Check.edge(33, "SHEETS: nothing (at first)");
                due("item", x.item(sheet, lane, 0, 0), NULL);
                Check.edge(34, "SHEETS: nothing (at first)");
                due("copy", x.copy(sheet, 0, lane, 0, 0), NULL);
            }
            Check.edge(32, "SHEETS: nothing (at first)");
            due("drop", x.drop(sheet), NULL);
        }
    }

    private static void lengths() {
        SealedLips x = Check.at(EACH_SET);
        for (int n = 0; n <= 24; n++) {
            int sheet = n % 4;
            Check.edge(31, "of 0 to 24 items");
            due("sheet", x.sheet(sheet, n % 3, n), n);
            Check.edge(33, "the last item, the first that is none");
            due("none", x.item(sheet, n % 3, n, 1), INDEX);
            due("the last", x.item(sheet, n % 3, n - 1, 1), n == 0 ? INDEX : 1);
            Check.edge(32, "how many items it had (0 to 24)");
            due("drop", x.drop(sheet), n);
            due("drop", x.drop(sheet), NULL);
        }
        Check.edge(31, "BAD: also n above 24");
        due("25", x.sheet(0, 0, 25), BAD);
        due("no sheet", x.drop(0), NULL);
        Check.edge(31, "SIZE: n below 0");
        due("-1", x.sheet(0, 0, -1), SealedLips.SIZE);
        due("no sheet", x.drop(0), NULL);
    }

    private static void newRows() {
        SealedLips x = Check.at(EACH_SET);
        for (int lane = 0; lane < 4; lane++) {
            Check.edge(31, "a new row: of zeros");
            x.sheet(0, lane, 24);
            x.film(7, 24, 0, 0, lane, 0);
            due("filmed", read(x, 0, lane, 23), 7);
            due("anew", x.sheet(0, lane, 24), 24);
            due("the first", read(x, 0, lane, 0), 0);
            due("the last", read(x, 0, lane, 23), 0);
            x.film(7, 24, 0, 0, lane, 0);
            x.drop(0);
            x.sheet(0, lane, 24);
            due("behind a drop", read(x, 0, lane, 23), 0);
            Check.edge(31, "a new row of another LANE");
            due("anew", x.sheet(0, (lane + 1) % 4, 3), 3);
            due("as it was", x.item(0, lane, 0, 1), SealedLips.CAST);
            due("as it is", x.item(0, (lane + 1) % 4, 2, 1), 1);
            due("shorter", x.item(0, (lane + 1) % 4, 3, 1), INDEX);
        }
    }

    private static void drops() {
        Check.edge(32, "A SHEET holds nothing: it alone");
        SealedLips x = Check.at(EACH_SET);
        for (int sheet = 0; sheet < 4; sheet++) {
            x.sheet(sheet, sheet, 6 + sheet);
        }
        due("drop", x.drop(1), 7);
        due("again", x.drop(1), NULL);
        due("told", x.told(0, 1, 1, 0, 1), NULL);
        due("film", x.film(0, 1, 0, 1, 1, 0), NULL);
        due("item", x.item(1, 1, 0, 0), NULL);
        due("copy", x.copy(1, 0, 0, 0, 1), NULL);
        due("the first", x.drop(0), 6);
        due("the third", x.drop(2), 8);
        due("the last", x.drop(3), 9);
        Check.edge(32, "0 items are not nothing");
        x.sheet(0, 0, 0);
        due("copy", x.copy(0, 0, 0, 0, 0), 0);
        due("drop", x.drop(0), 0);
        due("drop", x.drop(0), NULL);
    }

    private static void lowestBits() {
        SealedLips x = Check.at(EACH_SET);
        for (int lane = 0; lane < 4; lane++) {
            x.sheet(lane, lane, 1);
            int width = BITS[lane];
            if (width < 64) {
                Check.edge(33, "its lowest bits: " + width + ", the bits above are lost");
                long above = -1L << width;
                for (int v = 0; v < 8; v += 7) {
                    x.item(lane, lane, 0, above | v);
                    due("all above", read(x, lane, lane, 0), v);
                    x.item(lane, lane, 0, 1L << width | v);
                    due("the first above", read(x, lane, lane, 0), v);
                    x.item(lane, lane, 0, Long.MIN_VALUE | v);
                    due("the last above", read(x, lane, lane, 0), v);
                }
            }
            Check.edge(33, "its lowest bits: " + width + ", all of them stay");
            x.item(lane, lane, 0, 1L << width - 1 | 5);
            due("the highest", x.told(5, lane, lane, 0, 1), 0);
            x.item(lane, lane, 0, 1L << width / 2 | 5);
            due("one amid", x.told(5, lane, lane, 0, 1), 0);
            x.item(lane, lane, 0, -1L);
            due("all of them", x.told(7, lane, lane, 0, 1), 0);
            x.item(lane, lane, 0, 5);
            due("5", x.told(5, lane, lane, 0, 1), 1023);
        }
    }

    private static void eachItem() {
        Check.edge(33, "Item i becomes v: it alone");
        SealedLips x = Check.at(EACH_SET);
        x.sheet(2, 1, 24);
        for (int i = 0; i < 24; i++) {
            due("item", x.item(2, 1, i, i % 7 + 1), 1);
            due("the next stays", i == 23 ? 0 : read(x, 2, 1, i + 1), 0);
        }
        for (int i = 0; i < 24; i++) {
            due("item " + i, x.told(i % 7 + 1, 2, 1, i, 1), 1023);
        }
    }

    private static void toldOfOneToSix() {
        SealedLips x = Check.at(EACH_SET);
        x.sheet(0, 0, 24);
        x.film(6, 24, 0, 0, 0, 0);
        for (int n = 1; n <= 6; n++) {
            Check.edge(29, "n DAYS (1 .. 6), from item i on: the first, the last");
            due("first", x.told(6, 0, 0, 0, n), 1023);
            due("last", x.told(6, 0, 0, 24 - n, n), 1023);
            due("outside", x.told(6, 0, 0, 25 - n, n), INDEX);
            Check.edge(29, "each of n items counts, none behind them");
            x.item(0, 0, n, 1);
            due("ahead of it", x.told(6, 0, 0, 0, n), 1023);
            due("with it", x.told(6, 0, 0, 1, n), 0);
            x.item(0, 0, n, 6);
        }
        Check.edge(29, "n 0, n 7: BAD");
        due("0", x.told(6, 0, 0, 0, 0), BAD);
        due("7", x.told(6, 0, 0, 0, 7), BAD);
    }

    /** A seal of 9 is broken by a day of 2 to 9 on day 9, 9, 5, 5, 3, 3, 3, 3. */
    private static void toldHeats() {
        SealedLips x = Check.at("9/30;p0,p");
        x.sheet(0, 3, 6);
        int[] heats = {0, 0, 0b1111000000, 0, 0b0000110000, 0};
        for (int broken = 1; broken <= 6; broken++) {
            for (int d = 1; d <= 6; d++) {
                x.item(0, 3, d - 1, d < broken ? 1 : 3);
            }
            Check.edge(29, "HEATS (0 .. 9, a set) by which it would be so: some, none");
            due("broken on day " + broken, x.told(0, 0, 3, 0, 6), heats[broken - 1]);
        }
        Check.edge(29, "HEATS: the least");
        for (int i = 0; i < 6; i++) {
            x.item(0, 3, i, 1);
        }
        due("not broken", x.told(0, 0, 3, 0, 6), 0b0000001111);
        Check.edge(29, "HEATS: all");
        due("2 days", x.told(0, 0, 3, 0, 2), 1023);
        Check.edge(29, "HEATS: the greatest");
        x = Check.at("5/30;l0,p");
        x.sheet(0, 3, 1);
        x.item(0, 3, 0, 3);
        due("8, 9", x.told(0, 0, 3, 0, 1), 0b1100000000);
        Check.edge(29, "HEATS: none");
        x.item(0, 3, 0, 2);
        due("none", x.told(0, 0, 3, 0, 1), 0);
        Check.edge(29, "nobody KNOWS a THING: by all HEATS");
        SealedLips y = new SealedLips();
        y.sheet(0, 0, 6);
        due("nobody", y.told(7, 0, 0, 0, 6), 1023);
    }

    private static void toldOfAllBits() {
        Check.edge(29, "a set of PERSONS who are not there is no set that is");
        SealedLips x = Check.at("9/30;d0");
        for (int lane = 0; lane < 4; lane++) {
            x.sheet(0, lane, 1);
            for (int bit = 1; bit < BITS[lane]; bit++) {
                x.item(0, lane, 0, 1L << bit | 1);
                due("lane " + lane + " bit " + bit, x.told(0, 0, lane, 0, 1), 0);
            }
            x.item(0, lane, 0, 1);
            due("lane " + lane, x.told(0, 0, lane, 0, 1), 1023);
        }
    }

    private static void filmOfOneToTwentyFour() {
        SealedLips x = Check.at(EACH_SET);
        for (int n = 1; n <= 24; n++) {
            Check.edge(30, "n DAYS (1 .. 24): n items, no more");
            x.sheet(0, 2, 24);
            due("film", x.film(5, n, 9, 0, 2, 0), n);
            due("the last", read(x, 0, 2, n - 1), 5);
            due("behind it", n == 24 ? 0 : read(x, 0, 2, n), 0);
            Check.edge(30, "from item i on, to the row's end");
            x.sheet(0, 2, 24);
            due("outside", x.film(5, n, 9, 0, 2, 25 - n), INDEX);
            due("film", x.film(5, n, 9, 0, 2, 24 - n), n);
            due("ahead of it", n == 24 ? 0 : read(x, 0, 2, 23 - n), 0);
        }
        Check.edge(30, "n 0, n 25: BAD");
        due("0", x.film(5, 0, 9, 0, 2, 0), BAD);
        due("25", x.film(5, 25, 9, 0, 2, 0), BAD);
    }

    /** Told on days 3, 15, 27: from day 4 on behind 12, 24 days. */
    private static void filmOfASlowRow() {
        Check.edge(30, "behind 1, 2, .. n DAYS");
        for (int lane = 0; lane < 4; lane++) {
            SealedLips x = Check.at("6/4;e,e,e,f");
            x.days(4, 0);
            x.trust(0, 0);
            x.sheet(0, lane, 24);
            due("film", x.film(0, 24, 0, 0, lane, 0), 24);
            Check.court(x, EACH_SET);
            for (int d = 1; d <= 24; d++) {
                due("behind " + d, read(x, 0, lane, d - 1), d < 12 ? 1 : d < 24 ? 3 : 7);
            }
        }
        Check.edge(30, "a set of all six");
        SealedLips x = Check.at("1/30;p0,d0,d0,d0,d0,f0");
        x.sheet(0, 0, 1);
        x.film(0, 1, 9, 0, 0, 0);
        due("63", x.told(0, 0, 0, 0, 1), 1023);
        x.item(0, 0, 0, 63);
        due("63", x.told(0, 0, 0, 0, 1), 1023);
    }

    private static void filmBeside() {
        Check.edge(30, "items ahead of i, behind n of them stay");
        SealedLips x = Check.at(EACH_SET);
        for (int i = 0; i <= 20; i++) {
            x.sheet(0, 1, 24);
            due("film", x.film(3, 4, 0, 0, 1, i), 4);
            due("ahead", i == 0 ? 0 : read(x, 0, 1, i - 1), 0);
            due("first", read(x, 0, 1, i), 3);
            due("last", read(x, 0, 1, i + 3), 3);
            due("behind", i == 20 ? 0 : read(x, 0, 1, i + 4), 0);
        }
        Check.edge(30, "what is FORETOLD changes nothing else");
        due("day", x.count(1), 0);
        due("may be UNDONE", x.count(8), 0);
    }

    private static SealedLips counting(int sheet, int lane, int n) {
        SealedLips x = Check.at(EACH_SET);
        x.sheet(sheet, lane, n);
        for (int i = 0; i < n; i++) {
            x.item(sheet, lane, i, i % 8);
        }
        return x;
    }

    private static void copiesOfNothing() {
        SealedLips x = counting(0, 0, 6);
        x.sheet(1, 0, 0);
        Check.edge(34, "n 0: nothing, at the end, too");
        due("at the ends", x.copy(0, 6, 0, 6, 0), 0);
        due("to a row of none", x.copy(0, 3, 1, 0, 0), 0);
        due("from a row of none", x.copy(1, 0, 0, 3, 0), 0);
        due("stays", read(x, 0, 0, 3), 3);
        Check.edge(34, "n 0, behind the end: INDEX");
        due("i 7", x.copy(0, 7, 0, 0, 0), INDEX);
        due("j 1", x.copy(0, 0, 1, 1, 0), INDEX);
        Check.edge(34, "n 1 of a row of none: INDEX");
        due("from it", x.copy(1, 0, 0, 0, 1), INDEX);
        due("to it", x.copy(0, 0, 1, 0, 1), INDEX);
    }

    private static void copiesOfAll() {
        for (int lane = 0; lane < 4; lane++) {
            SealedLips x = counting(3, lane, 24);
            x.sheet(0, lane, 24);
            Check.edge(34, "n items come to another one: all 24");
            due("copy", x.copy(3, 0, 0, 0, 24), 24);
            for (int i = 0; i < 24; i += 23) {
                due("item " + i, read(x, 0, lane, i), i % 8);
            }
            Check.edge(34, "25 of 24: INDEX");
            due("copy", x.copy(3, 0, 0, 0, 25), INDEX);
            Check.edge(34, "on itself, in place");
            due("copy", x.copy(3, 0, 3, 0, 24), 24);
            due("the last", read(x, 3, lane, 23), 7);
            Check.edge(34, "the first stays as it was");
            due("copy", x.copy(3, 23, 0, 0, 1), 1);
            due("to", read(x, 0, lane, 0), 7);
            due("from", read(x, 3, lane, 23), 7);
            due("the others stay", read(x, 0, lane, 1), 1);
        }
    }

    private static void copiesOverlap() {
        Check.edge(34, "the same, as if all were taken ahead");
        for (int i = 0; i <= 6; i++) {
            for (int j = 0; j <= 6; j++) {
                SealedLips x = counting(1, 2, 8);
                int n = 8 - Math.max(i, j);
                due("copy", x.copy(1, i, 1, j, n), n);
                for (int k = 0; k < 8; k++) {
                    int due = k >= j && k < j + n ? k - j + i : k;
                    due("from " + i + " to " + j + ", item " + k, read(x, 1, 2, k), due);
                }
            }
        }
    }

    private static void copiesOfWideItems() {
        Check.edge(34, "items come whole");
        SealedLips x = Check.at("9/30;d0");
        x.sheet(0, 3, 2);
        x.sheet(1, 3, 2);
        x.item(0, 3, 0, 1L << 63 | 1);
        x.item(0, 3, 1, 1L << 32 | 1);
        x.item(1, 3, 0, 1);
        x.item(1, 3, 1, 1);
        due("ahead", x.told(0, 1, 3, 0, 2), 1023);
        due("copy", x.copy(0, 0, 1, 0, 2), 2);
        due("the highest bit", x.told(0, 1, 3, 0, 1), 0);
        due("a bit amid", x.told(0, 1, 3, 1, 1), 0);
    }
}
