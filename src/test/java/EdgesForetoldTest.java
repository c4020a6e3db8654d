import java.util.List;

/** Boundary cases of what is foretold. */
public final class EdgesForetoldTest {
    private static final int NONE = SealedLips.NONE;

    private static void due(String call, long got, long want) {
        Check.due(call, got, want);
    }

    public static void main(String[] args) {
        nothingIsChanged();
        ahead();
        rankAhead();
        leaks();
        when();
        whenLatest();
        cool();
        coolNone();
        thick();
        thickNow();
        renewNow();
        renewFewest();
        renewLeastSet();
        tableOfFew();
        tableOfLikeOnes();
        tableOfAllOrders();
        tableOfMostAndLeast();
        tableOfTwentyDays();
        rivals();
        fromNow();
        fromJustThen();
        Check.allNamed(17, 26);
        Check.finish();
    }

    private static void nothingIsChanged() {
        List<Integer> untouched = Scene.all(Scene.lively());
        int[] promises = {17, 18, 19, 20, 21, 22, 23, 23, 24, 24, 25, 26, 29};
        String[] names = {"ahead", "rankAhead", "leaks", "out", "cool", "thick", "renew", "renew", "table", "table", "rivals", "from", "told"};
        long[][] arguments = {{3, 60, 9}, {0, 60, 9}, {60, 9}, {3, 9}, {30}, {30, 9}, {3, 60, 9, 6, 0}, {3, 60, 9, 3, 1},
            {20, 9, -1}, {20, 9, 3}, {0}, {3, 60, 9}, {4, 3, 3, 0, 6}};
        for (int i = 0; i < names.length; i++) {
            Check.edge(promises[i], "nothing is changed");
            SealedLips x = Scene.lively();
            Scene.call(x, names[i], arguments[i]);
            due(names[i] + " changed nothing,", Scene.all(x).equals(untouched) ? 1 : 0, 1);
        }
    }

    /** Eaters in a row, the deaf at its end: told on days 3, 15, 27, 39, and sealed again at once. */
    private static SealedLips slow() {
        return Check.at("6/4;e0,e,e,e,e,f0");
    }

    private static void ahead() {
        SealedLips x = slow();
        Check.edge(17, "behind 0 DAYS: now");
        due("0", x.ahead(0, 0, 9), 0b100001);
        Check.edge(17, "behind just n DAYS");
        int[] days = {3, 4, 15, 16, 27, 28, 39, 40, 60};
        int[] sets = {0b100001, 0b100011, 0b100011, 0b100111, 0b100111, 0b101111, 0b101111, 0b111111, 0b111111};
        for (int i = 0; i < days.length; i++) {
            due("behind " + days[i], x.ahead(0, days[i], 0), sets[i]);
        }
        Check.edge(17, "a THING that nobody KNOWS");
        due("thing 7", x.ahead(7, 60, 9), 0);
        Check.edge(17, "nobody");
        due("nobody", new SealedLips().ahead(0, 60, 9), 0);
        Check.edge(17, "OPEN, but behind 0 DAYS nothing is told");
        x = Check.at("1/30;p0,f,p,f");
        x.days(1, 9);
        x.seats(1, 2);
        due("0", x.ahead(0, 0, 0), 1);
        due("1", x.ahead(0, 1, 0), 5);
    }

    private static void rankAhead() {
        SealedLips x = Check.at("9/30;l07,f");
        Check.edge(18, "RANK behind 0 to 60 DAYS");
        for (int n = 0; n <= 60; n++) {
            due("behind " + n, x.rankAhead(0, n, 0), n % 30 < 9 ? 2 : 0);
        }
        Check.edge(18, "RANK of one who KNOWS nothing");
        due("the deaf", x.rankAhead(1, 60, 9), 0);
        Check.edge(18, "RANK of what is heard, SEALED when the WEEK ends");
        x = Check.at("1/30;p01234567,p");
        due("29", x.rankAhead(1, 29, 2), 0);
        due("30", x.rankAhead(1, 30, 2), 8);
        due("60", x.rankAhead(1, 60, 2), 8);
    }

    private static void leaks() {
        SealedLips x = Check.at("1/30;p01234567,p,p,p,p,p");
        int[] most = {0, 16, 32, 40, 40};
        Check.edge(19, "how many more times a THING is KNOWN than now: all");
        for (int n = 0; n < most.length; n++) {
            due("behind " + n, x.leaks(n, 2), most[n]);
        }
        due("behind 60", x.leaks(60, 9), 40);
        Check.edge(19, "than now, not than at first");
        x.days(1, 2);
        due("behind 1", x.leaks(1, 2), 16);
        Check.edge(19, "none");
        due("heat 1", Check.at("1/30;p01234567,p").leaks(60, 1), 0);
        due("nobody", new SealedLips().leaks(60, 9), 0);
    }

    private static void when() {
        Check.edge(20, "OUT behind 0 DAYS");
        due("now", Check.at("1/30;f7,f7").out(7, 9), 0);
        due("now", Check.at("1/30;p0").out(0, 0), 0);
        Check.edge(20, "the first of them");
        due("1", Check.at("1/30;p0,p,p").out(0, 2), 1);
        due("2", Check.at("1/30;p0,p,p,p").out(0, 2), 2);
        due("3", Check.at("1/30;p0,p,p,p,p,p").out(0, 2), 3);
        Check.edge(20, "one who is DEAF never HEARS: none");
        due("deaf", Check.at("1/30;p0,f").out(0, 9), NONE);
        Check.edge(20, "a THING that nobody KNOWS: none");
        due("unknown", Check.at("1/30;p0,p").out(1, 9), NONE);
        Check.edge(20, "no HEAT weakens it: none");
        due("heat 1", Check.at("1/30;p0,p").out(0, 1), NONE);
        due("heat 2", Check.at("1/30;p0,p").out(0, 2), 1);
    }

    /** By hand: from day 24 on told on days 39, 51, 63, 75: as late as any search has found. */
    private static void whenLatest() {
        Check.edge(20, "the first of 0 to 60 DAYS: a late one");
        SealedLips x = Check.at("9/4;e,d,e,e,e,e");
        x.days(24, 0);
        x.trust(0, 0);
        x.rule(0, 6);
        due("52", x.out(0, 1), 52);
        due("51", x.ahead(0, 51, 1), 0b111011);
        due("40", slow().out(0, 0), 40);
    }

    /** 9 less 1 a day: 8 days to the week's end, then 9 of the next one, on the last of which it breaks. */
    private static SealedLips latest() {
        SealedLips x = Check.at("9/9;p,p");
        x.days(1, 0);
        x.trust(0, 0);
        return x;
    }

    private static void cool() {
        Check.edge(21, "the greatest HEAT: 9");
        due("nobody", new SealedLips().cool(30), 9);
        due("alone", Check.at("1/30;e0").cool(30), 9);
        due("all know it", Check.at("1/30;e0,e0").cool(30), 9);
        due("dumb, deaf", Check.at("1/30;d0,f1,p").cool(30), 9);
        due("9 for 2", Check.at("9/30;p0,p").cool(2), 9);
        Check.edge(21, "the greatest HEAT: each that there can be");
        int[] greatest = {1, 3, 5, 7, 9};
        for (int wax = 1; wax <= 5; wax++) {
            due("wax " + wax, Check.at(wax + "/30;p0,p").cool(1), greatest[wax - 1]);
        }
        Check.edge(21, "nothing LEAKS in n DAYS, on the last of them, too");
        int[] ofNine = {9, 9, 5, 5, 3, 3, 3, 3, 1};
        for (int n = 1; n <= ofNine.length; n++) {
            due("n " + n, Check.at("9/30;p0,p").cool(n), ofNine[n - 1]);
        }
        due("n 30", Check.at("9/30;p0,p").cool(30), 1);
        Check.edge(21, "nothing LEAKS in n DAYS: the latest that there can be");
        due("16", latest().cool(16), 3);
        due("17", latest().cool(17), 1);
        due("30", latest().cool(30), 1);
        Check.edge(21, "renewed by the week");
        due("9 for 30", Check.at("9/2;p0,p").cool(30), 9);
        due("7 for 30", Check.at("8/2;p0,p").cool(30), 7);
    }

    private static void coolNone() {
        Check.edge(21, "none: it LEAKS by HEAT 0, too");
        SealedLips x = Check.at("1/30;p0,f,p,f");
        x.days(1, 9);
        x.seats(1, 2);
        due("open now", x.cool(1), NONE);
        x = Check.at("4/30;l0,p");
        due("laugher, 3", x.cool(3), 1);
        due("laugher, 4", x.cool(4), NONE);
        due("laugher, 30", x.cool(30), NONE);
        x = Check.at("2/30;e0,p");
        due("eater on day 0", x.cool(1), NONE);
        x = Check.at("2/30;e,p");
        x.days(1, 0);
        x.trust(0, 0);
        due("eater on day 1", x.cool(1), 1);
    }

    private static void thick() {
        Check.edge(22, "the least WAX: 1");
        due("nobody", new SealedLips().thick(30, 9), 1);
        due("alone", Check.at("9/30;e0").thick(30, 9), 1);
        due("heat 1", Check.at("9/30;p0,p").thick(30, 1), 1);
        due("dumb, deaf", Check.at("9/30;d0,f1,p").thick(30, 9), 1);
        Check.edge(22, "the least WAX (1 .. 9)");
        int[] plain = {1, 1, 2, 2, 3, 3, 4, 4, 5, 5};
        int[] laugher = {2, 2, 3, 3, 4, 4, 5, 5, 6, 6};
        int[] eater = {3, 3, 5, 5, 7, 7, 9, 9, NONE, NONE};
        for (int h = 0; h <= 9; h++) {
            due("plain " + h, Check.at("9/30;p0,p").thick(1, h), plain[h]);
            due("laugher " + h, Check.at("9/30;l0,p").thick(1, h), laugher[h]);
            due("eater " + h, Check.at("9/30;e0,p").thick(1, h), eater[h]);
        }
        Check.edge(22, "none");
        due("8 days", Check.at("9/30;p0,p").thick(8, 2), 9);
        due("9 days", Check.at("9/30;p0,p").thick(9, 2), NONE);
        due("30 days", Check.at("9/30;p0,p").thick(30, 2), NONE);
    }

    private static void thickNow() {
        Check.edge(22, "and renewed so");
        due("2 days", Check.at("9/2;p0,p").thick(30, 8), 9);
        due("2 days", Check.at("1/2;p0,p").thick(30, 2), 3);
        due("3 days", Check.at("1/3;p0,p").thick(30, 4), 7);
        Check.edge(22, "nothing LEAKS: the latest that there can be");
        due("16", latest().thick(16, 2), 9);
        due("17", latest().thick(17, 2), NONE);
        due("30", latest().thick(30, 2), NONE);
        Check.edge(22, "all SEALS being of that now: weaker than they are");
        SealedLips x = Check.at("9/30;p0,p");
        due("nothing leaks", x.leaks(1, 8), 0);
        due("thick", x.thick(1, 8), 5);
        Check.edge(22, "all SEALS being of that now: what is OPEN, too");
        x = Check.at("1/30;p0,f,p,f");
        x.days(1, 9);
        x.seats(1, 2);
        due("thick", x.thick(1, 0), 1);
        due("strength", x.strength(0, 0), 0);
        due("wax", x.count(2), 1);
    }

    private static void renewNow() {
        SealedLips x = Check.at("1/30;p0,p0,p0,p,p,p");
        Check.edge(23, "behind 0 DAYS: none is needed, or none will do");
        for (int k = 0; k <= 6; k++) {
            due("how many, k " + k, x.renew(0, 0, 9, k, 0), k < 3 ? NONE : 0);
            due("which, k " + k, x.renew(0, 0, 9, k, 1), k < 3 ? NONE : 0);
        }
        Check.edge(23, "no more than 6: none is needed");
        due("k 6", x.renew(0, 60, 9, 6, 0), 0);
        due("k 6", x.renew(0, 60, 9, 6, 1), 0);
        Check.edge(23, "no more than 0, of a THING that nobody KNOWS");
        due("how many", x.renew(7, 60, 9, 0, 0), 0);
        due("which", x.renew(7, 60, 9, 0, 1), 0);
        due("nobody", new SealedLips().renew(7, 60, 9, 0, 1), 0);
        Check.edge(23, "no more than 0, of a THING that one KNOWS: none");
        due("alone", Check.at("9/30;d0").renew(0, 60, 0, 0, 0), NONE);
        due("alone", Check.at("9/30;d0").renew(0, 60, 0, 1, 0), 0);
    }

    /** Seals of 1 that break the next day, wax of 9: each who is renewed tells nothing. */
    private static SealedLips breaking(String text) {
        SealedLips x = Check.at(text);
        x.rule(0, 9);
        return x;
    }

    private static void renewFewest() {
        SealedLips x = breaking("1/30;p0,p,p0,p,p0,p");
        int[] many = {NONE, NONE, NONE, 3, 3, 2, 0};
        int[] which = {NONE, NONE, NONE, 21, 21, 5, 0};
        Check.edge(23, "the fewest PERSONS by which no more than k KNOW it");
        for (int k = 0; k <= 6; k++) {
            due("how many, k " + k, x.renew(0, 1, 2, k, 0), many[k]);
            due("which, k " + k, x.renew(0, 1, 2, k, 1), which[k]);
        }
        Check.edge(23, "the fewest, though a set of more is less");
        x = breaking("1/30;p,f,p0,f0,f0,p0");
        due("how many", x.renew(0, 1, 2, 4, 0), 1);
        due("which", x.renew(0, 1, 2, 4, 1), 32);
        Check.edge(23, "one beside the DEAF alone needs none");
        x = breaking("1/30;p0,p,f,p0,f,p");
        due("how many", x.renew(0, 1, 2, 2, 0), 1);
        due("which", x.renew(0, 1, 2, 2, 1), 1);
        Check.edge(23, "all who KNOW it");
        x = breaking("1/30;p0,p,p0,f,p0,p");
        due("how many", x.renew(0, 1, 2, 3, 0), 3);
        due("which", x.renew(0, 1, 2, 3, 1), 21);
        x = breaking("1/30;p0,p0,p,p0,p0,p");
        due("how many", x.renew(0, 1, 2, 4, 0), 4);
        due("which", x.renew(0, 1, 2, 4, 1), 27);
        due("two of four", x.renew(0, 1, 2, 5, 1), 10);
        Check.edge(23, "WAX holds for so many DAYS, no more");
        x = breaking("1/30;p0,p");
        due("8 days", x.renew(0, 8, 2, 1, 0), 1);
        due("9 days", x.renew(0, 9, 2, 1, 0), NONE);
        due("60 days of heat 1", x.renew(0, 60, 1, 1, 0), 0);
        Check.edge(23, "the SEAL for it alone");
        x = breaking("1/30;p01,p");
        due("thing 0", x.renew(0, 1, 2, 1, 1), 1);
        due("thing 1", x.renew(1, 1, 2, 1, 1), 1);
    }

    private static void renewLeastSet() {
        Check.edge(23, "of like ones the least set");
        SealedLips x = breaking("1/30;p0,p,f,p0,p,f");
        due("one of two", x.renew(0, 1, 2, 3, 1), 1);
        due("both", x.renew(0, 1, 2, 2, 1), 9);
        x = breaking("1/30;f,p0,p,f,p0,p");
        due("one of two", x.renew(0, 1, 2, 3, 1), 2);
        x = breaking("1/30;p,f,p,p0,f,p0");
        due("one of two", x.renew(0, 1, 2, 3, 1), 8);
        due("both", x.renew(0, 1, 2, 2, 1), 40);
    }

    private static void tableOfFew() {
        Check.edge(24, "all PERSONS: none");
        due("how much", new SealedLips().table(20, 9, -1), 0);
        due("place 0", new SealedLips().table(20, 9, 0), NONE);
        String text = "1/30;p0";
        for (int size = 1; size <= 6; size++) {
            SealedLips x = Check.at(text);
            Check.edge(24, "who sits in place k: 0 first");
            due("place 0", x.table(1, 0, 0), 0);
            Check.edge(24, "who sits in place k: the last");
            due("the last", x.table(1, 0, size - 1), size - 1);
            Check.edge(24, "NONE: not so many");
            due("behind the last", x.table(1, 0, size), NONE);
            Check.edge(24, "how much: what the one order of few LEAKS");
            due("how much", x.table(1, 2, -1), size == 1 ? 0 : size == 2 ? 1 : 2);
            text += ",p";
        }
    }

    private static void tableOfLikeOnes() {
        SealedLips x = Check.at("1/30;p0,p1,p2,p3,p4,p5");
        for (int turn = 0; turn < 2; turn++) {
            Check.edge(24, turn == 0 ? "of like ones the first" : "however they sit now");
            due("how much", x.table(1, 2, -1), 12);
            for (int k = 0; k < 6; k++) {
                due("place " + k, x.table(1, 2, k), k);
            }
            x.seats(0, 3);
            x.seats(1, 5);
        }
    }

    /** Neighbours in one round share a thing each: by that round alone, either way about, 12 is the least that leaks. */
    private static void tableOfAllOrders() {
        Check.edge(24, "all orders of the others, rising");
        int orders = 0;
        for (int code = 0; code < 3125; code++) {
            int[] order = {0, 1 + code % 5, 1 + code / 5 % 5, 1 + code / 25 % 5, 1 + code / 125 % 5, 1 + code / 625};
            int set = 0;
            for (int p : order) {
                set |= 1 << p;
            }
            if (set == 63 && order[1] < order[5]) {
                orders++;
                tableOf(order);
            }
        }
        due("orders", orders, 60);
    }

    private static void tableOf(int[] order) {
        SealedLips x = new SealedLips();
        for (int p = 0; p < 6; p++) {
            x.person(0);
        }
        x.rule(0, 1);
        for (int place = 0; place < 6; place++) {
            x.trust(order[place], place);
            x.trust(order[place], (place + 1) % 6);
        }
        due("how much", x.table(1, 2, -1), 12);
        for (int k = 0; k < 6; k++) {
            due("place " + k, x.table(1, 2, k), order[k]);
        }
    }

    private static void tableOfMostAndLeast() {
        Check.edge(24, "how much: all, by any order");
        SealedLips x = Check.at("1/30;p01234567,p,p,p,p,p");
        int[] most = {16, 32, 40, 40};
        for (int n = 1; n <= most.length; n++) {
            due("behind " + n, x.table(n, 2, -1), most[n - 1]);
            due("the second", x.table(n, 2, 1), 1);
        }
        Check.edge(24, "least LEAKS: nothing, behind orders by which 1 LEAKS");
        x = Check.at("1/30;p0,p,f,f");
        due("how much", x.table(20, 9, -1), 0);
        int[] order = {0, 2, 1, 3};
        for (int k = 0; k < 4; k++) {
            due("place " + k, x.table(20, 9, k), order[k]);
        }
    }

    /** From day 8 on told on days 15, 27: behind 8, 20 days; the deaf keeps the third from being told at once. */
    private static void tableOfTwentyDays() {
        Check.edge(24, "n 1 .. 20: the last DAY counts");
        SealedLips x = Check.at("6/4;e,e,e,f0");
        x.days(8, 0);
        x.trust(0, 0);
        due("7", x.table(7, 0, -1), 0);
        due("8", x.table(8, 0, -1), 1);
        due("19", x.table(19, 0, -1), 1);
        due("20", x.table(20, 0, -1), 2);
        Check.edge(24, "of like ones the first, the least not being 0");
        int[] order = {0, 1, 2, 3};
        for (int k = 0; k < 4; k++) {
            due("place " + k, x.table(19, 0, k), order[k]);
            due("place " + k, x.table(20, 0, k), order[k]);
        }
    }

    private static void rivals() {
        Check.edge(25, "one at least");
        SealedLips x = Check.at("5/7;p,p,p,p,p,p");
        due("how many", x.rivals(0), 0);
        due("the first", x.rivals(1), NONE);
        Check.edge(25, "how many: all pairs");
        x = Check.at("5/7;p7,p7,p7,p7,p7,p7");
        due("how many", x.rivals(0), 15);
        Check.edge(25, "the first (10 i and j): 0 and 1");
        due("the first", x.rivals(1), 1);
        Check.edge(25, "the first (10 i and j): 4 and 5");
        x = Check.at("5/7;p0,p1,p2,p3,p67,p67");
        due("how many", x.rivals(0), 1);
        due("the first", x.rivals(1), 45);
        Check.edge(25, "the first (10 i and j): the least i, then the least j");
        x = Check.at("5/7;p0,p1,p2,p2,p1,p0");
        due("how many", x.rivals(0), 3);
        due("the first", x.rivals(1), 5);
        Check.edge(25, "just the same THINGS: one more is not");
        x = Check.at("5/7;p0123456,p01234567,p1234567");
        due("how many", x.rivals(0), 0);
        Check.edge(25, "KNOW: OPEN or not");
        x = Check.at("1/30;p0,d0");
        x.days(1, 9);
        due("how many", x.rivals(0), 1);
        Check.edge(25, "none of nobody, of one");
        due("nobody", new SealedLips().rivals(1), NONE);
        due("one", Check.at("5/7;p0").rivals(1), NONE);
    }

    private static void fromNow() {
        Check.edge(26, "behind 0 DAYS: one alone");
        for (char kind : "pldef".toCharArray()) {
            due("alone", Check.at("5/7;" + kind).from(0, 0, 9), 1);
        }
        Check.edge(26, "behind 0 DAYS: not of two");
        due("two", Check.at("5/7;p0,p0").from(0, 0, 9), 0);
        Check.edge(26, "not behind fewer");
        due("alone", Check.at("5/7;p0").from(0, 1, 9), 0);
        due("two", Check.at("5/7;p0,p0").from(0, 1, 9), 3);
        due("two", Check.at("5/7;p0,p0").from(0, 2, 9), 0);
        due("60", Check.at("5/7;p0,p0").from(0, 60, 9), 0);
        Check.edge(26, "OPEN, by no HEAT, by any WAX");
        due("heat 0", Check.at("9/30;p,p0").from(0, 1, 0), 3);
        Check.edge(26, "nothing else of it being KNOWN");
        due("all knew it", Check.at("9/30;p0,p0,p0,p0,p0,p0").from(0, 3, 0), 63);
        due("the deaf knew it", Check.at("9/30;p0,f0").from(0, 1, 0), 0);
    }

    /** From day 27 on told on days 27, 39, 51, 63; the dumb keeps the row from being a round. */
    private static void fromJustThen() {
        SealedLips x = Check.at("6/4;e,d,e,e,e,e");
        x.days(27, 0);
        Check.edge(26, "behind just n DAYS");
        for (int n = 0; n <= 60; n++) {
            due("behind " + n, x.from(7, n, 0), n == 37 ? 0b000101 : n == 25 ? 0b111000 : 0);
        }
    }
}
