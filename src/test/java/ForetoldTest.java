/** Promises 17 to 28. */
public final class ForetoldTest {
    private static final int BAD = SealedLips.BAD;
    private static final int NONE = SealedLips.NONE;

    private static void due(String call, long got, long want) {
        Check.due(call, got, want);
    }

    public static void main(String[] args) {
        ahead();
        rankAhead();
        leaks();
        out();
        cool();
        thick();
        renew();
        table();
        rivals();
        from();
        image();
        imageHoldsNoSheets();
        nothingIsChanged();
        Check.finish();
    }

    private static void ahead() {
        SealedLips x = Check.at("4/30;p0,p,p,p,p");
        int[] sets = {1, 1, 0b10011, 0b11111, 0b11111};
        for (int n = 0; n < sets.length; n++) {
            due("ahead " + n, x.ahead(0, n, 4), sets[n]);
        }
        due("60", x.ahead(0, 60, 1), 1);
        due("other", x.ahead(1, 60, 9), 0);
        due("thing 8", x.ahead(8, 0, 0), BAD);
        due("thing -1", x.ahead(-1, 0, 0), BAD);
        due("n -1", x.ahead(0, -1, 0), BAD);
        due("n 61", x.ahead(0, 61, 0), BAD);
        due("h -1", x.ahead(0, 0, -1), BAD);
        due("h 10", x.ahead(0, 0, 10), BAD);
        due("nobody", new SealedLips().ahead(0, 60, 9), 0);
    }

    private static void rankAhead() {
        SealedLips x = Check.at("4/5;p01,p2");
        int[] ranks = {2, 2, 0, 0, 0, 3, 3};
        for (int n = 0; n < ranks.length; n++) {
            due("rank " + n, x.rankAhead(0, n, 5), ranks[n]);
        }
        due("60", x.rankAhead(0, 60, 9), 3);
        due("person 2", x.rankAhead(2, 0, 0), BAD);
        due("person -1", x.rankAhead(-1, 0, 0), BAD);
        due("n -1", x.rankAhead(0, -1, 0), BAD);
        due("n 61", x.rankAhead(0, 61, 0), BAD);
        due("h -1", x.rankAhead(0, 0, -1), BAD);
        due("h 10", x.rankAhead(0, 0, 10), BAD);
    }

    private static void leaks() {
        SealedLips x = Check.at("4/30;p01,p2,f");
        due("0", x.leaks(0, 9), 0);
        due("1", x.leaks(1, 7), 0);
        due("1 of 8", x.leaks(1, 8), 3);
        due("60", x.leaks(60, 2), 3);
        due("60", x.leaks(60, 1), 0);
        x.days(1, 9);
        due("from now", x.leaks(60, 9), 0);
        due("n -1", x.leaks(-1, 0), BAD);
        due("n 61", x.leaks(61, 0), BAD);
        due("h -1", x.leaks(0, -1), BAD);
        due("h 10", x.leaks(0, 10), BAD);
    }

    private static void out() {
        // a seal of 9 breaks on day 9, 5, 3, 3 by so much a day; the farthest hears it a day later
        SealedLips x = Check.at("9/30;p0,p,p,p");
        int[] when = {NONE, NONE, 10, 10, 6, 6, 4, 4, 4, 4};
        for (int h = 0; h <= 9; h++) {
            due("out by " + h, x.out(0, h), when[h]);
        }
        due("never", x.out(1, 9), NONE);
        due("now", Check.at("9/30;f0,f0").out(0, 0), 0);
        due("of none", new SealedLips().out(0, 0), NONE);
        due("deaf", Check.at("1/30;p0,f").out(0, 9), NONE);
        // by eaters, told on the last day of each third week alone
        due("late", Check.at("6/4;e0,e,e,e,e,f0").out(0, 0), 40);
        due("thing 8", x.out(8, 0), BAD);
        due("thing -1", x.out(-1, 0), BAD);
        due("h -1", x.out(0, -1), BAD);
        due("h 10", x.out(0, 10), BAD);
    }

    private static void cool() {
        SealedLips x = Check.at("9/30;p0,p");
        for (int n = 1; n <= 30; n++) {
            due("cool " + n, x.cool(n), n < 3 ? 9 : n < 5 ? 5 : n < 9 ? 3 : 1);
        }
        x = Check.at("5/30;l0,p");
        due("laugher", x.cool(4), 1);
        due("laugher", x.cool(5), NONE);
        due("n 0", x.cool(0), BAD);
        due("n 31", x.cool(31), BAD);
        due("nobody", new SealedLips().cool(1), 9);
        due("nobody to hear", Check.at("1/30;e0").cool(30), 9);
    }

    private static void thick() {
        SealedLips x = Check.at("9/30;p0,p");
        int[] wax = {3, 5, 7, 9, NONE, NONE};
        for (int n = 1; n <= wax.length; n++) {
            due("thick " + n, x.thick(n, 4), wax[n - 1]);
        }
        due("renewed so", Check.at("9/2;p0,p").thick(30, 4), 5);
        due("30 days", Check.at("9/30;p0,p").thick(30, 1), 1);
        due("nobody to hear", Check.at("9/30;e0,f").thick(30, 9), 1);
        x = Check.at("1/30;p0,f,p,f");
        x.days(1, 9);
        x.seats(1, 2);
        due("would leak", x.leaks(1, 4), 1);
        due("what is open, too", x.thick(1, 4), 3);
        due("n 0", x.thick(0, 0), BAD);
        due("n 31", x.thick(31, 0), BAD);
        due("h -1", x.thick(1, -1), BAD);
        due("h 10", x.thick(1, 10), BAD);
    }

    private static void renew() {
        SealedLips x = Check.at("4/30;p0,p,f,p0,p,f");
        x.days(1, 4);
        int[] many = {NONE, NONE, 2, 1, 0, 0, 0};
        int[] which = {NONE, NONE, 9, 1, 0, 0, 0};
        for (int k = 0; k <= 6; k++) {
            due("how many " + k, x.renew(0, 1, 4, k, 0), many[k]);
            due("which " + k, x.renew(0, 1, 4, k, 1), which[k]);
        }
        due("now", x.renew(0, 0, 9, 2, 0), 0);
        due("now", x.renew(0, 0, 9, 1, 0), NONE);
        due("not by 60 days", x.renew(0, 60, 4, 3, 0), NONE);
        due("not known", x.renew(1, 60, 9, 0, 1), 0);
        x.rule(0, 1);
        due("by the wax of now", x.renew(0, 1, 4, 3, 0), NONE);
        x = Check.at("4/30;f0,f0,f,p0,p,f");
        x.days(1, 4);
        due("one that leaks", x.renew(0, 1, 4, 3, 1), 8);
        x = Check.at("4/30;p,p0,p0,p0,p0,p0");
        x.days(1, 4);
        due("both beside it", x.renew(0, 1, 4, 5, 1), 0b100010);
        x = Check.at("4/30;p,f,p0,f0,f0,p0");
        x.days(1, 4);
        due("the last one alone", x.renew(0, 1, 4, 4, 1), 32);
        due("thing 8", x.renew(8, 0, 0, 0, 0), BAD);
        due("thing -1", x.renew(-1, 0, 0, 0, 0), BAD);
        due("n -1", x.renew(0, -1, 0, 0, 0), BAD);
        due("n 61", x.renew(0, 61, 0, 0, 0), BAD);
        due("h -1", x.renew(0, 0, -1, 0, 0), BAD);
        due("h 10", x.renew(0, 0, 10, 0, 0), BAD);
        due("k -1", x.renew(0, 0, 0, -1, 0), BAD);
        due("k 7", x.renew(0, 0, 0, 7, 0), BAD);
        due("what -1", x.renew(0, 0, 0, 0, -1), BAD);
        due("what 2", x.renew(0, 0, 0, 0, 2), BAD);
    }

    private static void table() {
        SealedLips x = Check.at("5/30;p0,p,f,f");
        int[] places = {0, 2, 1, 3, NONE, NONE};
        for (int turn = 0; turn < 2; turn++) {
            due("least", x.table(20, 9, -1), 0);
            for (int k = 0; k < places.length; k++) {
                due("place " + k, x.table(20, 9, k), places[k]);
            }
            // all orders are tried, however they sit now
            x.seats(0, 3);
            x.seats(1, 0);
        }
        due("most", x.table(1, 0, Integer.MAX_VALUE), NONE);
        due("n 0", x.table(0, 0, 0), BAD);
        due("n 21", x.table(21, 0, 0), BAD);
        due("h -1", x.table(1, -1, 0), BAD);
        due("h 10", x.table(1, 10, 0), BAD);
        due("k -2", x.table(1, 0, -2), BAD);
        due("BAD ahead of NONE", x.table(0, 0, 9), BAD);
        due("nobody", new SealedLips().table(1, 0, -1), 0);
        due("nobody", new SealedLips().table(1, 0, 0), NONE);
        // both tell two, however they sit: of like orders the first
        x = Check.at("1/30;p0,p,p,p,p,p1");
        due("like ones", x.table(1, 2, -1), 4);
        for (int k = 0; k < 6; k++) {
            due("place " + k, x.table(1, 2, k), k);
        }
    }

    private static void rivals() {
        SealedLips x = Check.at("5/7;p01,p2,p01,p,p,p2");
        due("pairs", x.rivals(0), 2);
        due("first", x.rivals(1), 2);
        x = Check.at("5/7;p,p3,p3,p3");
        due("pairs", x.rivals(0), 3);
        due("first", x.rivals(1), 12);
        x = Check.at("5/7;p,p,p3,p37");
        due("none", x.rivals(0), 0);
        due("none", x.rivals(1), NONE);
        due("what -1", x.rivals(-1), BAD);
        due("what 2", x.rivals(2), BAD);
    }

    private static void from() {
        SealedLips x = Check.at("5/30;p,p,p,p,p");
        due("1", x.from(0, 1, 0), 0);
        due("2", x.from(0, 2, 0), 31);
        due("3: behind fewer", x.from(0, 3, 0), 0);
        x = Check.at("5/30;p0,p0,p0");
        due("alone", x.from(0, 0, 0), 0);
        due("alone", x.from(0, 1, 9), 7);
        due("another thing", x.from(1, 1, 9), 7);
        due("who knew it had no seal", Check.at("5/30;p0,p0,p0,p0,p0").from(0, 2, 0), 31);
        due("one alone", Check.at("5/30;d0").from(0, 0, 0), 1);
        x = Check.at("5/30;p,d,p");
        due("dumb", x.from(0, 1, 0), 5);
        due("deaf", Check.at("5/30;p,f,p").from(0, 1, 9), 0);
        due("from the deaf", Check.at("5/30;f,f").from(0, 1, 9), 0);
        // the day ahead of a renewal it is told once, then no more
        x = Check.at("5/7;p,p,p,p,p");
        x.days(6, 0);
        due("renewed", x.from(0, 2, 1), 0);
        due("renewed, weak", x.from(0, 4, 4), 31);
        due("a week on", x.from(0, 60, 1), 0);
        due("thing 8", x.from(8, 0, 0), BAD);
        due("thing -1", x.from(-1, 0, 0), BAD);
        due("n -1", x.from(0, -1, 0), BAD);
        due("n 61", x.from(0, 61, 0), BAD);
        due("h -1", x.from(0, 0, -1), BAD);
        due("h 10", x.from(0, 0, 10), BAD);
    }

    private static void image() {
        SealedLips x = Check.at("4/6;p0,l1,e2");
        due("none", x.restore(), NONE);
        x.seats(0, 1);
        x.drift(2);
        x.trust(0, 5);
        due("image", x.image(), 1);
        int known = x.count(4);
        int draw = x.seed(9);
        int strength = x.strength(0, 0);
        Check.court(x, "9/30;f,f,f,f,f");
        x.days(3, 3);
        for (int turn = 0; turn < 2; turn++) {
            due("restore", x.restore(), 1);
            due("persons", x.count(0), 3);
            due("kind", x.of(2, 0), 3);
            due("day", x.count(1), 2);
            due("wax", x.count(2), 4);
            due("week", x.count(3), 6);
            due("known", x.count(4), known);
            due("strength", x.strength(0, 0), strength);
            due("seats", x.of(1, 4), 0);
            due("undone", x.count(8), 3);
            due("draw", x.seed(5), draw);
            due("undo", x.undo(), 2);
            due("undo", x.undo(), 1);
            due("undo", x.undo(), 0);
            due("draw at first", x.seed(5), 1);
            due("nobody told", x.count(4), 3);
            x.days(9, 9);
            x.person(2);
        }
        x = Check.at("9/30;p,p,p,p,p,p0");
        x.days(8, 2);
        x.image();
        x.days(8, 9);
        x.restore();
        for (int left = 7; left >= 0; left--) {
            due("undo", x.undo(), left);
            due("strength", x.strength(5, 0), 9 - left);
            due("day", x.count(1), left);
            due("known", x.known(0), 32);
        }
        x = new SealedLips();
        x.image();
        x.person(0);
        due("nobody", x.restore(), 1);
        due("nobody", x.count(0), 0);
        due("a new first", x.person(4), 0);
    }

    private static void imageHoldsNoSheets() {
        SealedLips x = new SealedLips();
        x.sheet(0, 0, 3);
        x.type('5');
        x.image();
        x.drop(0);
        x.sheet(1, 2, 7);
        x.type('/');
        x.restore();
        due("sheet 0", x.drop(0), SealedLips.NULL);
        due("sheet 1", x.drop(1), 7);
        due("tape", x.type('7'), 3);
    }

    private static void nothingIsChanged() {
        SealedLips x = Check.at("3/6;p0,l12,e3,d4,f5,p");
        x.days(2, 3);
        x.seats(2, 4);
        x.sheet(0, 1, 24);
        int[] ahead = state(x);
        x.ahead(0, 60, 9);
        x.rankAhead(0, 60, 9);
        x.leaks(60, 9);
        x.out(0, 9);
        x.cool(30);
        x.thick(30, 9);
        x.renew(0, 60, 9, 0, 0);
        x.table(20, 9, -1);
        x.rivals(0);
        x.from(0, 60, 9);
        x.image();
        x.told(0, 0, 1, 0, 6);
        x.film(0, 24, 9, 0, 1, 0);
        int[] behind = state(x);
        for (int i = 0; i < ahead.length; i++) {
            due("state " + i, behind[i], ahead[i]);
        }
    }

    private static int[] state(SealedLips x) {
        int[] all = new int[9 + 6 * 6 + 6 * 8 + 1];
        int at = 0;
        for (int what = 0; what < 9; what++) {
            all[at++] = x.count(what);
        }
        for (int p = 0; p < 6; p++) {
            for (int what = 0; what < 6; what++) {
                all[at++] = x.of(p, what);
            }
            for (int t = 0; t < 8; t++) {
                all[at++] = x.strength(p, t);
            }
        }
        all[at] = x.seed(1);
        x.seed(all[at]);
        return all;
    }
}
