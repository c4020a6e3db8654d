/** Boundary cases of what is done: trusted, sealed, undone, drawn; of images, too. */
public final class EdgesDoneTest {
    private static void due(String call, long got, long want) {
        Check.due(call, got, want);
    }

    public static void main(String[] args) {
        trustsOfAllThings();
        sealsOfAllStrengths();
        eightTrusts();
        eightSeals();
        eightDays();
        eightDaysOfADrift();
        stepsInARing();
        undoneOverARenewal();
        undoneByTheLawsOfNow();
        nothingToBeUndone();
        refusedIsNoStep();
        drawOf31Bits();
        draws();
        drawsUndone();
        manyDays();
        imageOfNobody();
        imageOfEightSteps();
        imageOfWhatWasKnown();
        imageAnew();
        imageOverCourts();
        imageHoldsNoSheet();
        Check.allNamed(11, 16);
        Check.allNamed(27, 28);
        Check.finish();
    }

    private static void trustsOfAllThings() {
        Check.edge(11, "SEALED by WAX: 1 .. 9");
        for (int wax = 1; wax <= 9; wax++) {
            SealedLips x = Check.at("5/7;p,p,p,p,p,f");
            x.rule(0, wax);
            for (int thing = 0; thing < 8; thing++) {
                due("rank", x.trust(5, thing), thing + 1);
                due("strength", x.strength(5, thing), wax);
                due("who", x.known(thing), 32);
            }
            due("the others", x.count(4), 8);
        }
    }

    private static void sealsOfAllStrengths() {
        Check.edge(12, "a SEAL is of STRENGTH WAX: what it was (0 .. 9)");
        for (int was = 0; was <= 9; was++) {
            for (int wax = 1; wax <= 9; wax++) {
                SealedLips x = Check.at("9/30;l07");
                if (was < 9) {
                    x.days(9 - was, 0);
                }
                x.rule(0, wax);
                due("was", x.seal(0, 7), was);
                due("is", x.strength(0, 7), wax);
                due("another", x.strength(0, 0), was);
            }
        }
    }

    private static void eightTrusts() {
        Check.edge(15, "8 are known, older ones lost: TRUSTED");
        SealedLips x = Check.at("5/7;p,p");
        for (int step = 1; step <= 9; step++) {
            x.trust(step / 9, step % 8);
            due("may be UNDONE", x.count(8), Math.min(step, 8));
        }
        for (int left = 7; left >= 0; left--) {
            due("undo", x.undo(), left);
            due("times known", x.count(4), left + 1);
        }
        due("undo", x.undo(), SealedLips.NONE);
        due("the first is not UNDONE", x.strength(0, 1), 5);
    }

    private static void eightSeals() {
        Check.edge(15, "8 are known, older ones lost: SEALED");
        SealedLips x = Check.at("9/7;p0");
        for (int wax = 1; wax <= 9; wax++) {
            x.rule(0, wax);
            x.seal(0, 0);
        }
        due("may be UNDONE", x.count(8), 8);
        for (int left = 7; left >= 0; left--) {
            due("undo", x.undo(), left);
            due("strength", x.strength(0, 0), left + 1);
        }
        due("undo", x.undo(), SealedLips.NONE);
        due("strength", x.strength(0, 0), 1);
    }

    private static void eightDays() {
        Check.edge(15, "8 are known, older ones lost: DAYS, each by itself");
        for (int n = 1; n <= 40; n++) {
            SealedLips x = Check.at("9/30;p0,p");
            x.days(n, 2);
            int steps = Math.min(n, 8);
            due("may be UNDONE", x.count(8), steps);
            for (int left = steps - 1; left >= 0; left--) {
                due("undo", x.undo(), left);
                int day = n - steps + left;
                due("day", x.count(1), day);
                due("strength", x.strength(0, 0), day >= 30 ? 9 - (day - 30) : Math.max(0, 9 - day));
                due("known", x.known(0), day >= 9 ? 3 : 1);
            }
            due("undo", x.undo(), SealedLips.NONE);
        }
    }

    private static void eightDaysOfADrift() {
        Check.edge(15, "8 are known, older ones lost: DAYS of a DRIFT");
        SealedLips x = Check.at("9/30;p0,p");
        x.drift(9);
        due("may be UNDONE", x.count(8), 8);
        for (int left = 7; left >= 0; left--) {
            due("undo", x.undo(), left);
            due("day", x.count(1), left + 1);
        }
        due("undo", x.undo(), SealedLips.NONE);
        due("draw ahead of the second", x.seed(0), 1103527590);
    }

    /** Steps come and go; the day tells which they were. */
    private static void stepsInARing() {
        Check.edge(15, "the latest first, behind others that were UNDONE");
        for (int first = 1; first <= 20; first++) {
            for (int back = 0; back <= Math.min(first, 8); back++) {
                SealedLips x = Check.at("9/30;p0");
                x.days(first, 0);
                for (int i = 0; i < back; i++) {
                    x.undo();
                }
                x.days(3, 0);
                int steps = Math.min(8, Math.min(8, first) - back + 3);
                due("may be UNDONE", x.count(8), steps);
                for (int left = steps - 1; left >= 0; left--) {
                    due("undo", x.undo(), left);
                    due("day", x.count(1), first - back + 3 - (steps - left));
                }
                due("undo", x.undo(), SealedLips.NONE);
            }
        }
    }

    private static void undoneOverARenewal() {
        Check.edge(15, "a DAY with its renewal is as it had not been");
        SealedLips x = Check.at("6/4;e0,p,f");
        x.days(4, 0);
        due("told, renewed", x.strength(1, 0), 6);
        due("undo", x.undo(), 3);
        due("not told", x.strength(1, 0), SealedLips.NONE);
        due("not renewed", x.strength(0, 0), 2);
        due("day", x.count(1), 3);
        due("to the renewal", x.count(7), 1);
        due("again", x.days(1, 0), 2);
    }

    private static void undoneByTheLawsOfNow() {
        SealedLips x = Check.at("5/7;p0,p,p");
        x.trust(1, 1);
        x.rule(0, 9);
        x.rule(1, 2);
        x.seats(0, 2);
        x.seed(4);
        due("undo", x.undo(), 0);
        Check.edge(15, "what all KNOW");
        due("known", x.known(1), 0);
        Check.edge(15, "seats, too, stay");
        due("behind 0", x.of(0, 4), 2);
        due("behind 2", x.of(2, 4), 1);
        Check.edge(15, "WAX, WEEK stay");
        due("wax", x.count(2), 9);
        due("week", x.count(3), 2);
        Check.edge(15, "THE DRAW is as ahead of it");
        due("draw", x.seed(8), 1);
        Check.edge(15, "an IMAGE stays");
        x.image();
        x.trust(2, 2);
        x.undo();
        x.days(1, 0);
        due("restore", x.restore(), 1);
        due("day", x.count(1), 0);
    }

    private static void nothingToBeUndone() {
        Check.edge(15, "a new PERSON leaves nothing to be UNDONE");
        SealedLips x = Check.at("5/7;p0");
        x.days(8, 0);
        due("person", x.person(0), 1);
        due("may be UNDONE", x.count(8), 0);
        due("undo", x.undo(), SealedLips.NONE);
        due("day", x.count(1), 8);
        x.trust(1, 0);
        due("what comes then may be", x.undo(), 0);
        Check.edge(15, "a COURT leaves nothing to be UNDONE");
        x.days(8, 0);
        due("court", Check.court(x, "5/7;p0"), 1);
        due("may be UNDONE", x.count(8), 0);
        due("undo", x.undo(), SealedLips.NONE);
        due("day", x.count(1), 0);
    }

    private static void refusedIsNoStep() {
        SealedLips x = Check.at("5/7;p0,p,p,p,p,p");
        x.days(3, 0);
        Check.edge(15, "what is refused leaves what may be UNDONE");
        due("a seventh PERSON", x.person(0), SealedLips.FULL);
        due("a COURT", Check.court(x, "5/7;p,"), -26);
        due("TRUSTED", x.trust(0, 0), SealedLips.NOT);
        due("SEALED", x.seal(1, 0), SealedLips.NOT);
        due("may be UNDONE", x.count(8), 3);
        Check.edge(15, "seats, rules, a seed, an IMAGE are no step");
        x.seats(0, 1);
        x.rule(0, 3);
        x.rule(1, 3);
        x.seed(3);
        x.image();
        due("may be UNDONE", x.count(8), 3);
    }

    private static long next(long draw) {
        return (draw * 1103515245L + 12345L) & 0x7fffffffL;
    }

    private static void drawOf31Bits() {
        int[] seeds = {0, 1, 65535, 65536, 655359, 655360, 0x3fffffff, 0x40000000, 0x7ffffffe, 0x7fffffff};
        for (int seed : seeds) {
            SealedLips x = Check.at("9/30;p0");
            Check.edge(16, "THE DRAW becomes v: what it was");
            due("was", x.seed(seed), 1);
            due("is", x.seed(seed), seed);
            Check.edge(14, "the lowest 31 bits of itself times 1103515245 and 12345 more");
            x.drift(1);
            long draw = next(seed);
            due("strength", x.strength(0, 0), 9 - draw / 65536 % 10 / 2);
            due("draw", x.seed(0), draw);
        }
        Check.edge(16, "BAD: below 0");
        SealedLips x = new SealedLips();
        due("-1", x.seed(-1), SealedLips.BAD);
        due("least", x.seed(Integer.MIN_VALUE), SealedLips.BAD);
        due("stays", x.seed(0), 1);
    }

    private static void draws() {
        Check.edge(14, "ahead of each DAY it becomes another, n times");
        for (int n = 1; n <= 40; n++) {
            SealedLips x = Check.at("9/30;p0,p");
            x.drift(n);
            long draw = 1;
            for (int d = 0; d < n; d++) {
                draw = next(draw);
            }
            due("draw behind " + n, x.seed(0), draw);
            due("day", x.count(1), n);
        }
        Check.edge(14, "it by 65536, left over by 10, is the HEAT");
        SealedLips x = Check.at("9/2;l0");
        long draw = 1;
        for (int d = 0; d < 120; d++) {
            draw = next(draw);
            x.seal(0, 0);
            x.drift(1);
            due("day " + d, x.strength(0, 0), d % 2 == 1 ? 9 : 9 - draw / 65536 % 10 / 2 - 1);
        }
        Check.edge(13, "DAYS that are no DRIFT leave THE DRAW");
        x.days(40, 9);
        due("draw", x.seed(0), draw);
        Check.edge(9, "THE DRAW stays");
        x.seed(123456789);
        Check.court(x, "1/2;p");
        due("draw", x.seed(0), 123456789);
    }

    private static void drawsUndone() {
        Check.edge(15, "THE DRAW is as ahead of it: a DAY of a DRIFT");
        SealedLips x = Check.at("9/30;p0,p");
        x.seed(99);
        x.drift(2);
        x.undo();
        due("behind the first", x.seed(5), next(99));
        x.undo();
        due("ahead of both", x.seed(5), 99);
        Check.edge(15, "THE DRAW is as ahead of it, whatever was told since");
        x.seed(7);
        x.days(1, 0);
        x.seed(8);
        x.trust(0, 1);
        x.seed(9);
        x.seal(0, 1);
        x.seed(10);
        int[] draws = {9, 8, 7};
        for (int draw : draws) {
            x.undo();
            int was = x.seed(0);
            due("draw", was, draw);
            x.seed(was);
        }
    }

    private static void manyDays() {
        Check.edge(13, "n DAYS (1 .. 40): as n times a DAY");
        for (int n = 1; n <= 40; n++) {
            SealedLips x = Check.at("8/5;e01,p,l2,d,p3");
            SealedLips y = Check.at("8/5;e01,p,l2,d,p3");
            int last = 0;
            for (int d = 0; d < n; d++) {
                last = y.days(1, 1);
            }
            due("answer of " + n, x.days(n, 1), last);
            due("day", x.count(1), n);
            for (int thing = 0; thing < 8; thing++) {
                due("known", x.known(thing), y.known(thing));
                due("strength", x.strength(0, thing), y.strength(0, thing));
                due("strength", x.strength(1, thing), y.strength(1, thing));
            }
        }
    }

    private static void imageOfNobody() {
        Check.edge(27, "an IMAGE of a court of nobody");
        SealedLips x = new SealedLips();
        due("image", x.image(), 1);
        Check.court(x, "9/30;p0,p1");
        x.days(3, 9);
        x.seed(9);
        Check.edge(28, "All is as it was then: nobody");
        due("restore", x.restore(), 1);
        int[] first = {0, 0, 5, 7, 0, 0, 0, 7, 0};
        for (int what = 0; what < first.length; what++) {
            due("count " + what, x.count(what), first[what]);
        }
        due("draw", x.seed(1), 1);
        due("undo", x.undo(), SealedLips.NONE);
        due("person", x.person(4), 0);
        due("knows", x.of(0, 1), 0);
    }

    private static void imageOfEightSteps() {
        Check.edge(28, "8 steps may be UNDONE as then");
        SealedLips x = Check.at("9/30;p0,p,p,p,p,p7");
        x.days(9, 2);
        x.image();
        x.days(5, 9);
        due("restore", x.restore(), 1);
        due("may be UNDONE", x.count(8), 8);
        for (int turn = 0; turn < 2; turn++) {
            for (int left = 7; left >= 0; left--) {
                due("undo", x.undo(), left);
                due("day", x.count(1), left + 1);
                due("strength", x.strength(5, 7), 8 - left);
            }
            due("undo", x.undo(), SealedLips.NONE);
            due("restore again", x.restore(), 1);
        }
        Check.edge(28, "steps since are lost");
        x = Check.at("9/30;p0");
        x.image();
        x.days(3, 0);
        x.restore();
        due("may be UNDONE", x.count(8), 0);
        due("undo", x.undo(), SealedLips.NONE);
    }

    /** All six come to know a thing each, by draws of their own, ahead of the image; other steps since. */
    private static void imageOfWhatWasKnown() {
        Check.edge(28, "what all KNOW, STRENGTHS, THE DRAW, UNDONE as then");
        SealedLips x = Check.at("5/7;p,p,p,p,p,p");
        for (int step = 0; step < 8; step++) {
            x.seed(100 + step);
            x.rule(0, step + 1);
            x.trust(step % 6, step);
        }
        x.image();
        for (int step = 0; step < 8; step++) {
            x.seed(200 + step);
            x.trust(step % 6, (step + 1) % 8);
        }
        x.restore();
        for (int step = 7; step >= 0; step--) {
            due("strength", x.strength(step % 6, step), step + 1);
            due("undo", x.undo(), step);
            due("known", x.known(step), 0);
            due("times known", x.count(4), step);
            due("draw", x.seed(0), 100 + step);
        }
    }

    private static void imageAnew() {
        Check.edge(27, "an IMAGE in place of an older one");
        SealedLips x = Check.at("9/30;p0");
        x.image();
        x.days(1, 0);
        due("image", x.image(), 1);
        x.days(1, 0);
        x.restore();
        due("day", x.count(1), 1);
        x.restore();
        due("day", x.count(1), 1);
    }

    private static void imageOverCourts() {
        Check.edge(28, "of more PERSONS, of fewer");
        SealedLips x = Check.at("3/4;p0,l1,d2,e3,f4,p5");
        x.seats(0, 5);
        x.image();
        Check.court(x, "9/30;f");
        x.restore();
        due("persons", x.count(0), 6);
        for (int p = 0; p < 6; p++) {
            due("kind", x.of(p, 0), p % 5);
            due("knows", x.of(p, 1), 1 << p);
            due("strength", x.strength(p, p), 3);
        }
        due("behind 5", x.of(5, 4), 1);
        due("behind 4", x.of(4, 4), 0);
        due("wax", x.count(2), 3);
        due("week", x.count(3), 4);
        Check.court(x, "9/30;f0");
        x.image();
        Check.court(x, "3/4;p0,l1,d2,e3,f4,p5");
        x.restore();
        due("persons", x.count(0), 1);
        due("times known", x.count(4), 1);
        due("behind 0", x.of(0, 4), 0);
        due("person 1", x.of(1, 0), SealedLips.BAD);
    }

    private static void imageHoldsNoSheet() {
        Check.edge(27, "All but SHEETS, THE TAPE");
        SealedLips x = new SealedLips();
        x.sheet(0, 0, 3);
        x.type('5');
        due("image", x.image(), 1);
        x.drop(0);
        x.sheet(1, 2, 7);
        x.type('/');
        Check.edge(28, "All but SHEETS, THE TAPE");
        due("restore", x.restore(), 1);
        due("sheet 0", x.drop(0), SealedLips.NULL);
        due("sheet 1", x.drop(1), 7);
        due("tape", x.type('7'), 3);
        due("restore", x.restore(), 1);
        due("tape", x.court(), -23);
    }
}
