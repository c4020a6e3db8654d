import java.util.Arrays;
import java.util.List;

/** NOT, FULL, NONE, NULL, CAST, INDEX, SIZE, each with what comes ahead of it; what is refused changes nothing. */
public final class EdgesRefusedTest {
    private static final int BAD = SealedLips.BAD;
    private static final int NOT = SealedLips.NOT;
    private static final int FULL = SealedLips.FULL;
    private static final int NONE = SealedLips.NONE;
    private static final int NULL = SealedLips.NULL;
    private static final int CAST = SealedLips.CAST;
    private static final int INDEX = SealedLips.INDEX;
    private static final int SIZE = SealedLips.SIZE;
    private static final List<Integer> UNTOUCHED = Scene.all(Scene.lively());

    public static void main(String[] args) {
        alike();
        known();
        fullOfPersons();
        fullTape();
        lastDay();
        none();
        noneOfTable();
        missing();
        anotherLane();
        outside();
        sizes();
        faultyCourt();
        Check.finish();
    }

    /** On a lively scene, which stays as it was. */
    private static void refused(int code, String name, long... arguments) {
        SealedLips x = Scene.lively();
        Check.due(name + Arrays.toString(arguments), Scene.call(x, name, arguments), code);
        Check.due(name + Arrays.toString(arguments) + " changed nothing,", Scene.all(x).equals(UNTOUCHED) ? 1 : 0, 1);
    }

    private static void alike() {
        Check.edge(6, "BAD: alike, too");
        for (int p = 0; p < 4; p++) {
            refused(BAD, "seats", p, p);
        }
        refused(BAD, "seats", 4, 4);
        refused(BAD, "seats", -1, -1);
    }

    private static void known() {
        Check.edge(11, "NOT: it KNOWS it");
        refused(NOT, "trust", 0, 0);
        refused(NOT, "trust", 3, 7);
        Check.edge(11, "NOT: it KNOWS it, OPEN, too");
        SealedLips x = Check.at("1/30;p0,p");
        x.days(1, 9);
        Check.due("trust", x.trust(1, 0), NOT);
        Check.due("strength", x.strength(1, 0), 0);
        Check.due("steps", x.count(8), 1);
        Check.edge(12, "NOT: it does not KNOW it");
        refused(NOT, "seal", 0, 7);
        refused(NOT, "seal", 2, 0);
        Check.edge(4, "NONE: it does not KNOW it");
        refused(NONE, "strength", 0, 7);
        refused(NONE, "strength", 3, 0);
        Check.edge(11, "BAD ahead of NOT");
        refused(BAD, "trust", 4, 0);
        refused(BAD, "trust", 0, 8);
        Check.edge(12, "BAD ahead of NOT");
        refused(BAD, "seal", 4, 7);
        refused(BAD, "seal", 0, 8);
        Check.edge(4, "BAD, not NONE");
        refused(BAD, "strength", 4, 0);
        refused(BAD, "strength", 0, 8);
    }

    private static void fullOfPersons() {
        Check.edge(2, "FULL: 6");
        SealedLips x = Check.at("5/7;p,p,p,p,p");
        Check.due("the sixth", x.person(0), 5);
        x.trust(5, 7);
        Check.due("a seventh", x.person(0), FULL);
        Check.due("persons", x.count(0), 6);
        Check.due("may be UNDONE", x.count(8), 1);
        Check.due("behind the sixth", x.of(5, 4), 0);
        Check.edge(2, "BAD ahead of FULL");
        Check.due("kind 5", x.person(5), BAD);
        Check.due("kind -1", x.person(-1), BAD);
    }

    private static void fullTape() {
        Check.edge(8, "FULL: 70");
        SealedLips x = new SealedLips();
        Check.type(x, "5/7;p0123456,l" + " ".repeat(55));
        Check.due("the 70th", x.type('7'), 70);
        Check.due("the 71st", x.type('6'), FULL);
        Check.due("the 71st again", x.type(' '), FULL);
        Check.edge(8, "BAD ahead of FULL");
        Check.due("31", x.type(31), BAD);
        Check.due("127", x.type(127), BAD);
        Check.edge(8, "FULL changes nothing");
        Check.due("court", x.court(), 2);
        Check.due("of the 70th letter", x.of(1, 1), 128);
    }

    private static void lastDay() {
        SealedLips x = Check.at("5/7;p0,p");
        for (int i = 0; i < 249; i++) {
            x.days(40, 0);
        }
        x.days(38, 0);
        Check.edge(13, "FULL: the DAY would be above 9999");
        Check.due("2 days", x.days(2, 0), FULL);
        Check.due("40 days", x.days(40, 9), FULL);
        Check.due("day", x.count(1), 9998);
        Check.due("strength", x.strength(0, 0), 5);
        Check.edge(14, "FULL: likewise");
        Check.due("2 days", x.drift(2), FULL);
        Check.due("40 days", x.drift(40), FULL);
        Check.due("draw", x.seed(1), 1);
        Check.edge(14, "the DAY is 9999 then");
        Check.due("a day", x.drift(1), 1);
        Check.due("day", x.count(1), 9999);
        Check.due("undo", x.undo(), 7);
        Check.edge(13, "the DAY is 9999 then");
        Check.due("a day", x.days(1, 0), 1);
        Check.due("day", x.count(1), 9999);
        Check.due("a day more", x.days(1, 0), FULL);
        Check.edge(13, "BAD ahead of FULL");
        Check.due("n 0", x.days(0, 0), BAD);
        Check.due("n 41", x.days(41, 0), BAD);
        Check.due("heat 10", x.days(1, 10), BAD);
        Check.edge(14, "BAD ahead of FULL");
        Check.due("n 0", x.drift(0), BAD);
        Check.due("n 41", x.drift(41), BAD);
        Check.edge(19, "FORETOLD from now: no DAY is too late");
        Check.due("leaks", x.leaks(60, 9), 1);
        Check.due("day", x.count(1), 9999);
    }

    private static void none() {
        Check.edge(15, "NONE: none is known");
        SealedLips x = Check.at("5/7;p0");
        Check.due("undo", x.undo(), NONE);
        Check.due("known", x.of(0, 1), 1);
        Check.due("may be UNDONE", x.count(8), 0);
        Check.edge(28, "NONE: there is none");
        Check.due("restore", x.restore(), NONE);
        Check.due("known", x.of(0, 1), 1);
        x.trust(0, 1);
        Check.due("restore", x.restore(), NONE);
        Check.due("may be UNDONE", x.count(8), 1);
        Check.edge(25, "the first (1; NONE)");
        refused(NONE, "rivals", 1);
        Check.edge(20, "WHEN; NONE");
        refused(NONE, "out", 6, 9);
        Check.edge(23, "RENEW: NONE");
        refused(NONE, "renew", 4, 0, 0, 0, 0);
        refused(NONE, "renew", 4, 0, 0, 0, 1);
    }

    private static void noneOfTable() {
        Check.edge(24, "NONE: not so many");
        refused(NONE, "table", 1, 0, 4);
        refused(NONE, "table", 1, 0, Integer.MAX_VALUE);
        Check.edge(24, "BAD: n, HEAT, however great k is");
        refused(BAD, "table", 0, 0, 4);
        refused(BAD, "table", 21, 0, 4);
        refused(BAD, "table", 1, 10, 4);
    }

    private static void missing() {
        Check.edge(29, "NULL behind BAD, ahead of INDEX");
        refused(NULL, "told", 0, 2, 0, 0, 1);
        refused(NULL, "told", 0, 2, 3, 99, 6);
        refused(BAD, "told", 0, 2, 0, 0, 7);
        Check.edge(30, "NULL behind BAD, ahead of INDEX");
        refused(NULL, "film", 0, 1, 0, 2, 0, 0);
        refused(NULL, "film", 0, 24, 0, 2, 3, 99);
        refused(BAD, "film", 0, 25, 0, 2, 0, 0);
        Check.edge(32, "NULL");
        refused(NULL, "drop", 2);
        Check.edge(33, "NULL behind BAD, ahead of INDEX");
        refused(NULL, "item", 2, 0, 0, 1);
        refused(NULL, "item", 2, 3, -1, 1);
        refused(BAD, "item", 2, 4, 0, 1);
        Check.edge(34, "NULL (either)");
        refused(NULL, "copy", 2, 0, 0, 0, 1);
        refused(NULL, "copy", 0, 0, 2, 0, 1);
        refused(NULL, "copy", 2, 0, 2, 0, 0);
        Check.edge(34, "NULL behind BAD, ahead of INDEX");
        refused(NULL, "copy", 2, -1, 0, -1, -1);
        refused(NULL, "copy", 0, 99, 2, 99, 99);
        refused(BAD, "copy", 2, 0, 4, 0, 1);
        refused(BAD, "copy", -1, 0, 2, 0, 1);
    }

    private static void anotherLane() {
        for (int lane = 0; lane < 4; lane++) {
            if (lane != 3) {
                Check.edge(29, "CAST ahead of INDEX");
                refused(CAST, "told", 0, 3, lane, 0, 1);
                refused(CAST, "told", 0, 3, lane, 24, 6);
                Check.edge(30, "CAST ahead of INDEX");
                refused(CAST, "film", 0, 1, 0, 3, lane, 0);
                refused(CAST, "film", 0, 24, 0, 3, lane, 1);
                Check.edge(33, "CAST ahead of INDEX");
                refused(CAST, "item", 3, lane, 0, 1);
                refused(CAST, "item", 3, lane, 24, 1);
            }
        }
        Check.edge(33, "CAST of a row of no items, too");
        refused(CAST, "item", 1, 0, 0, 1);
        Check.edge(34, "CAST: of unlike LANES, ahead of INDEX");
        refused(CAST, "copy", 0, 0, 3, 0, 1);
        refused(CAST, "copy", 3, 0, 0, 0, 1);
        refused(CAST, "copy", 0, 99, 3, -1, -1);
        Check.edge(34, "CAST, though nothing is to be copied");
        refused(CAST, "copy", 0, 0, 1, 0, 0);
    }

    private static void outside() {
        Check.edge(29, "INDEX: the last of n items");
        refused(INDEX, "told", 0, 0, 0, 0, 5);
        refused(INDEX, "told", 0, 0, 0, 4, 1);
        refused(INDEX, "told", 0, 0, 0, Integer.MAX_VALUE, 6);
        refused(INDEX, "told", 0, 1, 1, 0, 1);
        Check.edge(30, "INDEX: the last of n items");
        refused(INDEX, "film", 0, 5, 9, 0, 0, 0);
        refused(INDEX, "film", 0, 4, 9, 0, 0, 1);
        refused(INDEX, "film", 0, 24, 9, 3, 3, 1);
        refused(INDEX, "film", 0, 24, 9, 3, 3, Integer.MAX_VALUE);
        refused(INDEX, "film", 0, 1, 9, 1, 1, 0);
        Check.edge(33, "INDEX of a row of no items");
        refused(INDEX, "item", 1, 1, 0, 1);
        Check.edge(34, "INDEX: the last of n items, of either");
        refused(INDEX, "copy", 3, 20, 3, 0, 5);
        refused(INDEX, "copy", 3, 0, 3, 20, 5);
        refused(INDEX, "copy", 3, 24, 3, 0, 1);
        refused(INDEX, "copy", 3, Integer.MAX_VALUE, 3, 0, Integer.MAX_VALUE);
        Check.edge(34, "INDEX: no item, but outside");
        refused(INDEX, "copy", 3, 25, 3, 0, 0);
        refused(INDEX, "copy", 3, 0, 3, 25, 0);
        refused(INDEX, "copy", 3, -1, 3, 0, 0);
        refused(INDEX, "copy", 3, 0, 3, -1, 0);
        refused(INDEX, "copy", 3, 5, 3, 5, -1);
    }

    private static void sizes() {
        Check.edge(31, "BAD ahead of SIZE");
        refused(BAD, "sheet", 4, 0, -1);
        refused(BAD, "sheet", -1, 0, -1);
        refused(BAD, "sheet", 0, 4, -1);
        refused(BAD, "sheet", 0, -1, -1);
        Check.edge(31, "SIZE: n below 0, of a missing SHEET, too");
        refused(SIZE, "sheet", 2, 3, -1);
        refused(BAD, "sheet", 2, 3, 25);
    }

    private static void faultyCourt() {
        Check.edge(9, "A FAULT (all else stays), THE TAPE is empty then");
        SealedLips x = Scene.lively();
        Check.due("court", x.court(), -23);
        Check.due("again", x.court(), -20);
        Check.type(x, "9/30;l7,l7,l7,l7,l7,l7;");
        Check.due("court", x.court(), -42);
        Check.due("the first letter", x.type('5'), 1);
        Check.type(x, "/7");
        Check.due("changed nothing,", Scene.all(x).equals(UNTOUCHED) ? 1 : 0, 1);
    }
}
