import java.util.Arrays;
import java.util.List;

/** Each number that a call takes: the least and the most that are taken, the next ones that are refused and change nothing. */
public final class EdgesRangesTest {
    private static final int BAD = SealedLips.BAD;
    private static final int NONE = SealedLips.NONE;
    private static final int INDEX = SealedLips.INDEX;
    private static final int SIZE = SealedLips.SIZE;
    private static final List<Integer> UNTOUCHED = Scene.all(Scene.lively());

    public static void main(String[] args) {
        persons();
        done();
        foretold();
        asked();
        sheets();
        rows();
        copies();
        Check.allNamed(2, 8);
        Check.allNamed(10, 14);
        Check.allNamed(16, 26);
        Check.allNamed(29, 34);
        Check.finish();
    }

    private static void persons() {
        bad(2, "KIND", 0, 4, 0, "person", 0);
        bad(3, "PERSON", 0, 3, 0, "of", 0, 0);
        bad(3, "0 KIND .. 5 who ahead of it", 0, 5, 1, "of", 0, 0);
        bad(4, "PERSON", 0, 3, 0, "strength", 0, 0);
        bad(4, "THING", 0, 7, 1, "strength", 0, 0);
        bad(5, "THING", 0, 7, 0, "known", 0);
        bad(6, "PERSON", 0, 3, 0, "seats", 0, 1);
        bad(6, "other PERSON", 0, 3, 1, "seats", 1, 0);
        bad(7, "0 WAX, 1 WEEK", 0, 1, 0, "rule", 0, 5);
        bad(7, "WAX is 1 .. 9", 1, 9, 1, "rule", 0, 0);
        bad(7, "WEEK 2 .. 30", 2, 30, 1, "rule", 1, 0);
        bad(8, "not 32 .. 126", 32, 126, 0, "type", 0);
        bad(10, "0 PERSONS .. 8 what may be UNDONE", 0, 8, 0, "count", 0);
    }

    private static void done() {
        bad(11, "PERSON", 0, 3, 0, "trust", 0, 6);
        bad(11, "THING", 0, 7, 1, "trust", 2, 0);
        bad(12, "PERSON", 0, 3, 0, "seal", 0, 3);
        bad(12, "THING", 0, 7, 1, "seal", 0, 0);
        bad(13, "n DAYS (1 .. 40)", 1, 40, 0, "days", 0, 9);
        bad(13, "HEAT", 0, 9, 1, "days", 1, 0);
        bad(14, "n DAYS (1 .. 40)", 1, 40, 0, "drift", 0);
        bad(16, "below 0", 0, Integer.MAX_VALUE, 0, "seed", 0);
    }

    private static void foretold() {
        bad(17, "THING", 0, 7, 0, "ahead", 0, 5, 5);
        bad(17, "behind n DAYS (0 .. 60)", 0, 60, 1, "ahead", 0, 0, 5);
        bad(17, "HEAT", 0, 9, 2, "ahead", 0, 5, 0);
        bad(18, "PERSON", 0, 3, 0, "rankAhead", 0, 5, 5);
        bad(18, "behind n DAYS (0 .. 60)", 0, 60, 1, "rankAhead", 0, 0, 5);
        bad(18, "HEAT", 0, 9, 2, "rankAhead", 0, 5, 0);
        bad(19, "behind n DAYS (0 .. 60)", 0, 60, 0, "leaks", 0, 5);
        bad(19, "HEAT", 0, 9, 1, "leaks", 5, 0);
        bad(20, "THING", 0, 7, 0, "out", 0, 5);
        bad(20, "HEAT", 0, 9, 1, "out", 0, 0);
        bad(26, "THING", 0, 7, 0, "from", 0, 5, 5);
        bad(26, "n DAYS (0 .. 60)", 0, 60, 1, "from", 0, 0, 5);
        bad(26, "HEAT", 0, 9, 2, "from", 0, 5, 0);
    }

    private static void asked() {
        bad(21, "n DAYS (1 .. 30)", 1, 30, 0, "cool", 0);
        bad(22, "n 1 .. 30", 1, 30, 0, "thick", 0, 5);
        bad(22, "HEAT", 0, 9, 1, "thick", 5, 0);
        bad(23, "THING", 0, 7, 0, "renew", 0, 5, 5, 3, 0);
        bad(23, "n 0 .. 60", 0, 60, 1, "renew", 0, 0, 5, 3, 0);
        bad(23, "HEAT", 0, 9, 2, "renew", 0, 5, 0, 3, 0);
        bad(23, "k (0 .. 6)", 0, 6, 3, "renew", 0, 5, 5, 0, 0);
        bad(23, "how many (what 0), which (1)", 0, 1, 4, "renew", 0, 5, 5, 3, 0);
        bad(24, "n 1 .. 20", 1, 20, 0, "table", 0, 5, 0);
        bad(24, "HEAT", 0, 9, 1, "table", 5, 0, 0);
        range(24, "k below -1, NONE: not so many", -1, 3, BAD, NONE, 2, "table", 5, 5, 0);
        bad(25, "how many (what 0), the first (1)", 0, 1, 0, "rivals", 0);
    }

    private static void sheets() {
        bad(31, "SHEETS 0 .. 3", 0, 3, 0, "sheet", 0, 0, 1);
        bad(31, "LANE", 0, 3, 1, "sheet", 0, 0, 1);
        range(31, "n above 24; SIZE: n below 0", 0, 24, SIZE, BAD, 2, "sheet", 0, 0, 0);
        bad(32, "SHEETS 0 .. 3", 0, 3, 0, "drop", 0);
        bad(33, "SHEETS 0 .. 3", 0, 3, 0, "item", 0, 3, 0, 9);
        bad(33, "LANE", 0, 3, 1, "item", 3, 0, 0, 9);
        range(33, "INDEX, of four items", 0, 3, INDEX, INDEX, 2, "item", 0, 0, 0, 9);
        range(33, "INDEX, of 24 items", 0, 23, INDEX, INDEX, 2, "item", 3, 3, 0, 9);
    }

    private static void rows() {
        bad(29, "THING", 0, 7, 0, "told", 0, 3, 3, 0, 2);
        bad(29, "SHEETS 0 .. 3", 0, 3, 1, "told", 0, 0, 3, 0, 2);
        bad(29, "LANE", 0, 3, 2, "told", 0, 3, 0, 0, 2);
        range(29, "INDEX, by i", 0, 18, INDEX, INDEX, 3, "told", 0, 3, 3, 0, 6);
        bad(29, "n DAYS (1 .. 6)", 1, 6, 4, "told", 0, 3, 3, 0, 0);
        bad(30, "THING", 0, 7, 0, "film", 0, 2, 5, 3, 3, 0);
        bad(30, "n DAYS (1 .. 24)", 1, 24, 1, "film", 0, 0, 5, 3, 3, 0);
        bad(30, "HEAT", 0, 9, 2, "film", 0, 2, 0, 3, 3, 0);
        bad(30, "SHEETS 0 .. 3", 0, 3, 3, "film", 0, 2, 5, 0, 3, 0);
        bad(30, "LANE", 0, 3, 4, "film", 0, 2, 5, 3, 0, 0);
        range(30, "INDEX, by i", 0, 22, INDEX, INDEX, 5, "film", 0, 2, 5, 3, 3, 0);
    }

    private static void copies() {
        bad(34, "a SHEET", 0, 3, 0, "copy", 0, 0, 3, 0, 1);
        range(34, "INDEX, by i", 0, 23, INDEX, INDEX, 1, "copy", 3, 0, 3, 0, 1);
        bad(34, "another one", 0, 3, 2, "copy", 3, 0, 0, 0, 1);
        range(34, "INDEX, by j", 0, 23, INDEX, INDEX, 3, "copy", 3, 0, 3, 0, 1);
        range(34, "INDEX, by n, of the first", 0, 4, INDEX, INDEX, 4, "copy", 0, 0, 0, 0, 0);
        range(34, "INDEX, by n, from i on", 0, 1, INDEX, INDEX, 4, "copy", 3, 23, 3, 0, 0);
        range(34, "INDEX, by n, from j on", 0, 1, INDEX, INDEX, 4, "copy", 3, 0, 3, 23, 0);
    }

    private static void bad(int promise, String words, int least, int most, int at, String name, long... arguments) {
        range(promise, words, least, most, BAD, BAD, at, name, arguments);
    }

    private static void range(int promise, String words, int least, int most, int below, int above, int at, String name, long... arguments) {
        Check.edge(promise, words);
        taken(name, with(arguments, at, least), below, above);
        taken(name, with(arguments, at, most), below, above);
        refused(name, with(arguments, at, least - 1), below);
        refused(name, with(arguments, at, Integer.MIN_VALUE), below);
        if (most < Integer.MAX_VALUE) {
            refused(name, with(arguments, at, most + 1), above);
            refused(name, with(arguments, at, Integer.MAX_VALUE), above);
        }
    }

    private static long[] with(long[] arguments, int at, int v) {
        long[] all = arguments.clone();
        all[at] = v;
        return all;
    }

    private static void taken(String name, long[] arguments, int below, int above) {
        int got = Scene.call(Scene.lively(), name, arguments);
        Check.due(name + Arrays.toString(arguments) + " is taken, not " + got + ",", got == below || got == above ? 0 : 1, 1);
    }

    private static void refused(String name, long[] arguments, int code) {
        SealedLips x = Scene.lively();
        Check.due(name + Arrays.toString(arguments), Scene.call(x, name, arguments), code);
        Check.due(name + Arrays.toString(arguments) + " changed nothing,", Scene.all(x).equals(UNTOUCHED) ? 1 : 0, 1);
    }
}
