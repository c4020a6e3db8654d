/** Promises 11 to 16, and the words on a day. */
public final class DoneTest {
    private static void due(String call, long got, long want) {
        Check.due(call, got, want);
    }

    public static void main(String[] args) {
        trust();
        seal();
        kinds();
        telling();
        weeks();
        lastDay();
        drift();
        undo();
        undoKeeps();
        undoneDraw();
        Check.finish();
    }

    private static void trust() {
        SealedLips x = Check.at("6/7;p,f");
        due("trust", x.trust(0, 7), 1);
        due("trust", x.trust(0, 0), 2);
        due("trust the deaf", x.trust(1, 3), 1);
        due("strength", x.strength(1, 3), 6);
        due("again", x.trust(0, 7), SealedLips.NOT);
        due("person 2", x.trust(2, 0), SealedLips.BAD);
        due("person -1", x.trust(-1, 0), SealedLips.BAD);
        due("thing 8", x.trust(0, 8), SealedLips.BAD);
        due("thing -1", x.trust(0, -1), SealedLips.BAD);
        due("undone", x.count(8), 3);
        x.rule(0, 1);
        x.trust(1, 4);
        due("by the new wax", x.strength(1, 4), 1);
        due("the others stay", x.strength(1, 3), 6);
    }

    private static void seal() {
        SealedLips x = Check.at("6/7;p57,p");
        x.days(1, 8);
        due("seal", x.seal(0, 5), 2);
        due("strength", x.strength(0, 5), 6);
        due("the others stay", x.strength(0, 7), 2);
        due("seal again", x.seal(0, 5), 6);
        due("undone", x.count(8), 3);
        due("not known", x.seal(1, 5), SealedLips.NOT);
        due("not known", x.seal(0, 4), SealedLips.NOT);
        due("person 2", x.seal(2, 5), SealedLips.BAD);
        due("person -1", x.seal(-1, 5), SealedLips.BAD);
        due("thing 8", x.seal(0, 8), SealedLips.BAD);
        due("thing -1", x.seal(0, -1), SealedLips.BAD);
        due("undone", x.count(8), 3);
        x.rule(0, 3);
        due("a thinner one", x.seal(0, 5), 6);
        due("a thinner one", x.strength(0, 5), 3);
        x.days(1, 9);
        due("an open one", x.seal(0, 7), 0);
    }

    private static void kinds() {
        // strengths behind one day of each heat, the first day (a multiple of 3) and the second
        int[][] first = {{9, 9, 8, 8, 7, 7, 6, 6, 5, 5}, {8, 8, 7, 7, 6, 6, 5, 5, 4, 4},
            {9, 9, 9, 9, 9, 9, 9, 9, 9, 9}, {7, 7, 5, 5, 3, 3, 1, 1, 0, 0}, {9, 9, 9, 9, 9, 9, 9, 9, 9, 9}};
        for (int h = 0; h <= 9; h++) {
            SealedLips x = Check.at("9/7;p0,l1,d2,e3,f4");
            x.days(1, h);
            for (int kind = 0; kind < 5; kind++) {
                due("kind " + kind + " heat " + h, x.strength(kind, kind), first[kind][h]);
            }
        }
        SealedLips x = Check.at("9/30;e0");
        int[] strengths = {7, 6, 5, 3, 2, 1, 0, 0};
        for (int d = 0; d < strengths.length; d++) {
            x.days(1, 0);
            due("eater behind " + (d + 1), x.strength(0, 0), strengths[d]);
        }
        x = Check.at("9/30;e");
        x.days(1, 0);
        x.trust(0, 0);
        x.days(1, 8);
        due("eater of heat 8, not doubled", x.strength(0, 0), 4);
        x = Check.at("9/30;e");
        x.days(3, 0);
        x.trust(0, 0);
        x.days(1, 4);
        due("eater of heat 4, doubled", x.strength(0, 0), 3);
    }

    private static void telling() {
        // one open at once; who hears, who tells, one place a day, both ways
        SealedLips x = Check.at("1/30;p0,p,d,p,f,p");
        due("day 1", x.days(1, 2), 3);
        due("day 1", x.known(0), 0b100011);
        due("day 2", x.days(1, 2), 4);
        due("day 2, the dumb hears", x.known(0), 0b100111);
        due("day 3, neither tells on", x.days(1, 2), 4);
        due("open", x.count(5), 4);
        // who knew it keeps its seal
        x = Check.at("3/30;e0,p0,p");
        x.days(1, 0);
        due("not yet", x.known(0), 3);
        x.days(1, 0);
        due("told", x.known(0), 7);
        due("keeps its seal", x.strength(1, 0), 3);
        // a seal of the dumb, of the deaf that is open tells nothing
        x = Check.at("2/2;d,p0,f,p");
        x.days(1, 4);
        due("dumb, open", x.of(0, 2), 1);
        due("deaf hears nothing", x.of(2, 1), 0);
        due("nothing more", x.days(1, 0), 2);
        due("renewed", x.strength(0, 0), 2);
        // alone
        x = Check.at("1/30;p0");
        due("alone", x.days(3, 9), 1);
        due("alone, open", x.of(0, 2), 1);
        // seats decide who hears
        x = Check.at("1/30;p0,f,p,f");
        due("deaf about", x.days(4, 9), 1);
        x.seats(1, 2);
        due("moved", x.days(1, 9), 2);
    }

    private static void weeks() {
        SealedLips x = Check.at("4/3;p0,p");
        x.days(2, 4);
        due("open", x.strength(0, 0), 0);
        due("told", x.known(0), 3);
        x.days(1, 4);
        due("renewed", x.strength(0, 0), 4);
        due("renewed who heard", x.strength(1, 0), 4);
        due("answer", x.days(40, 9), 2);
        due("day", x.count(1), 43);
        due("n 0", x.days(0, 1), SealedLips.BAD);
        due("n 41", x.days(41, 1), SealedLips.BAD);
        due("h -1", x.days(1, -1), SealedLips.BAD);
        due("h 10", x.days(1, 10), SealedLips.BAD);
        due("day", x.count(1), 43);
    }

    private static void lastDay() {
        SealedLips x = Check.at("5/7;p");
        for (int i = 0; i < 249; i++) {
            x.days(40, 0);
        }
        due("day", x.count(1), 9960);
        due("would be 10000", x.days(40, 0), SealedLips.FULL);
        due("would be 10000", x.drift(40), SealedLips.FULL);
        due("heat first", x.days(40, 10), SealedLips.BAD);
        due("n first", x.drift(41), SealedLips.BAD);
        due("day", x.count(1), 9960);
        due("the draw", x.seed(1), 1);
        due("9999", x.days(39, 0), 0);
        due("day", x.count(1), 9999);
        due("full", x.days(1, 0), SealedLips.FULL);
        due("full", x.drift(1), SealedLips.FULL);
        due("foretold on", x.leaks(60, 9), 0);
        due("undone", x.undo(), 7);
        due("once more", x.drift(1), 0);
        due("day", x.count(1), 9999);
    }

    private static void drift() {
        // by hand: 1 -> 1103527590 (16838: heat 8), -> 377401575 (5758: heat 8), -> 662824084 (10113: heat 3)
        SealedLips x = Check.at("9/30;p0,p");
        due("drift", x.drift(1), 1);
        due("a half of 8", x.strength(0, 0), 5);
        due("draw", x.seed(1103527590), 1103527590);
        due("drift", x.drift(1), 1);
        due("a half of 8", x.strength(0, 0), 1);
        due("draw", x.seed(377401575), 377401575);
        due("drift", x.drift(1), 2);
        due("draw", x.seed(0), 662824084);
        due("day", x.count(1), 3);
        due("from 0: 12345, heat 0", x.drift(1), 2);
        due("draw", x.seed(Integer.MAX_VALUE), 12345);
        x.drift(1);
        due("draw", x.seed(1), (int) ((2147483647L * 1103515245L + 12345L) & 0x7fffffffL));
        due("seed -1", x.seed(-1), SealedLips.BAD);
        due("seed least", x.seed(Integer.MIN_VALUE), SealedLips.BAD);
        due("n 0", x.drift(0), SealedLips.BAD);
        due("n 41", x.drift(41), SealedLips.BAD);
        due("draw stays", x.seed(1), 1);
        SealedLips y = Check.at("9/30;p0,p");
        due("three", y.drift(3), 2);
        due("three", y.seed(0), 662824084);
        due("undone", y.count(8), 3);
    }

    private static void undo() {
        SealedLips x = Check.at("5/7;p0,p1");
        due("none", x.undo(), SealedLips.NONE);
        x.trust(0, 2);
        x.days(2, 9);
        x.seal(0, 0);
        due("four", x.count(8), 4);
        due("the seal", x.undo(), 3);
        due("the seal", x.strength(0, 0), 0);
        due("a day", x.undo(), 2);
        due("a day", x.strength(0, 0), 1);
        due("known", x.of(1, 1), 2);
        due("day", x.count(1), 1);
        due("a day", x.undo(), 1);
        due("a day", x.strength(0, 0), 5);
        due("day", x.count(1), 0);
        due("the trust", x.undo(), 0);
        due("the trust", x.of(0, 1), 1);
        due("none", x.undo(), SealedLips.NONE);
        // eight are known
        x.days(12, 0);
        due("eight", x.count(8), 8);
        for (int left = 7; left >= 0; left--) {
            due("undo", x.undo(), left);
        }
        due("day 4", x.count(1), 4);
        due("older are lost", x.undo(), SealedLips.NONE);
        // the last of six, too
        SealedLips y = Check.at("5/30;p,p,p,p,p0,p");
        y.trust(5, 1);
        y.days(2, 9);
        due("known", y.of(5, 2), 3);
        due("undo", y.undo(), 2);
        due("strength", y.strength(5, 1), 1);
        due("undo", y.undo(), 1);
        due("strength", y.strength(5, 1), 5);
        due("known", y.of(5, 1), 2);
        // what is refused is no step
        x.trust(0, 0);
        x.seal(0, 7);
        x.days(0, 0);
        x.drift(0);
        due("no step", x.count(8), 0);
    }

    private static void undoKeeps() {
        SealedLips x = Check.at("5/7;p0,p1,p");
        x.days(1, 4);
        x.seats(0, 1);
        x.rule(0, 8);
        x.rule(1, 9);
        x.seed(55);
        x.sheet(0, 0, 3);
        x.type('x');
        due("undo", x.undo(), 0);
        due("strength", x.strength(0, 0), 5);
        due("seats stay", x.of(1, 4), 0);
        due("wax stays", x.count(2), 8);
        due("week stays", x.count(3), 9);
        due("the draw is as ahead of it", x.seed(2), 1);
        due("sheet stays", x.drop(0), 3);
        due("tape stays", x.type('x'), 2);
        x.days(1, 1);
        due("fault", x.court(), -20);
        due("undone still", x.count(8), 1);
    }

    private static void undoneDraw() {
        SealedLips x = Check.at("9/30;l0,p");
        x.drift(3);
        due("undo", x.undo(), 2);
        due("draw", x.seed(377401575), 377401575);
        due("undo", x.undo(), 1);
        due("undo", x.undo(), 0);
        due("draw", x.seed(1), 1);
        due("strength", x.strength(0, 0), 9);
        x.drift(1);
        due("drift", x.strength(0, 0), 4);
        due("undo", x.undo(), 0);
        x.drift(1);
        due("likewise", x.strength(0, 0), 4);
    }
}
