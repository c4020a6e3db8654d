/** An object is used for 512 calls: the last of them is answered as the first. */
public final class UseTest {
    private static final int CALLS = 512;

    private static void due(String call, long got, long want) {
        Check.due(call, got, want);
    }

    public static void main(String[] args) {
        days();
        steps();
        letters();
        sheets();
        images();
        tables();
        Check.finish();
    }

    private static void days() {
        Check.edge(13, "at most 512 calls: DAYS");
        SealedLips x = new SealedLips();
        for (int call = 1; call < CALLS; call++) {
            due("days", x.days(1, 9), 0);
        }
        due("the last call", x.count(1), CALLS - 1);
    }

    private static void steps() {
        Check.edge(15, "at most 512 calls: steps and UNDONE ones");
        SealedLips x = new SealedLips();
        x.person(0);
        for (int call = 2; call < CALLS; call += 2) {
            due("trust", x.trust(0, 7), 1);
            due("undo", x.undo(), 0);
        }
        due("the last call", x.undo(), SealedLips.NONE);
    }

    private static void letters() {
        Check.edge(8, "at most 512 calls: letters");
        SealedLips x = new SealedLips();
        for (int call = 1; call <= CALLS; call++) {
            due("type", x.type(' '), call <= 70 ? call : SealedLips.FULL);
        }
        Check.edge(9, "at most 512 calls: COURTS");
        x = new SealedLips();
        int calls = 0;
        for (int court = 0; court < 84; court++) {
            Check.type(x, "5/7;p");
            due("court", x.court(), 1);
            calls += 6;
        }
        for (; calls < CALLS - 1; calls++) {
            due("seal", x.seal(0, 0), SealedLips.NOT);
        }
        due("the last call", x.count(0), 1);
    }

    private static void sheets() {
        Check.edge(31, "at most 512 calls: rows");
        SealedLips x = new SealedLips();
        for (int call = 1; call < CALLS; call++) {
            due("sheet", x.sheet(call % 4, call % 3, 24), 24);
        }
        due("the last call", x.drop(CALLS - 1 & 3), 24);
    }

    private static void images() {
        Check.edge(28, "at most 512 calls: IMAGES");
        SealedLips x = new SealedLips();
        x.person(0);
        x.trust(0, 0);
        for (int call = 3; call <= CALLS; call += 2) {
            due("image", x.image(), 1);
            due("restore", x.restore(), 1);
        }
    }

    private static void tables() {
        Check.edge(24, "at most 512 calls: the dearest");
        SealedLips x = new SealedLips();
        for (int p = 0; p < 6; p++) {
            x.person(3);
        }
        x.rule(0, 1);
        x.trust(0, 0);
        for (int call = 9; call <= CALLS; call++) {
            due("table", x.table(20, 9, -1), 5);
        }
    }
}
