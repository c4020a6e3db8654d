/** What the project's tests have in common: a new object, what is typed on it, and what is due. */
final class Check {
    private static final int PROMISES = 34;

    private static int asked = 0;
    private static int wrong = 0;
    private static String edge = "";
    private static boolean idle = false;
    private static final boolean[] NAMED = new boolean[PROMISES + 1];

    private Check() {
    }

    /** What is asked from here on is a boundary case that these words of a promise name (0: the terms). */
    static void edge(int promise, String words) {
        noIdleEdge();
        NAMED[promise] = true;
        edge = (promise == 0 ? "terms" : "promise " + promise) + ", '" + words + "': ";
        idle = true;
    }

    private static void noIdleEdge() {
        if (idle) {
            wrong++;
            System.out.println(edge + "nothing was asked");
        }
        idle = false;
    }

    static void due(String call, long got, long want) {
        asked++;
        idle = false;
        if (got != want) {
            wrong++;
            System.out.println(edge + call + " answered " + got + ", due is " + want);
        }
    }

    /** Each of these promises has had an edge. */
    static void allNamed(int first, int last) {
        for (int promise = first; promise <= last; promise++) {
            due("edges of promise " + promise, NAMED[promise] ? 1 : 0, 1);
        }
    }

    static void type(SealedLips x, String text) {
        for (int i = 0; i < text.length(); i++) {
            x.type(text.charAt(i));
        }
    }

    /** What court() answers to a text. */
    static int court(SealedLips x, String text) {
        type(x, text);
        return x.court();
    }

    static SealedLips at(String text) {
        SealedLips x = new SealedLips();
        if (court(x, text) < 1) {
            wrong++;
            System.out.println("no court: " + text);
        }
        return x;
    }

    static void finish() {
        noIdleEdge();
        System.out.println(wrong == 0 ? asked + " answers are as due" : wrong + " answers are not as due");
        if (wrong != 0) {
            System.exit(1);
        }
    }
}
