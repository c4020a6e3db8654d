/** What the project's tests have in common: a new object, what is typed on it, and what is due. */
final class Check {
    private static int asked = 0;
    private static int wrong = 0;

    private Check() {
    }

    static void due(String call, long got, long want) {
        asked++;
        if (got != want) {
            wrong++;
            System.out.println(call + " answered " + got + ", due is " + want);
        }
    }

    static void type(SealedLips x, String text) {
        for (int i = 0; i < text.length(); i++) {
            x.type(text.charAt(i));
        }
    }

    /** What court() answers to a text. */
    static int court(SealedLips x, String text) {
        type(x, text);
        return x.court();
    }

    static SealedLips at(String text) {
        SealedLips x = new SealedLips();
        if (court(x, text) < 1) {
            wrong++;
            System.out.println("no court: " + text);
        }
        return x;
    }

    static void finish() {
        System.out.println(wrong == 0 ? asked + " answers are as due" : wrong + " answers are not as due");
        if (wrong != 0) {
            System.exit(1);
        }
    }
}
