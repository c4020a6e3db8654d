/** Each place of a text at which a fault can lie, each letter that may stand there; blanks; the end; the tape. */
public final class EdgesTextTest {
    private static final String BEGUN_BY_SIX = "5/7;p,p,p,p,p,";

    private static void due(String call, long got, long want) {
        Check.due(call, got, want);
    }

    /** What court() answers to a text on a new object. */
    private static int read(String text) {
        return Check.court(new SealedLips(), text);
    }

    public static void main(String[] args) {
        lettersAtEachPlace();
        theEndAtEachPlace();
        blanksAtEachPlace();
        weeks();
        longNumbers();
        things();
        howManyPersons();
        letters();
        fullTape();
        whatWasOnTheTape();
        whatIsReplaced();
        whatWasForetold();
        whoComesLater();
        whatAFaultLeaves();
        Check.allNamed(8, 9);
        Check.finish();
    }

    private static void lettersAtEachPlace() {
        each("the WAX's digit 1 .. 9", "", "123456789", "", "/7;p");
        each("then /", "5", "/", "", "7;p");
        each("a number 2 .. 30", "5/", "23456789", "", ";p");
        each("the number's second digit", "5/2", "0123456789", ";", ";p");
        each("then ;", "5/2", ";", "0123456789", "p");
        each("the number's end", "5/30", ";", "", "p");
        each("PERSONS: p l d e f", "5/7;", "pldef", "", "");
        each("digits 0 .. 7", "5/7;p", "01234567", ",", "");
        each("rising", "5/7;p0", "1234567", ",", "");
        each("rising", "5/7;f3", "4567", ",", "");
        each("rising", "5/7;e06", "7", ",", "");
        each("with , between", "5/7;d7", ",", "", "p");
        each("with , between", "5/7;d", ",", "01234567", "p");
        each("behind ,", "5/7;p7,", "pldef", "", "");
        each("digits 0 .. 7 of the second", "5/7;p7,l", "01234567", ",", "");
        each("the sixth PERSON", BEGUN_BY_SIX, "pldef", "", "");
        each("behind the sixth PERSON", BEGUN_BY_SIX + "p", "01234567", "", "");
        each("behind the sixth PERSON", BEGUN_BY_SIX + "p7", "", "", "");
        Check.edge(9, "the number's first digit, if it is not as told, ahead of what is behind it");
        for (char c = 33; c <= 126; c++) {
            boolean digit = c >= '0' && c <= '9';
            due("court 5/1" + c, read("5/1" + c + ";p"), digit ? 1 : -22);
        }
    }

    /** All letters behind a text that has begun well: those that can stand there go on by the rest, some others elsewhere. */
    private static void each(String words, String begun, String can, String others, String rest) {
        Check.edge(9, words);
        for (char c = 33; c <= 126; c++) {
            String text = begun + c + rest;
            if (can.indexOf(c) < 0 && others.indexOf(c) < 0) {
                due("court " + text, read(text), -20 - begun.length());
            }
            if (can.indexOf(c) >= 0) {
                due("court " + text, read(text), text.split(",").length);
            }
        }
    }

    private static void theEndAtEachPlace() {
        Check.edge(9, "the end: how many there are");
        String text = "5/30;p07,f";
        int[] answers = {-20, -21, -22, -23, -24, -25, 1, 1, 1, -29, 2};
        for (int length = 0; length < answers.length; length++) {
            due("court " + text.substring(0, length), read(text.substring(0, length)), answers[length]);
        }
        Check.edge(9, "the end, behind a number that is not as told");
        due("court 5/1", read("5/1"), -22);
        due("court 5/31", read("5/31"), -22);
        Check.edge(9, "the end, behind blanks: how many there are");
        for (int blanks = 0; blanks <= 60; blanks += 6) {
            String more = " ".repeat(blanks);
            due("nothing", read(more), -20 - blanks);
            due("wax", read("5" + more), -21 - blanks);
            due("/", read("5/" + more), -22 - blanks);
            due("week", read("5/30" + more), -24 - blanks);
            due(";", read("5/30;" + more), -25 - blanks);
            due(",", read("5/30;p," + more), -27 - blanks);
            due("a person", read("5/30;p" + more), 1);
            due("a thing", read("5/30;p7" + more), 1);
        }
    }

    private static void blanksAtEachPlace() {
        Check.edge(9, "blanks count for nothing");
        String[] parts = {"5", "/", "30", ";", "p", "0", "7", ",", "f", "1"};
        for (int at = 0; at <= parts.length; at++) {
            StringBuilder text = new StringBuilder();
            for (int i = 0; i < parts.length; i++) {
                text.append(i == at ? "   " : "").append(parts[i]);
            }
            text.append(at == parts.length ? "   " : "");
            SealedLips x = new SealedLips();
            due("court " + text, Check.court(x, text.toString()), 2);
            due("week", x.count(3), 30);
            due("things", x.of(0, 1), 129);
            due("things", x.of(1, 1), 2);
        }
        Check.edge(9, "the place of the first letter (behind blanks) that can't stand there");
        String[] begun = {"", "5", "5/", "5/30", "5/30;", "5/30;p", "5/30;p7", "5/30;p7,"};
        for (String good : begun) {
            for (int blanks = 1; blanks <= 3; blanks++) {
                due("behind " + good, read(good + " ".repeat(blanks) + "x"), -20 - good.length() - blanks);
            }
        }
        Check.edge(9, "blanks end a number");
        due("3 0", read("5/3 0;p"), -24);
        due("1 0", read("5/1 0;p"), -22);
        due("0 7", read("5/0 7;p"), -22);
        due("2 ;", read("5/2 ;p"), 1);
    }

    private static void weeks() {
        for (int week = 0; week <= 99; week++) {
            boolean good = week >= 2 && week <= 30;
            Check.edge(9, "a number 2 .. 30 (WEEK), else the place of its first digit");
            SealedLips x = new SealedLips();
            due("week " + week, Check.court(x, "5/" + week + ";p"), good ? 1 : -22);
            due("week is", x.count(3), good ? week : 7);
            due("week " + week + " behind blanks", read("5/  " + week + ";p"), good ? 1 : -24);
            Check.edge(9, "Numbers have 1 or 2 digits: 0 first, too");
            String two = (week < 10 ? "0" : "") + week;
            due("week " + two, read("5/" + two + ";p"), good ? 1 : -22);
        }
    }

    private static void longNumbers() {
        Check.edge(9, "Numbers have 1 or 2 digits: a third can't stand there");
        due("007", read("5/007;p"), -22);
        due("020", read("5/020;p"), -24);
        due("123", read("5/123;p"), -24);
        due("300", read("5/300;p"), -24);
        Check.edge(9, "a number that is not as told comes ahead of a third digit");
        due("310", read("5/310;p"), -22);
        due("999", read("5/999;p"), -22);
        due("100", read("5/100;p"), -24);
        Check.edge(9, "the WAX has one digit");
        due("55", read("55/7;p"), -21);
        due("05", read("05/7;p"), -20);
        due("10", read("10/7;p"), -21);
    }

    private static void things() {
        Check.edge(9, "any digits 0 .. 7, rising");
        for (int a = 0; a <= 9; a++) {
            due("p" + a, read("5/7;p" + a), a < 8 ? 1 : -25);
            for (int b = 0; b <= 9; b++) {
                int due = a > 7 ? -25 : b > a && b < 8 ? 1 : -26;
                due("p" + a + b, read("5/7;p" + a + b), due);
                due("p,f" + a + b, read("5/7;p,f" + a + b), due == 1 ? 2 : due - 2);
            }
        }
        Check.edge(9, "any digits: all, none");
        SealedLips x = new SealedLips();
        due("all, none", Check.court(x, "5/7;p01234567,p"), 2);
        due("all", x.of(0, 1), 255);
        due("none", x.of(1, 1), 0);
        Check.edge(9, "behind all digits none can stand");
        for (int a = 0; a <= 9; a++) {
            due("all and " + a, read("5/7;p01234567" + a), -33);
        }
    }

    private static void howManyPersons() {
        Check.edge(9, "1 to 6 PERSONS");
        StringBuilder text = new StringBuilder("5/7;");
        due("none", read(text.toString()), -24);
        for (int n = 1; n <= 6; n++) {
            text.append(n > 1 ? "," : "").append("pldefp".charAt(n - 1));
            SealedLips x = new SealedLips();
            due("persons", Check.court(x, text.toString()), n);
            due("count", x.count(0), n);
            due("behind the last", x.of(n - 1, 4), 0);
            due("kind of the last", x.of(n - 1, 0), (n - 1) % 5);
        }
        Check.edge(9, "behind the sixth no , can stand");
        due("six,", read(text + ","), -20 - text.length());
        due("seven", read(text + ",p"), -20 - text.length());
        due("six 7,", read(text + "7,p"), -21 - text.length());
        due("six  ,", read(text + "  ,p"), -22 - text.length());
    }

    private static void letters() {
        SealedLips x = new SealedLips();
        Check.edge(8, "32 .. 126");
        for (int letter = 32; letter <= 101; letter++) {
            due("letter " + letter, x.type(letter), letter - 31);
        }
        x.court();
        for (int letter = 102; letter <= 126; letter++) {
            due("letter " + letter, x.type(letter), letter - 101);
        }
        Check.edge(8, "not 32 .. 126");
        int[] wrong = {31, 127, 0, 10, -1, 128, 256 + 53, 65536 + 53, Integer.MIN_VALUE, Integer.MAX_VALUE};
        for (int letter : wrong) {
            due("letter " + letter, x.type(letter), SealedLips.BAD);
        }
        due("how many", x.type(32), 26);
    }

    private static void fullTape() {
        String most = "5/30;p01234567,l01234567,d01234567,e01234567,f01234567,p01234567";
        Check.edge(9, "a COURT of 70 letters");
        due("letters", most.length(), 64);
        due("blanks ahead", read("      " + most), 6);
        due("blanks behind", read(most + "      "), 6);
        Check.edge(9, "the last of 70 letters");
        due("a fault there", read(most + "     x"), -89);
        due("a fault there", read(" ".repeat(69) + "x"), -89);
        Check.edge(9, "the end of 70 letters");
        due("the end", read(" ".repeat(70)), -90);
        due("the end", read(" ".repeat(69) + "5"), -90);
        Check.edge(9, "THE TAPE, which is empty then");
        SealedLips x = new SealedLips();
        Check.type(x, " ".repeat(70));
        x.court();
        due("the first letter", x.type('5'), 1);
        Check.type(x, "/7;p");
        due("court", x.court(), 1);
        due("the first letter", x.type('5'), 1);
        x.court();
        Check.edge(9, "an empty TAPE");
        due("court", x.court(), -20);
        due("court", x.court(), -20);
    }

    private static void whatWasOnTheTape() {
        Check.edge(9, "THE TAPE, which is empty then: nothing that stood there counts");
        String text = "5/30;p07,f";
        int[] answers = {-20, -21, -22, -23, -24, -25, 1, 1, 1, -29, 2};
        SealedLips x = new SealedLips();
        for (int length = answers.length - 1; length >= 0; length--) {
            due("court " + text, Check.court(x, text), 2);
            due("court " + text.substring(0, length), Check.court(x, text.substring(0, length)), answers[length]);
        }
        due("court " + text, Check.court(x, text), 2);
        due("court 5/3;p", Check.court(x, "5/3;p"), 1);
        due("week", x.count(3), 3);
    }

    private static void whatWasForetold() {
        Check.edge(9, "in place of all PERSONS: nothing that was FORETOLD counts");
        SealedLips x = Check.at("9/30;p01234567,l01234567,d01234567,e01234567,f01234567,p01234567");
        x.days(5, 9);
        x.leaks(60, 9);
        x.thick(1, 0);
        due("court", Check.court(x, "5/7;p,p,p,p,p,p"), 6);
        due("day", x.count(1), 0);
        due("to the renewal", x.count(7), 7);
        due("times known", x.count(4), 0);
        due("leaks", x.leaks(60, 9), 0);
        for (int p = 0; p < 6; p++) {
            due("rank", x.of(p, 3), 0);
            due("open", x.of(p, 2), 0);
            due("kind", x.of(p, 0), 0);
            due("behind", x.of(p, 4), (p + 1) % 6);
        }
    }

    private static void whoComesLater() {
        Check.edge(2, "not at first: in place of one who KNEW all");
        SealedLips x = Check.at("9/30;p01234567,l01234567,d01234567,e01234567,f01234567,p01234567");
        due("court", Check.court(x, "5/7;p"), 1);
        for (int p = 1; p < 6; p++) {
            due("person", x.person(0), p);
            due("knows", x.of(p, 1), 0);
            due("open", x.of(p, 2), 0);
            due("rank", x.of(p, 3), 0);
        }
        due("trust", x.trust(5, 0), 1);
    }

    private static void whatIsReplaced() {
        SealedLips x = Check.at("3/4;p0,l1,d2,e3,f4,p5");
        x.seats(0, 5);
        x.days(7, 5);
        x.seed(42);
        x.image();
        x.sheet(2, 1, 9);
        due("court", Check.court(x, "1/2;f7,p"), 2);
        Check.edge(9, "in place of all PERSONS");
        due("persons", x.count(0), 2);
        due("kind", x.of(0, 0), 4);
        due("kind", x.of(1, 0), 0);
        due("knows", x.of(0, 1), 128);
        due("knows", x.of(1, 1), 0);
        due("times known", x.count(4), 1);
        due("behind 0", x.of(0, 4), 1);
        Check.edge(9, "SEALED by WAX");
        due("strength", x.strength(0, 7), 1);
        Check.edge(9, "in place of WAX, WEEK; DAY 0");
        due("wax", x.count(2), 1);
        due("week", x.count(3), 2);
        due("day", x.count(1), 0);
        due("to the renewal", x.count(7), 2);
        Check.edge(9, "THE DRAW stays");
        due("draw", x.seed(42), 42);
        Check.edge(9, "SHEETS, an IMAGE stay");
        due("sheet", x.drop(2), 9);
        due("restore", x.restore(), 1);
        due("persons", x.count(0), 6);
        Check.edge(9, "who comes behind a COURT sits behind its last one");
        Check.court(x, "5/7;p,p");
        due("person", x.person(1), 2);
        due("ahead of it", x.of(2, 5), 1);
        due("behind it", x.of(2, 4), 0);
        due("knows", x.of(2, 1), 0);
    }

    private static void whatAFaultLeaves() {
        Check.edge(9, "A FAULT (all else stays): at each place");
        String[] texts = {"", "0", "9.", "9/31", "9/30:", "9/30;x", "9/30;f8", "9/30;f7,", "9/30;f7,f7,f7,f7,f7,f7,"};
        for (String text : texts) {
            SealedLips x = Check.at("3/4;p0,l1");
            x.days(3, 0);
            due("a fault in " + text, Check.court(x, text) < 0 ? 1 : 0, 1);
            due("persons", x.count(0), 2);
            due("day", x.count(1), 3);
            due("wax", x.count(2), 3);
            due("week", x.count(3), 4);
            due("knows", x.of(0, 1), 3);
            due("strength", x.strength(0, 0), 3);
            due("kind", x.of(1, 0), 1);
            due("may be UNDONE", x.count(8), 3);
            due("the tape", x.type('5'), 1);
        }
    }
}
