/** Promises 1 to 10. */
public final class PersonsTest {
    private static void due(String call, long got, long want) {
        Check.due(call, got, want);
    }

    public static void main(String[] args) {
        newObject();
        persons();
        ofPerson();
        strengths();
        seats();
        rules();
        tape();
        courts();
        faults();
        blanks();
        counts();
        Check.finish();
    }

    private static void newObject() {
        SealedLips x = new SealedLips();
        int[] first = {0, 0, 5, 7, 0, 0, 0, 7, 0};
        for (int what = 0; what < first.length; what++) {
            due("new count " + what, x.count(what), first[what]);
        }
        due("new seed", x.seed(1), 1);
        due("new of", x.of(0, 0), SealedLips.BAD);
        for (int sheet = 0; sheet < 4; sheet++) {
            due("new drop", x.drop(sheet), SealedLips.NULL);
        }
        due("new tape", x.type('5'), 1);
        due("new undo", x.undo(), SealedLips.NONE);
        due("new restore", x.restore(), SealedLips.NONE);
    }

    private static void persons() {
        SealedLips x = new SealedLips();
        due("kind -1", x.person(-1), SealedLips.BAD);
        due("kind 5", x.person(5), SealedLips.BAD);
        due("kind least", x.person(Integer.MIN_VALUE), SealedLips.BAD);
        for (int i = 0; i < 6; i++) {
            due("person", x.person(i % 5), i);
            due("kind", x.of(i, 0), i % 5);
            due("behind the last", x.of(i, 4), 0);
            due("knows nothing", x.of(i, 1), 0);
        }
        due("a seventh", x.person(0), SealedLips.FULL);
        due("a seventh of no kind", x.person(5), SealedLips.BAD);
        due("how many", x.count(0), 6);
        // a new one sits behind the last place, whoever sits there, and leaves nothing to be undone
        x = new SealedLips();
        x.person(0);
        x.person(0);
        x.person(0);
        due("seats", x.seats(0, 2), 2);
        x.trust(0, 0);
        due("undone", x.count(8), 1);
        due("refused", x.person(9), SealedLips.BAD);
        due("undone still", x.count(8), 1);
        due("fourth", x.person(1), 3);
        due("nothing undone", x.count(8), 0);
        due("ahead of the new one", x.of(3, 5), 0);
        due("behind the new one", x.of(3, 4), 2);
    }

    private static void ofPerson() {
        SealedLips x = Check.at("9/7;p035,l,f7");
        due("kind", x.of(2, 0), 4);
        due("things", x.of(0, 1), 41);
        due("open", x.of(0, 2), 0);
        due("rank", x.of(0, 3), 3);
        due("behind", x.of(0, 4), 1);
        due("ahead", x.of(0, 5), 2);
        due("person -1", x.of(-1, 0), SealedLips.BAD);
        due("person 3", x.of(3, 0), SealedLips.BAD);
        due("what -1", x.of(0, -1), SealedLips.BAD);
        due("what 6", x.of(0, 6), SealedLips.BAD);
        x.days(3, 9);
        due("things", x.of(0, 1), 41);
        due("open", x.of(0, 2), 41);
        due("rank", x.of(0, 3), 0);
        due("told", x.of(1, 2), 41);
        due("deaf", x.of(2, 1), 128);
        due("rank of the deaf", x.of(2, 3), 1);
    }

    private static void strengths() {
        SealedLips x = Check.at("8/7;p07,p0");
        due("strength", x.strength(0, 0), 8);
        due("strength of the last thing", x.strength(0, 7), 8);
        due("not known", x.strength(1, 7), SealedLips.NONE);
        due("known 0", x.known(0), 3);
        due("known 7", x.known(7), 1);
        due("known 1", x.known(1), 0);
        x.days(1, 6);
        due("weaker", x.strength(0, 7), 5);
        due("thing 8", x.strength(0, 8), SealedLips.BAD);
        due("thing -1", x.strength(0, -1), SealedLips.BAD);
        due("person 2", x.strength(2, 0), SealedLips.BAD);
        due("person -1", x.strength(-1, 0), SealedLips.BAD);
        due("known 8", x.known(8), SealedLips.BAD);
        due("known -1", x.known(-1), SealedLips.BAD);
        due("known 8 of none", new SealedLips().known(7), 0);
    }

    private static void seats() {
        SealedLips x = Check.at("5/7;p,p,p,p");
        due("0 and 1", x.seats(0, 1), 2);
        int[] behind = {2, 0, 3, 1};
        int[] ahead = {1, 3, 0, 2};
        for (int p = 0; p < 4; p++) {
            due("behind", x.of(p, 4), behind[p]);
            due("ahead", x.of(p, 5), ahead[p]);
        }
        due("at the ends", x.seats(1, 3), 3);
        due("alike", x.seats(2, 2), SealedLips.BAD);
        due("person 4", x.seats(4, 0), SealedLips.BAD);
        due("other 4", x.seats(0, 4), SealedLips.BAD);
        due("other -1", x.seats(0, -1), SealedLips.BAD);
        due("person -1", x.seats(-1, 0), SealedLips.BAD);
        x = Check.at("5/7;p,p");
        due("two", x.seats(1, 0), 0);
        due("two", x.of(0, 4), 1);
        due("two", x.of(0, 5), 1);
    }

    private static void rules() {
        SealedLips x = Check.at("5/7;p0,d0");
        due("wax", x.rule(0, 9), 5);
        due("wax", x.rule(0, 1), 9);
        due("wax 0", x.rule(0, 0), SealedLips.BAD);
        due("wax 10", x.rule(0, 10), SealedLips.BAD);
        due("week", x.rule(1, 30), 7);
        due("week", x.rule(1, 2), 30);
        due("week 1", x.rule(1, 1), SealedLips.BAD);
        due("week 31", x.rule(1, 31), SealedLips.BAD);
        due("what 2", x.rule(2, 5), SealedLips.BAD);
        due("what -1", x.rule(-1, 5), SealedLips.BAD);
        due("wax", x.count(2), 1);
        due("week", x.count(3), 2);
        due("no seal is changed", x.strength(0, 0), 5);
        x.days(1, 0);
        due("not renewed", x.strength(0, 0), 5);
        x.days(1, 0);
        due("renewed", x.strength(0, 0), 1);
        due("renewed, of the dumb", x.strength(1, 0), 1);
    }

    private static void tape() {
        SealedLips x = new SealedLips();
        due("31", x.type(31), SealedLips.BAD);
        due("127", x.type(127), SealedLips.BAD);
        due("-1", x.type(-1), SealedLips.BAD);
        for (int i = 1; i <= 70; i++) {
            due("type", x.type(i == 1 ? 126 : 32), i);
        }
        due("71st", x.type(32), SealedLips.FULL);
        due("71st, no letter", x.type(127), SealedLips.BAD);
        due("no court", x.court(), -20);
        due("empty again", x.type(32), 1);
        Check.type(x, "                                                                     ");
        due("70 blanks", x.court(), -90);
        // without blanks no court is longer: 5/30; and 6 persons of 8 things with , between are 5 + 6 * 9 + 5 = 64 letters
        due("full court", Check.court(x, "5/30;p01234567,l01234567,d01234567,e01234567,f01234567,p01234567"), 6);
        due("all out", x.count(6), 255);
    }

    private static void courts() {
        SealedLips x = new SealedLips();
        x.seed(77);
        x.person(3);
        x.trust(0, 1);
        x.days(5, 5);
        x.rule(0, 2);
        due("court", Check.court(x, "7/30;p,l1,d2,e3,f4"), 5);
        for (int p = 0; p < 5; p++) {
            due("kind", x.of(p, 0), p);
            due("knows", x.of(p, 1), p == 0 ? 0 : 1 << p);
            due("behind", x.of(p, 4), (p + 1) % 5);
        }
        due("sealed", x.strength(4, 4), 7);
        due("wax", x.count(2), 7);
        due("week", x.count(3), 30);
        due("day", x.count(1), 0);
        due("undone", x.count(8), 0);
        due("the draw stays", x.seed(0), 77);
        x.seats(0, 1);
        due("smaller", Check.court(x, "1/2;f"), 1);
        due("smaller", x.count(0), 1);
        due("nothing known", x.count(4), 0);
        due("alone", x.of(0, 4), 0);
        due("bigger", Check.court(x, "1/2;f,f,f"), 3);
        due("places anew", x.of(0, 4), 1);
        due("forgotten", x.count(4), 0);
        // nothing of what was foretold comes into it
        x.trust(0, 0);
        x.leaks(60, 9);
        due("another", Check.court(x, "3/4;l,l0"), 2);
        due("day", x.count(1), 0);
        due("rank", x.of(0, 3), 0);
        due("known", x.count(4), 1);
        // a fault changes nothing but the tape
        x = Check.at("4/9;p0,p");
        x.days(3, 1);
        x.seats(0, 1);
        due("fault", Check.court(x, "9/30;l7,l7,l7,x"), -34);
        due("persons", x.count(0), 2);
        due("day", x.count(1), 3);
        due("wax", x.count(2), 4);
        due("week", x.count(3), 9);
        due("knows", x.of(0, 1), 1);
        due("kind", x.of(0, 0), 0);
        due("undone", x.count(8), 3);
        due("tape", x.court(), -20);
    }

    private static void faults() {
        String[] texts = {
            "", "0", "x", "/", "5", "5.", "55/7;p", "5/", "5/x", "5/0;p", "5/1;p", "5/31;p", "5/99;p", "5/993;p", "5/00;p",
            "5/01;p", "5/7", "5/7:", "5/123;p", "5/7;", "5/7;x", "5/7;P", "5/7;,", "5/7;p8", "5/7;p00", "5/7;p10",
            "5/7;p,", "5/7;p,x", "5/7;p;", "5/7;pp", "5/7;p,p,p,p,p,p,", "5/7;p,p,p,p,p,p,p", "5/7;p,p,p,p,p,px", "5/7;01",
        };
        int[] places = {
            0, 0, 0, 0, 1, 1, 1, 2, 2, 2, 2, 2, 2, 2, 2,
            2, 3, 3, 4, 4, 4, 4, 4, 5, 6, 6,
            6, 6, 5, 5, 15, 15, 15, 4,
        };
        SealedLips x = new SealedLips();
        for (int i = 0; i < texts.length; i++) {
            due("court " + texts[i], Check.court(x, texts[i]), -20 - places[i]);
        }
        due("nobody came", x.count(0), 0);
        String[] good = {"1/2;p", "9/30;f", "5/02;l", "5/30;d", "5/7;p,p,p,p,p,p", "5/7;e01234567"};
        for (String text : good) {
            due("court " + text, Check.court(x, text), text.equals(good[4]) ? 6 : 1);
        }
        due("knows all", x.of(0, 1), 255);
        Check.court(x, "5/02;l");
        due("week of two digits", x.count(3), 2);
    }

    private static void blanks() {
        SealedLips x = new SealedLips();
        due("blanks", Check.court(x, "  5 / 1 2 ; p 1 , l 0 7  "), -20 - 6);
        due("blanks", Check.court(x, "  5 / 12 ; p 1 , l 0 7  "), 2);
        due("week", x.count(3), 12);
        due("things", x.of(1, 1), 129);
        due("a number ends", Check.court(x, "5/2 2;p"), -24);
        due("a number's first digit", Check.court(x, "5/  1;p"), -24);
        due("a number's first digit", Check.court(x, "5/  31;p"), -24);
        due("a letter behind blanks", Check.court(x, "5/7;  x"), -26);
        due("the end behind blanks", Check.court(x, "5/7;   "), -27);
        due("the end behind blanks", Check.court(x, "5 "), -22);
        due("the end behind blanks", Check.court(x, "5/ "), -23);
        due("not rising", Check.court(x, "5/7;p 1  1"), -29);
    }

    private static void counts() {
        SealedLips x = Check.at("2/5;p0,l0,d1");
        due("times known", x.count(4), 3);
        due("open", x.count(5), 0);
        x.days(1, 4);
        due("day", x.count(1), 1);
        due("times known", x.count(4), 4);
        due("open", x.count(5), 3);
        due("out", x.count(6), 1);
        due("renewal", x.count(7), 4);
        due("undone", x.count(8), 1);
        x.days(3, 4);
        due("renewal", x.count(7), 1);
        x.days(1, 4);
        due("renewal", x.count(7), 5);
        due("none open", x.count(5), 0);
        due("what -1", x.count(-1), SealedLips.BAD);
        due("what 9", x.count(9), SealedLips.BAD);
    }
}
