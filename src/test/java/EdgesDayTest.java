/** Boundary cases of a day: seals, kinds, who hears, weeks, rank, what is out. */
public final class EdgesDayTest {
    private static final String ALL_THINGS = "01234567";

    private static void due(String call, long got, long want) {
        Check.due(call, got, want);
    }

    public static void main(String[] args) {
        atFirst();
        weakening();
        seals();
        sealsBesideEachOther();
        thirdDays();
        weekEnds();
        changedWeeks();
        bothMultiples();
        alone();
        two();
        inARound();
        atOnce();
        keepsItsSeal();
        whoTells();
        ranks();
        outOfNobody();
        howManyAreOpen();
        Check.allNamed(1, 3);
        Check.finish();
    }

    private static void atFirst() {
        Check.edge(1, "A court, nobody");
        SealedLips x = new SealedLips();
        due("persons", x.count(0), 0);
        due("person 0", x.of(0, 0), SealedLips.BAD);
        due("times known", x.count(4), 0);
        due("rivals", x.rivals(0), 0);
        Check.edge(1, "It is DAY 0 at first");
        due("day", x.count(1), 0);
        Check.edge(1, "WAX is 1 .. 9 (5 at first)");
        due("wax", x.count(2), 5);
        Check.edge(1, "WEEK 2 .. 30 DAYS (7 at first)");
        due("week", x.count(3), 7);
        due("to the next renewal", x.count(7), 7);
        Check.edge(1, "THE DRAW (1 at first)");
        due("draw", x.seed(1), 1);
        Check.edge(2, "of each a person KNOWS it or not (not at first)");
        x.person(0);
        due("knows", x.of(0, 1), 0);
        for (int thing = 0; thing < 8; thing++) {
            due("strength", x.strength(0, thing), SealedLips.NONE);
        }
    }

    /** Persons of each kind, by how much their seals weaken on day 0 and on day 1. */
    private static void weakening() {
        int[] halves = {0, 0, 1, 1, 2, 2, 3, 3, 4, 4};
        for (int h = 0; h <= 9; h++) {
            for (int day = 0; day < 2; day++) {
                SealedLips x = Check.at("9/30;p,l,d,e,f");
                if (day == 1) {
                    x.days(1, 0);
                }
                for (int p = 0; p < 5; p++) {
                    x.trust(p, p);
                }
                x.days(1, h);
                Check.edge(13, "PLAIN: a half of h, cut");
                due("heat " + h, x.strength(0, 0), 9 - halves[h]);
                Check.edge(13, "LAUGHER: 1 more");
                due("heat " + h, x.strength(1, 1), 9 - halves[h] - 1);
                Check.edge(13, "DUMB: not at all");
                due("heat " + h, x.strength(2, 2), 9);
                Check.edge(13, "EATER: twice as much on DAYS that are a multiple of 3 (0, too)");
                due("heat " + h, x.strength(3, 3), Math.max(0, 9 - (halves[h] + 1) * (day == 0 ? 2 : 1)));
                Check.edge(13, "DEAF: as DUMB");
                due("heat " + h, x.strength(4, 4), 9);
            }
        }
    }

    private static void seals() {
        // by how much a day of the heat weakens: PLAIN 0 to 4, LAUGHER to 5, EATER on day 0 to 10
        char[] kinds = {'p', 'l', 'e'};
        for (int wax = 1; wax <= 9; wax++) {
            for (int kind = 0; kind < 3; kind++) {
                for (int h = 0; h <= 9; h++) {
                    int less = kind == 0 ? h / 2 : (h / 2 + 1) * kind;
                    SealedLips x = Check.at(wax + "/30;" + kinds[kind] + ALL_THINGS);
                    x.days(1, h);
                    Check.edge(13, "each SEAL is weaker (0 at least)");
                    for (int thing = 0; thing < 8; thing++) {
                        due("wax " + wax + " less " + less, x.strength(0, thing), Math.max(0, wax - less));
                    }
                    Check.edge(3, "0: none, it is OPEN");
                    due("open", x.of(0, 2), wax <= less ? 255 : 0);
                    due("rank", x.of(0, 3), wax <= less ? 0 : 8);
                }
            }
        }
    }

    /** Each thing in turn has a strong seal among weak ones, a weak one among strong ones. */
    private static void sealsBesideEachOther() {
        Check.edge(13, "each SEAL by itself");
        for (int odd = 0; odd < 8; odd++) {
            for (int wax = 1; wax <= 9; wax += 8) {
                SealedLips x = Check.at(wax + "/30;l");
                for (int thing = 0; thing < 8; thing++) {
                    x.rule(0, thing == odd ? 10 - wax : wax);
                    x.trust(0, thing);
                }
                x.days(1, 2);
                for (int thing = 0; thing < 8; thing++) {
                    due("thing " + thing, x.strength(0, thing), (thing == odd) == (wax == 1) ? 7 : 0);
                }
                due("open", x.of(0, 2), wax == 1 ? 255 - (1 << odd) : 1 << odd);
                due("rank", x.of(0, 3), wax == 1 ? 1 : 7);
            }
        }
        Check.edge(13, "a SEAL of 0 stays 0");
        SealedLips x = Check.at("1/30;l" + ALL_THINGS);
        x.days(40, 9);
        x.rule(1, 2);
        due("day", x.count(1), 40);
        x.days(1, 9);
        for (int thing = 0; thing < 8; thing++) {
            due("strength", x.strength(0, thing), 0);
        }
    }

    private static void thirdDays() {
        Check.edge(13, "DAYS that are a multiple of 3 (0, too)");
        for (int day = 0; day <= 31; day++) {
            SealedLips x = Check.at("9/30;e");
            if (day > 0) {
                x.days(day, 0);
            }
            // else day 30 would renew it
            x.rule(1, day == 29 ? 29 : 30);
            x.trust(0, 0);
            x.days(1, 0);
            due("day " + day, x.strength(0, 0), day % 3 == 0 ? 7 : 8);
        }
    }

    private static void weekEnds() {
        for (int week = 2; week <= 30; week++) {
            SealedLips x = new SealedLips();
            Check.court(x, "9/" + week + ";l0,f");
            for (int day = 1; day <= 2 * week; day++) {
                x.days(1, 0);
                Check.edge(13, "a multiple of WEEK: all SEALS are of STRENGTH WAX again");
                int since = day % week;
                due("week " + week + " day " + day, x.strength(0, 0), Math.max(0, 9 - since));
                Check.edge(10, "DAYS to the next renewal (1 to WEEK)");
                due("week " + week + " day " + day, x.count(7), week - since);
            }
            Check.edge(13, "SEALS of what is KNOWN: no other");
            due("the deaf", x.strength(1, 0), SealedLips.NONE);
            due("the deaf", x.of(1, 3), 0);
        }
        Check.edge(13, "It is the next DAY: DAY 0 is no renewal");
        SealedLips x = Check.at("9/2;p0");
        x.rule(0, 3);
        due("day 0", x.strength(0, 0), 9);
        x.days(1, 0);
        due("day 1", x.strength(0, 0), 9);
        x.days(1, 0);
        due("day 2, weaker wax", x.strength(0, 0), 3);
    }

    private static void changedWeeks() {
        Check.edge(7, "WEEK becomes v: a multiple of it");
        SealedLips x = Check.at("9/7;l0");
        x.days(5, 0);
        due("to the renewal", x.count(7), 2);
        due("rule", x.rule(1, 5), 7);
        due("on such a DAY itself", x.count(7), 5);
        due("no renewal", x.strength(0, 0), 4);
        x.rule(1, 3);
        due("to the renewal", x.count(7), 1);
        x.days(1, 0);
        due("day 6", x.strength(0, 0), 9);
        x.rule(1, 30);
        due("to the renewal", x.count(7), 24);
        Check.edge(7, "WAX becomes v: no SEAL is changed until it is renewed");
        x.rule(0, 1);
        due("strength", x.strength(0, 0), 9);
        x.rule(1, 7);
        x.days(1, 9);
        due("day 7", x.strength(0, 0), 1);
    }

    private static void bothMultiples() {
        Check.edge(13, "a multiple of 3 and of WEEK");
        SealedLips x = Check.at("9/3;e0");
        int[] strengths = {7, 6, 9, 7, 6, 9};
        for (int d = 0; d < strengths.length; d++) {
            x.days(1, 0);
            due("behind " + (d + 1), x.strength(0, 0), strengths[d]);
        }
        Check.edge(13, "told, then the next DAY, then renewed");
        x = Check.at("6/4;e0,p");
        due("day 3 is doubled, told", x.days(4, 0), 2);
        due("renewed at once", x.strength(1, 0), 6);
        due("nothing is OPEN", x.count(5), 0);
    }

    private static void alone() {
        SealedLips x = Check.at("1/30;p0");
        Check.edge(3, "itself, if alone");
        due("behind", x.of(0, 4), 0);
        due("ahead", x.of(0, 5), 0);
        Check.edge(13, "one who sits alone tells itself alone");
        due("days", x.days(1, 9), 1);
        due("open", x.of(0, 2), 1);
        Check.edge(19, "one who sits alone: nothing LEAKS");
        due("leaks", x.leaks(60, 9), 0);
        Check.edge(10, "OUT is a THING that all PERSONS KNOW: one");
        due("out", x.count(6), 1);
    }

    private static void two() {
        SealedLips x = Check.at("1/30;p0,p7");
        Check.edge(3, "two: each is behind and ahead of the other");
        for (int p = 0; p < 2; p++) {
            due("behind", x.of(p, 4), 1 - p);
            due("ahead", x.of(p, 5), 1 - p);
        }
        Check.edge(6, "two change seats");
        due("seats", x.seats(0, 1), 1);
        due("ahead", x.of(0, 5), 1);
        Check.edge(19, "two: told from both sides, KNOWN once");
        due("leaks", x.leaks(1, 9), 2);
        Check.edge(13, "two: told from both sides, KNOWN once");
        due("days", x.days(1, 9), 4);
    }

    private static void inARound() {
        for (int size = 3; size <= 6; size++) {
            SealedLips x = new SealedLips();
            for (int p = 0; p < size; p++) {
                Check.edge(2, "each new one behind the last one, ahead of the first");
                due("person", x.person(0), p);
                due("behind", x.of(p, 4), 0);
                due("ahead of the first", x.of(0, 5), p);
                due("ahead of it", x.of(p, 5), p == 0 ? 0 : p - 1);
            }
            Check.edge(6, "the first and the last in the round change seats");
            due("behind the first", x.seats(0, size - 1), size - 1);
            due("behind the last", x.of(size - 1, 4), 1);
            due("ahead of the last", x.of(size - 1, 5), 0);
            due("ahead of the first", x.of(0, 5), size - 2);
            x.seats(size - 1, 0);
            Check.edge(13, "both who sit beside it, across the round's end");
            x.rule(0, 1);
            x.trust(0, 0);
            x.trust(size - 1, 1);
            due("days", x.days(1, 9), 6);
            due("of the first", x.known(0), 1 | 2 | 1 << size - 1);
            due("of the last", x.known(1), 1 | 1 << size - 1 | 1 << size - 2);
        }
        Check.edge(2, "behind the last one, where seats were changed");
        SealedLips x = Check.at("5/7;p,p,p");
        x.seats(2, 0);
        due("person", x.person(0), 3);
        due("ahead of it", x.of(3, 5), 0);
        due("behind it", x.of(3, 4), 2);
    }

    private static void atOnce() {
        Check.edge(13, "all at once: what one hears it tells the next DAY");
        SealedLips x = Check.at("1/30;p0,p,p,p,p,p");
        int[] sets = {0b100011, 0b110111, 0b111111};
        for (int set : sets) {
            x.days(1, 2);
            due("known", x.known(0), set);
        }
        x = Check.at("1/30;p,p,p,p,p,p0");
        int[] back = {0b110001, 0b111011, 0b111111};
        for (int set : back) {
            x.days(1, 2);
            due("known", x.known(0), set);
        }
    }

    private static void keepsItsSeal() {
        Check.edge(13, "whoever did keeps its SEAL");
        for (int wax = 1; wax <= 9; wax++) {
            SealedLips x = Check.at("1/30;p0,p,p");
            x.rule(0, wax);
            x.trust(1, 0);
            x.days(1, 2);
            due("weaker, not OPEN", x.strength(1, 0), wax - 1);
            due("heard", x.strength(2, 0), 0);
        }
    }

    private static void whoTells() {
        Check.edge(13, "a DUMB one HEARS, tells nothing");
        SealedLips x = Check.at("1/30;p0,d,p,p,p,f");
        due("days", x.days(3, 2), 2);
        due("known", x.known(0), 3);
        due("open", x.of(1, 2), 1);
        Check.edge(13, "a DEAF one HEARS nothing");
        due("the deaf", x.of(5, 1), 0);
        Check.edge(26, "a DEAF one tells nothing, OPEN, too");
        due("from", Check.at("5/30;f,p").from(0, 1, 0), 0);
        Check.edge(26, "a DUMB one tells nothing, OPEN, too");
        due("from", Check.at("5/30;d,p").from(0, 1, 0), 2);
        Check.edge(13, "LAUGHER, EATER tell and HEAR");
        due("laugher", Check.at("1/30;l0,e").days(1, 0), 2);
        due("eater", Check.at("1/30;e0,l").days(1, 0), 2);
    }

    private static void ranks() {
        Check.edge(3, "RANK: how many THINGS it KNOWS that are not OPEN");
        SealedLips x = Check.at("3/30;l");
        due("nothing", x.of(0, 3), 0);
        for (int thing = 0; thing < 8; thing++) {
            due("trust", x.trust(0, thing), thing + 1);
            due("rank", x.of(0, 3), thing + 1);
            due("things", x.of(0, 1), (2 << thing) - 1);
        }
        x.days(3, 0);
        due("all OPEN", x.of(0, 3), 0);
        due("open", x.of(0, 2), 255);
        for (int thing = 7; thing >= 0; thing--) {
            due("seal", x.seal(0, thing), 0);
            due("rank", x.of(0, 3), 8 - thing);
            due("open", x.of(0, 2), (1 << thing) - 1);
        }
        Check.edge(11, "RANK, where other THINGS are OPEN");
        x = Check.at("1/30;l0");
        x.days(1, 0);
        due("trust", x.trust(0, 7), 1);
    }

    private static void howManyAreOpen() {
        Check.edge(10, "how many of these are OPEN: none of nobody");
        due("open", new SealedLips().count(5), 0);
        SealedLips x = Check.at("1/30;p01234567,p,p,p,p,p");
        Check.edge(10, "how many times a THING is KNOWN, how many of these are OPEN: none, all");
        due("known", x.count(4), 8);
        due("open", x.count(5), 0);
        int[] times = {24, 40, 48, 48};
        for (int all : times) {
            x.days(1, 2);
            due("known", x.count(4), all);
            due("open", x.count(5), all);
        }
        Check.edge(10, "one of them is not OPEN");
        x.seal(0, 0);
        due("open", x.count(5), 47);
        x.seal(5, 7);
        due("open", x.count(5), 46);
        due("known", x.count(4), 48);
        Check.edge(10, "OPEN: none, behind a renewal");
        x.days(26, 0);
        due("open", x.count(5), 0);
        due("known", x.count(4), 48);
    }

    private static void outOfNobody() {
        Check.edge(10, "of none: no THING is OUT");
        SealedLips x = new SealedLips();
        due("out", x.count(6), 0);
        Check.edge(20, "of none: no THING is OUT");
        for (int thing = 0; thing < 8; thing++) {
            due("when", x.out(thing, 9), SealedLips.NONE);
        }
        Check.edge(26, "of none: no PERSON");
        due("from", x.from(0, 0, 0), 0);
        Check.edge(13, "nobody: DAYS go by");
        due("days", x.days(40, 9), 0);
        due("day", x.count(1), 40);
        due("steps", x.count(8), 8);
        Check.edge(10, "OUT: all PERSONS, one short of it is not");
        x = Check.at("5/7;p07,p07,p07,p07,p07,p7");
        due("out", x.count(6), 128);
        x.trust(5, 0);
        due("out", x.count(6), 129);
    }
}
