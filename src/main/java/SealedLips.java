import java.util.Arrays;

/** A cautious court whose persons wear a wax seal for each thing of state that they know. */
public final class SealedLips {
    public static final int BAD = -1, NOT = -2, FULL = -3, NONE = -4, NULL = -11, CAST = -12, INDEX = -13, SIZE = -14;

    private static final int MOST_PERSONS = 6;
    private static final int THINGS = 8;
    private static final int MOST_HEAT = 9;
    private static final int MOST_WAX = 9;
    private static final int LEAST_WEEK = 2;
    private static final int MOST_WEEK = 30;
    private static final int MOST_FORETOLD = 60;
    private static final int MOST_SAFE_DAYS = 30;
    private static final int MOST_TABLE_DAYS = 20;
    private static final int MOST_TOLD_DAYS = 6;
    private static final int MOST_LIVED = 40;
    private static final int LAST_DAY = 9999;
    private static final int MOST_UNDONE = 8;
    private static final int TAPE_LENGTH = 70;
    private static final int FAULT = -20;
    private static final int SHEETS = 4;
    private static final int LANES = 4;
    private static final int MOST_ITEMS = 24;
    private static final int MOST_ORDERS = 120;

    private static final int PLAIN = 0, LAUGHER = 1, DUMB = 2, EATER = 3, DEAF = 4;
    private static final String KIND_LETTERS = "pldef";

    /*
     * What a person knows and how strong its seals are is a long each, with one byte for each thing,
     * so that a day treats all things of a person at once: many days are tried for one foretelling.
     */
    private static final long ONE_EACH = 0x0101010101010101L;
    private static final long TOP_EACH = 0x8080808080808080L;
    private static final long LOW_EACH = 0x7f7f7f7f7f7f7f7fL;
    private static final int LOW = 0x7f;

    private final Court now = new Court();
    private final Past past = new Past();
    private final Court imageCourt = new Court();
    private final Past imagePast = new Past();
    private boolean imaged;
    private final Court trial = new Court();
    private final int[] order = new int[MOST_PERSONS];
    private final int[] bestOrder = new int[MOST_PERSONS];
    private final Tape tape = new Tape();
    private final Sheet[] sheets = new Sheet[SHEETS];

    public SealedLips() {
        for (int s = 0; s < SHEETS; s++) {
            sheets[s] = new Sheet();
        }
    }

    // ---- 1 persons, things

    public int person(int kind) {
        if (!within(kind, PLAIN, DEAF)) {
            return BAD;
        }
        if (now.persons == MOST_PERSONS) {
            return FULL;
        }
        past.forget();
        return now.seatNew(kind);
    }

    public int of(int person, int what) {
        if (!isPerson(person)) {
            return BAD;
        }
        switch (what) {
            case 0: return now.kinds[person];
            case 1: return asSet(now.knows[person]);
            case 2: return asSet(now.openOf(person));
            case 3: return now.rankOf(person);
            case 4: return now.beside(person, 1);
            case 5: return now.beside(person, now.persons - 1);
            default: return BAD;
        }
    }

    public int strength(int person, int thing) {
        if (!isPerson(person) || !isThing(thing)) {
            return BAD;
        }
        return now.isKnownBy(person, thing) ? now.strengthOf(person, thing) : NONE;
    }

    public int known(int thing) {
        return isThing(thing) ? now.knowersOf(thing) : BAD;
    }

    public int seats(int person, int other) {
        if (!isPerson(person) || !isPerson(other) || person == other) {
            return BAD;
        }
        now.swapSeats(person, other);
        return now.beside(person, 1);
    }

    public int rule(int what, int v) {
        if (what == 0 && within(v, 1, MOST_WAX)) {
            int was = now.wax;
            now.wax = v;
            return was;
        }
        if (what == 1 && within(v, LEAST_WEEK, MOST_WEEK)) {
            int was = now.week;
            now.week = v;
            return was;
        }
        return BAD;
    }

    public int type(int letter) {
        if (!within(letter, ' ', '~')) {
            return BAD;
        }
        return tape.length == TAPE_LENGTH ? FULL : tape.append(letter);
    }

    public int court() {
        int fault = tape.readCourt(trial);
        tape.length = 0;
        if (fault != 0) {
            return fault;
        }
        trial.draw = now.draw;
        now.become(trial);
        past.forget();
        return now.persons;
    }

    public int count(int what) {
        switch (what) {
            case 0: return now.persons;
            case 1: return now.day;
            case 2: return now.wax;
            case 3: return now.week;
            case 4: return now.timesKnown();
            case 5: return now.timesOpen();
            case 6: return now.thingsOut();
            case 7: return now.daysToRenewal();
            case 8: return past.steps;
            default: return BAD;
        }
    }

    // ---- what is done

    public int trust(int person, int thing) {
        if (!isPerson(person) || !isThing(thing)) {
            return BAD;
        }
        if (now.isKnownBy(person, thing)) {
            return NOT;
        }
        past.keep(now);
        now.learn(person, thing, now.wax);
        return now.rankOf(person);
    }

    public int seal(int person, int thing) {
        if (!isPerson(person) || !isThing(thing)) {
            return BAD;
        }
        if (!now.isKnownBy(person, thing)) {
            return NOT;
        }
        int was = now.strengthOf(person, thing);
        past.keep(now);
        now.learn(person, thing, now.wax);
        return was;
    }

    public int days(int n, int h) {
        if (!within(n, 1, MOST_LIVED) || !isHeat(h)) {
            return BAD;
        }
        if (now.day + n > LAST_DAY) {
            return FULL;
        }
        for (int d = 0; d < n; d++) {
            past.keep(now);
            now.live(h);
        }
        return now.timesKnown();
    }

    public int drift(int n) {
        if (!within(n, 1, MOST_LIVED)) {
            return BAD;
        }
        if (now.day + n > LAST_DAY) {
            return FULL;
        }
        for (int d = 0; d < n; d++) {
            // kept ahead of the draw: a day that is undone gives its draw back
            past.keep(now);
            now.live(now.drawHeat());
        }
        return now.timesKnown();
    }

    public int undo() {
        if (past.steps == 0) {
            return NONE;
        }
        past.takeBack(now);
        return past.steps;
    }

    public int seed(int v) {
        if (v < 0) {
            return BAD;
        }
        int was = now.draw;
        now.draw = v;
        return was;
    }

    // ---- 2 foretold

    public int ahead(int thing, int n, int h) {
        if (!isThing(thing) || !within(n, 0, MOST_FORETOLD) || !isHeat(h)) {
            return BAD;
        }
        trial.become(now);
        trial.liveDays(n, h);
        return trial.knowersOf(thing);
    }

    public int rankAhead(int person, int n, int h) {
        if (!isPerson(person) || !within(n, 0, MOST_FORETOLD) || !isHeat(h)) {
            return BAD;
        }
        trial.become(now);
        trial.liveDays(n, h);
        return trial.rankOf(person);
    }

    public int leaks(int n, int h) {
        if (!within(n, 0, MOST_FORETOLD) || !isHeat(h)) {
            return BAD;
        }
        trial.become(now);
        return trial.liveDays(n, h);
    }

    public int out(int thing, int h) {
        if (!isThing(thing) || !isHeat(h)) {
            return BAD;
        }
        trial.become(now);
        return trial.firstOut(thing, MOST_FORETOLD, h);
    }

    public int cool(int n) {
        if (!within(n, 1, MOST_SAFE_DAYS)) {
            return BAD;
        }
        for (int h = MOST_HEAT; h >= 0; h--) {
            trial.become(now);
            if (trial.liveUntilLeaks(n, h, 1) == 0) {
                return h;
            }
        }
        return NONE;
    }

    public int thick(int n, int h) {
        if (!within(n, 1, MOST_SAFE_DAYS) || !isHeat(h)) {
            return BAD;
        }
        for (int wax = 1; wax <= MOST_WAX; wax++) {
            trial.become(now);
            trial.wax = wax;
            trial.renewAll();
            if (trial.liveUntilLeaks(n, h, 1) == 0) {
                return wax;
            }
        }
        return NONE;
    }

    public int renew(int thing, int n, int h, int k, int what) {
        if (!isThing(thing) || !within(n, 0, MOST_FORETOLD) || !isHeat(h)) {
            return BAD;
        }
        if (!within(k, 0, MOST_PERSONS) || !within(what, 0, 1)) {
            return BAD;
        }
        int best = leastRenewed(thing, n, h, k);
        if (best < 0) {
            return NONE;
        }
        return what == 0 ? Integer.bitCount(best) : best;
    }

    public int table(int n, int h, int k) {
        if (!within(n, 1, MOST_TABLE_DAYS) || !isHeat(h) || k < -1) {
            return BAD;
        }
        if (k >= now.persons) {
            return NONE;
        }
        int least = layBestOrder(n, h);
        return k < 0 ? least : bestOrder[k];
    }

    public int rivals(int what) {
        if (!within(what, 0, 1)) {
            return BAD;
        }
        int pairs = 0;
        int first = NONE;
        for (int i = 0; i < now.persons; i++) {
            for (int j = i + 1; j < now.persons; j++) {
                if (now.knows[i] != 0 && now.knows[i] == now.knows[j]) {
                    first = pairs == 0 ? 10 * i + j : first;
                    pairs++;
                }
            }
        }
        return what == 0 ? pairs : first;
    }

    public int from(int thing, int n, int h) {
        if (!isThing(thing) || !within(n, 0, MOST_FORETOLD) || !isHeat(h)) {
            return BAD;
        }
        int set = 0;
        for (int p = 0; p < now.persons; p++) {
            trial.become(now);
            trial.forgetThing(thing);
            trial.learn(p, thing, 0);
            if (trial.firstOut(thing, n, h) == n) {
                set |= 1 << p;
            }
        }
        return set;
    }

    public int image() {
        imageCourt.become(now);
        imagePast.become(past);
        imaged = true;
        return 1;
    }

    public int restore() {
        if (!imaged) {
            return NONE;
        }
        now.become(imageCourt);
        past.become(imagePast);
        return 1;
    }

    // ---- 3 sheets

    public int told(int thing, int sheet, int lane, int i, int n) {
        if (!isThing(thing) || !isSheet(sheet) || !isLane(lane) || !within(n, 1, MOST_TOLD_DAYS)) {
            return BAD;
        }
        int refusal = sheets[sheet].refusal(lane, i, n);
        if (refusal != 0) {
            return refusal;
        }
        int set = 0;
        for (int h = 0; h <= MOST_HEAT; h++) {
            if (wouldBeAsTold(thing, sheets[sheet], i, n, h)) {
                set |= 1 << h;
            }
        }
        return set;
    }

    public int film(int thing, int n, int h, int sheet, int lane, int i) {
        if (!isThing(thing) || !within(n, 1, MOST_ITEMS) || !isHeat(h) || !isSheet(sheet) || !isLane(lane)) {
            return BAD;
        }
        Sheet row = sheets[sheet];
        int refusal = row.refusal(lane, i, n);
        if (refusal != 0) {
            return refusal;
        }
        trial.become(now);
        for (int d = 0; d < n; d++) {
            trial.live(h);
            row.put(i + d, trial.knowersOf(thing));
        }
        return n;
    }

    public int sheet(int sheet, int lane, int n) {
        if (!isSheet(sheet) || !isLane(lane) || n > MOST_ITEMS) {
            return BAD;
        }
        if (n < 0) {
            return SIZE;
        }
        sheets[sheet].begin(lane, n);
        return n;
    }

    public int drop(int sheet) {
        if (!isSheet(sheet)) {
            return BAD;
        }
        if (sheets[sheet].isMissing()) {
            return NULL;
        }
        int had = sheets[sheet].length;
        sheets[sheet].lose();
        return had;
    }

    public int item(int sheet, int lane, int i, long v) {
        if (!isSheet(sheet) || !isLane(lane)) {
            return BAD;
        }
        int refusal = sheets[sheet].refusal(lane, i, 1);
        if (refusal != 0) {
            return refusal;
        }
        sheets[sheet].put(i, v);
        return 1;
    }

    public int copy(int from, int i, int to, int j, int n) {
        if (!isSheet(from) || !isSheet(to)) {
            return BAD;
        }
        Sheet source = sheets[from];
        Sheet target = sheets[to];
        if (source.isMissing() || target.isMissing()) {
            return NULL;
        }
        if (source.lane != target.lane) {
            return CAST;
        }
        if (!source.holds(i, n) || !target.holds(j, n)) {
            return INDEX;
        }
        System.arraycopy(source.items, i, target.items, j, n);
        return n;
    }

    // ---- what is asked of numbers

    private static boolean within(int v, int least, int most) {
        return v >= least && v <= most;
    }

    private boolean isPerson(int person) {
        return within(person, 0, now.persons - 1);
    }

    private static boolean isThing(int thing) {
        return within(thing, 0, THINGS - 1);
    }

    private static boolean isHeat(int h) {
        return within(h, 0, MOST_HEAT);
    }

    private static boolean isSheet(int sheet) {
        return within(sheet, 0, SHEETS - 1);
    }

    private static boolean isLane(int lane) {
        return within(lane, 0, LANES - 1);
    }

    // ---- what is tried out

    /** The smallest set of knowers, of like ones the least, whose new seals keep a thing among k; -1 if there is none. */
    private int leastRenewed(int thing, int n, int h, int k) {
        int knowers = now.knowersOf(thing);
        int best = -1;
        int fewest = MOST_PERSONS + 1;
        for (int set = 0; set < 1 << MOST_PERSONS; set++) {
            boolean better = (set & ~knowers) == 0 && Integer.bitCount(set) < fewest;
            if (better && knowersIfRenewed(thing, set, n, h) <= k) {
                best = set;
                fewest = Integer.bitCount(set);
            }
        }
        return best;
    }

    private int knowersIfRenewed(int thing, int set, int n, int h) {
        trial.become(now);
        for (int p = 0; p < trial.persons; p++) {
            if ((set >> p & 1) != 0) {
                trial.learn(p, thing, trial.wax);
            }
        }
        trial.liveDays(n, h);
        return Integer.bitCount(trial.knowersOf(thing));
    }

    /** Puts the first order of least leaks into bestOrder and answers how much leaks by it. */
    private int layBestOrder(int n, int h) {
        for (int p = 0; p < MOST_PERSONS; p++) {
            order[p] = p;
        }
        // more than all things known by all, so that the first order is better
        int least = MOST_PERSONS * THINGS + 1;
        for (int turn = 0; turn < MOST_ORDERS && least > 0; turn++) {
            trial.become(now);
            System.arraycopy(order, 0, trial.seating, 0, MOST_PERSONS);
            int leaking = trial.liveUntilLeaks(n, h, least);
            if (leaking < least) {
                least = leaking;
                System.arraycopy(order, 0, bestOrder, 0, MOST_PERSONS);
            }
            if (!turnToNextOrder(now.persons)) {
                break;
            }
        }
        return least;
    }

    /** The next of the rising orders in which the first place stays; false behind the last one. */
    private boolean turnToNextOrder(int size) {
        int pivot = size - 2;
        while (pivot >= 1 && order[pivot] > order[pivot + 1]) {
            pivot--;
        }
        if (pivot < 1) {
            return false;
        }
        int above = size - 1;
        while (above > pivot && order[above] < order[pivot]) {
            above--;
        }
        swapInOrder(pivot, above);
        for (int i = pivot + 1, j = size - 1; i < j; i++, j--) {
            swapInOrder(i, j);
        }
        return true;
    }

    private void swapInOrder(int i, int j) {
        int kept = order[i];
        order[i] = order[j];
        order[j] = kept;
    }

    private boolean wouldBeAsTold(int thing, Sheet row, int i, int n, int h) {
        trial.become(now);
        for (int d = 0; d < n; d++) {
            trial.live(h);
            if (row.items[i + d] != trial.knowersOf(thing)) {
                return false;
            }
        }
        return true;
    }

    // ---- a byte for each thing

    private static long byteOf(int thing) {
        return 1L << 8 * thing;
    }

    /** Ones in the bytes of seals that are not broken. */
    private static long sealedIn(long seals) {
        return (seals + LOW_EACH & TOP_EACH) >>> 7;
    }

    /** Each seal less by so much, 0 at least. */
    private static long weaker(long seals, int by) {
        // the top bit of each byte is lent, so that no byte borrows from the next; it is left where the seal holds
        long less = (seals | TOP_EACH) - ONE_EACH * by;
        long held = (less & TOP_EACH) >>> 7;
        return less & held * LOW;
    }

    private static int asSet(long bytes) {
        int set = 0;
        for (int t = 0; t < THINGS; t++) {
            set |= (int) (bytes >>> 8 * t & 1) << t;
        }
        return set;
    }

    // ---- kinds

    private static int weakening(int kind, int h, int day) {
        switch (kind) {
            case PLAIN: return h / 2;
            case LAUGHER: return h / 2 + 1;
            case EATER: return day % 3 == 0 ? 2 * (h / 2 + 1) : h / 2 + 1;
            default: return 0;
        }
    }

    private static boolean tells(int kind) {
        return kind != DUMB && kind != DEAF;
    }

    private static boolean hears(int kind) {
        return kind != DEAF;
    }

    /** Persons at their table, what they know, and the rules and the day of it. */
    private static final class Court {
        private final int[] kinds = new int[MOST_PERSONS];
        private final int[] seating = new int[MOST_PERSONS];
        private final long[] knows = new long[MOST_PERSONS];
        private final long[] seals = new long[MOST_PERSONS];
        private final long[] telling = new long[MOST_PERSONS];
        private int persons;
        private int wax = 5;
        private int week = 7;
        private int day;
        private int draw = 1;

        private void become(Court other) {
            System.arraycopy(other.kinds, 0, kinds, 0, MOST_PERSONS);
            System.arraycopy(other.seating, 0, seating, 0, MOST_PERSONS);
            System.arraycopy(other.knows, 0, knows, 0, MOST_PERSONS);
            System.arraycopy(other.seals, 0, seals, 0, MOST_PERSONS);
            persons = other.persons;
            wax = other.wax;
            week = other.week;
            day = other.day;
            draw = other.draw;
        }

        private void empty() {
            persons = 0;
            day = 0;
        }

        /** Its number; there must be room. */
        private int seatNew(int kind) {
            int person = persons;
            kinds[person] = kind;
            seating[person] = person;
            knows[person] = 0;
            seals[person] = 0;
            persons++;
            return person;
        }

        private int placeOf(int person) {
            int place = 0;
            for (int i = 0; i < persons; i++) {
                place = seating[i] == person ? i : place;
            }
            return place;
        }

        /** Who sits so many places behind a person, fewer than there are. */
        private int beside(int person, int places) {
            return seating[around(placeOf(person) + places)];
        }

        private int around(int place) {
            return place >= persons ? place - persons : place;
        }

        private void swapSeats(int person, int other) {
            int place = placeOf(person);
            int otherPlace = placeOf(other);
            seating[place] = other;
            seating[otherPlace] = person;
        }

        private boolean isKnownBy(int person, int thing) {
            return (knows[person] & byteOf(thing)) != 0;
        }

        private int strengthOf(int person, int thing) {
            return (int) (seals[person] >>> 8 * thing) & LOW;
        }

        /** A person knows a thing, whether it did or not, by a seal of this strength. */
        private void learn(int person, int thing, int strength) {
            long one = byteOf(thing);
            knows[person] |= one;
            seals[person] = seals[person] & ~(one * LOW) | one * strength;
        }

        private void forgetThing(int thing) {
            long one = byteOf(thing);
            for (int p = 0; p < persons; p++) {
                knows[p] &= ~one;
                seals[p] &= ~(one * LOW);
            }
        }

        private long openOf(int person) {
            return knows[person] & ~sealedIn(seals[person]);
        }

        private int rankOf(int person) {
            return Long.bitCount(sealedIn(seals[person]));
        }

        private int knowersOf(int thing) {
            int set = 0;
            for (int p = 0; p < persons; p++) {
                set |= (int) (knows[p] >>> 8 * thing & 1) << p;
            }
            return set;
        }

        private boolean isOut(int thing) {
            return persons > 0 && knowersOf(thing) == (1 << persons) - 1;
        }

        private int thingsOut() {
            int set = 0;
            for (int t = 0; t < THINGS; t++) {
                set |= isOut(t) ? 1 << t : 0;
            }
            return set;
        }

        private int timesKnown() {
            int times = 0;
            for (int p = 0; p < persons; p++) {
                times += Long.bitCount(knows[p]);
            }
            return times;
        }

        private int timesOpen() {
            int times = 0;
            for (int p = 0; p < persons; p++) {
                times += Long.bitCount(openOf(p));
            }
            return times;
        }

        private int daysToRenewal() {
            return week > 0 ? week - day % week : 0;
        }

        private void renewAll() {
            for (int p = 0; p < persons; p++) {
                seals[p] = knows[p] * wax;
            }
        }

        /** The draw goes on: the heat that it tells. */
        private int drawHeat() {
            draw = draw * 1103515245 + 12345 & 0x7fffffff;
            return draw / 65536 % 10;
        }

        /** A day of heat h: how many times a thing is heard by one who did not know it. */
        private int live(int h) {
            for (int p = 0; p < persons; p++) {
                seals[p] = weaker(seals[p], weakening(kinds[p], h, day));
                telling[p] = tells(kinds[p]) ? openOf(p) : 0;
            }
            int leaked = hearAll();
            day++;
            if (daysToRenewal() == week) {
                renewAll();
            }
            return leaked;
        }

        private int hearAll() {
            int leaked = 0;
            for (int place = 0; place < persons; place++) {
                int person = seating[place];
                long beside = telling[seating[around(place + 1)]] | telling[seating[around(place + persons - 1)]];
                long news = beside & ~knows[person];
                if (news != 0 && hears(kinds[person])) {
                    knows[person] |= news;
                    leaked += Long.bitCount(news);
                }
            }
            return leaked;
        }

        /** n days of heat h: how much leaks. */
        private int liveDays(int n, int h) {
            int leaked = 0;
            for (int d = 0; d < n; d++) {
                leaked += live(h);
            }
            return leaked;
        }

        /** As liveDays, but it ends early once so much has leaked: nothing that has leaked comes back. */
        private int liveUntilLeaks(int n, int h, int enough) {
            int leaked = 0;
            for (int d = 0; d < n && leaked < enough; d++) {
                leaked += live(h);
            }
            return leaked;
        }

        /** The first of 0 to most days of heat h behind which a thing is out, or NONE. */
        private int firstOut(int thing, int most, int h) {
            for (int d = 0; d < most; d++) {
                if (isOut(thing)) {
                    return d;
                }
                live(h);
            }
            return isOut(thing) ? most : NONE;
        }
    }

    /** What a court was ahead of the latest steps that may be undone, in a ring. */
    private static final class Past {
        private final long[] knows = new long[MOST_UNDONE * MOST_PERSONS];
        private final long[] seals = new long[MOST_UNDONE * MOST_PERSONS];
        private final int[] dates = new int[MOST_UNDONE];
        private final int[] draws = new int[MOST_UNDONE];
        private int next;
        private int steps;

        private void become(Past other) {
            System.arraycopy(other.knows, 0, knows, 0, MOST_UNDONE * MOST_PERSONS);
            System.arraycopy(other.seals, 0, seals, 0, MOST_UNDONE * MOST_PERSONS);
            System.arraycopy(other.dates, 0, dates, 0, MOST_UNDONE);
            System.arraycopy(other.draws, 0, draws, 0, MOST_UNDONE);
            next = other.next;
            steps = other.steps;
        }

        private void forget() {
            steps = 0;
        }

        private void keep(Court court) {
            System.arraycopy(court.knows, 0, knows, next * MOST_PERSONS, MOST_PERSONS);
            System.arraycopy(court.seals, 0, seals, next * MOST_PERSONS, MOST_PERSONS);
            dates[next] = court.day;
            draws[next] = court.draw;
            next = (next + 1) % MOST_UNDONE;
            steps = Math.min(steps + 1, MOST_UNDONE);
        }

        /** The latest step comes back into a court; there must be one. */
        private void takeBack(Court court) {
            next = (next + MOST_UNDONE - 1) % MOST_UNDONE;
            steps--;
            System.arraycopy(knows, next * MOST_PERSONS, court.knows, 0, MOST_PERSONS);
            System.arraycopy(seals, next * MOST_PERSONS, court.seals, 0, MOST_PERSONS);
            court.day = dates[next];
            court.draw = draws[next];
        }
    }

    /** Typed letters, read as a court. */
    private static final class Tape {
        private static final int END = 0;

        private final int[] letters = new int[TAPE_LENGTH];
        private int length;
        private int at;

        /** How many letters there are then; there must be room. */
        private int append(int letter) {
            letters[length] = letter;
            length++;
            return length;
        }

        /** Fills a court by what is typed: 0, or the fault, and then the court is of no use. */
        private int readCourt(Court into) {
            at = 0;
            into.empty();
            int fault = readRules(into);
            return fault != 0 ? fault : readPersons(into);
        }

        private int readRules(Court into) {
            into.wax = peek() - '0';
            if (!within(into.wax, 1, MOST_WAX)) {
                return faultHere();
            }
            at++;
            if (peek() != '/') {
                return faultHere();
            }
            at++;
            peek();
            int faultOfNumber = faultHere();
            into.week = readNumber();
            if (!within(into.week, LEAST_WEEK, MOST_WEEK)) {
                return faultOfNumber;
            }
            if (peek() != ';') {
                return faultHere();
            }
            at++;
            return 0;
        }

        private int readPersons(Court into) {
            for (int p = 0; p < MOST_PERSONS; p++) {
                int kind = KIND_LETTERS.indexOf((char) peek());
                if (!within(kind, PLAIN, DEAF)) {
                    return faultHere();
                }
                at++;
                readThings(into, into.seatNew(kind));
                if (peek() == END) {
                    return 0;
                }
                if (peek() != ',' || p == MOST_PERSONS - 1) {
                    return faultHere();
                }
                at++;
            }
            return faultHere();
        }

        private void readThings(Court into, int person) {
            int least = 0;
            for (int i = 0; i < THINGS && within(peek() - '0', least, THINGS - 1); i++) {
                int thing = peek() - '0';
                into.learn(person, thing, into.wax);
                least = thing + 1;
                at++;
            }
        }

        /** A number of 1 or 2 digits that starts here, or -1. */
        private int readNumber() {
            int number = -1;
            for (int i = 0; i < 2 && at < length && within(letters[at], '0', '9'); i++) {
                number = Math.max(number, 0) * 10 + letters[at] - '0';
                at++;
            }
            return number;
        }

        /** Passes over blanks: the letter behind them, or END. */
        private int peek() {
            while (at < length && letters[at] == ' ') {
                at++;
            }
            return at < length ? letters[at] : END;
        }

        private int faultHere() {
            return FAULT - at;
        }
    }

    /** Nothing, or a row of a lane; its items are held as longs already cut to the lane. */
    private static final class Sheet {
        private static final int MISSING = -1;

        private final long[] items = new long[MOST_ITEMS];
        private int lane = MISSING;
        private int length;

        private boolean isMissing() {
            return lane == MISSING;
        }

        private void begin(int newLane, int n) {
            Arrays.fill(items, 0L);
            lane = newLane;
            length = n;
        }

        private void lose() {
            lane = MISSING;
            length = 0;
        }

        private boolean holds(int i, int n) {
            return i >= 0 && n >= 0 && i <= length - n;
        }

        /** What is amiss with n items from i on, taken as a row of a lane; 0 if nothing is. */
        private int refusal(int asLane, int i, int n) {
            if (isMissing()) {
                return NULL;
            }
            if (lane != asLane) {
                return CAST;
            }
            return holds(i, n) ? 0 : INDEX;
        }

        private void put(int i, long v) {
            switch (lane) {
                case 0: items[i] = (byte) v; break;
                case 1: items[i] = (short) v; break;
                case 2: items[i] = (int) v; break;
                default: items[i] = v; break;
            }
        }
    }
}
