import java.lang.reflect.Array;
import java.util.ArrayList;
import java.util.Arrays;
import java.util.List;

/**
 * The document once more, in another way: each thing of each person by itself, everything copied, nothing packed,
 * nothing left early. ModelTest holds SealedLips against it.
 */
final class PlainCourt {
    private static final int BAD = -1, NOT = -2, FULL = -3, NONE = -4, NULL = -11, CAST = -12, INDEX = -13, SIZE = -14;

    private static class State {
        List<Integer> kinds = new ArrayList<>();
        List<Integer> round = new ArrayList<>();
        int[][] strength = new int[6][8];
        int wax = 5;
        int week = 7;
        int day = 0;
        long draw = 1;
        List<State> past = new ArrayList<>();

        State() {
            for (int[] row : strength) {
                Arrays.fill(row, -1);
            }
        }

        State twin() {
            State t = new State();
            t.kinds = new ArrayList<>(kinds);
            t.round = new ArrayList<>(round);
            for (int p = 0; p < 6; p++) {
                t.strength[p] = strength[p].clone();
            }
            t.wax = wax;
            t.week = week;
            t.day = day;
            t.draw = draw;
            t.past = new ArrayList<>(past);
            return t;
        }

        boolean knows(int p, int t) {
            return strength[p][t] >= 0;
        }

        int size() {
            return kinds.size();
        }

        int next(int p) {
            return round.get((round.indexOf(p) + 1) % size());
        }

        int previous(int p) {
            return round.get((round.indexOf(p) + size() - 1) % size());
        }

        int lossOf(int kind, int h) {
            if (kind == 0) {
                return h / 2;
            }
            if (kind == 1) {
                return lossOf(0, h) + 1;
            }
            if (kind == 3) {
                return day % 3 == 0 ? lossOf(1, h) * 2 : lossOf(1, h);
            }
            return 0;
        }

        void step(int h) {
            for (int p = 0; p < size(); p++) {
                for (int t = 0; t < 8; t++) {
                    if (knows(p, t)) {
                        strength[p][t] = Math.max(0, strength[p][t] - lossOf(kinds.get(p), h));
                    }
                }
            }
            boolean[][] heard = new boolean[6][8];
            for (int p = 0; p < size(); p++) {
                for (int t = 0; t < 8; t++) {
                    if (strength[p][t] == 0 && kinds.get(p) != 2 && kinds.get(p) != 4) {
                        heard[next(p)][t] = true;
                        heard[previous(p)][t] = true;
                    }
                }
            }
            for (int p = 0; p < size(); p++) {
                for (int t = 0; t < 8; t++) {
                    if (heard[p][t] && kinds.get(p) != 4 && !knows(p, t)) {
                        strength[p][t] = 0;
                    }
                }
            }
            day++;
            if (day % week == 0) {
                renewAll();
            }
        }

        void renewAll() {
            for (int p = 0; p < size(); p++) {
                for (int t = 0; t < 8; t++) {
                    if (knows(p, t)) {
                        strength[p][t] = wax;
                    }
                }
            }
        }

        int who(int t) {
            int set = 0;
            for (int p = 0; p < size(); p++) {
                set += knows(p, t) ? 1 << p : 0;
            }
            return set;
        }

        boolean out(int t) {
            boolean all = size() > 0;
            for (int p = 0; p < size(); p++) {
                all = all && knows(p, t);
            }
            return all;
        }

        int times(int least, int most) {
            int n = 0;
            for (int p = 0; p < size(); p++) {
                n += times(p, least, most);
            }
            return n;
        }

        int times(int p, int least, int most) {
            int n = 0;
            for (int t = 0; t < 8; t++) {
                n += strength[p][t] >= least && strength[p][t] <= most ? 1 : 0;
            }
            return n;
        }

        State behind(int n, int h) {
            State s = twin();
            for (int d = 0; d < n; d++) {
                s.step(h);
            }
            return s;
        }

        int leak(int n, int h) {
            return behind(n, h).times(0, 9) - times(0, 9);
        }

        int when(int t, int h) {
            for (int n = 0; n <= 60; n++) {
                if (behind(n, h).out(t)) {
                    return n;
                }
            }
            return NONE;
        }

        void remember() {
            past.add(twin());
            if (past.size() > 8) {
                past.remove(0);
            }
        }
    }

    private State now = new State();
    private State kept = null;
    private final StringBuilder tape = new StringBuilder();
    private final Object[] sheets = new Object[4];

    private boolean noPerson(int p) {
        return p < 0 || p >= now.size();
    }

    private static boolean not(int v, int least, int most) {
        return v < least || v > most;
    }

    int person(int kind) {
        if (not(kind, 0, 4)) {
            return BAD;
        }
        if (now.size() == 6) {
            return FULL;
        }
        now.kinds.add(kind);
        now.round.add(now.size() - 1);
        now.past.clear();
        return now.size() - 1;
    }

    int of(int person, int what) {
        if (noPerson(person) || not(what, 0, 5)) {
            return BAD;
        }
        int known = 0;
        int open = 0;
        for (int t = 0; t < 8; t++) {
            known += now.strength[person][t] >= 0 ? 1 << t : 0;
            open += now.strength[person][t] == 0 ? 1 << t : 0;
        }
        return new int[] {now.kinds.get(person), known, open, now.times(person, 1, 9), now.next(person), now.previous(person)}[what];
    }

    int strength(int person, int thing) {
        if (noPerson(person) || not(thing, 0, 7)) {
            return BAD;
        }
        return now.knows(person, thing) ? now.strength[person][thing] : NONE;
    }

    int known(int thing) {
        return not(thing, 0, 7) ? BAD : now.who(thing);
    }

    int seats(int person, int other) {
        if (noPerson(person) || noPerson(other) || person == other) {
            return BAD;
        }
        int a = now.round.indexOf(person);
        int b = now.round.indexOf(other);
        now.round.set(a, other);
        now.round.set(b, person);
        return now.next(person);
    }

    int rule(int what, int v) {
        if (not(what, 0, 1) || what == 0 && not(v, 1, 9) || what == 1 && not(v, 2, 30)) {
            return BAD;
        }
        int was = what == 0 ? now.wax : now.week;
        if (what == 0) {
            now.wax = v;
        } else {
            now.week = v;
        }
        return was;
    }

    int type(int letter) {
        if (not(letter, 32, 126)) {
            return BAD;
        }
        if (tape.length() == 70) {
            return FULL;
        }
        return tape.append((char) letter).length();
    }

    private static final class Fault extends RuntimeException {
        private static final long serialVersionUID = 1L;
        final int place;

        Fault(int place) {
            this.place = place;
        }
    }

    private int at;

    private char see() {
        while (at < tape.length() && tape.charAt(at) == ' ') {
            at++;
        }
        return at < tape.length() ? tape.charAt(at) : '\n';
    }

    private char take(String any) {
        char c = see();
        if (any.indexOf(c) < 0) {
            throw new Fault(at);
        }
        at++;
        return c;
    }

    private State parse() {
        State s = new State();
        at = 0;
        s.wax = take("123456789") - '0';
        take("/");
        see();
        int first = at;
        StringBuilder digits = new StringBuilder().append(take("0123456789"));
        if (at < tape.length() && Character.isDigit(tape.charAt(at))) {
            digits.append(tape.charAt(at++));
        }
        s.week = Integer.parseInt(digits.toString());
        if (not(s.week, 2, 30)) {
            throw new Fault(first);
        }
        take(";");
        while (true) {
            int p = s.size();
            s.kinds.add("pldef".indexOf(take("pldef")));
            s.round.add(p);
            String left = "01234567";
            while (see() != '\n' && left.indexOf(see()) >= 0) {
                int t = take(left) - '0';
                s.strength[p][t] = s.wax;
                left = "01234567".substring(t + 1);
            }
            if (see() == '\n') {
                return s;
            }
            take(s.size() < 6 ? "," : "");
        }
    }

    int court() {
        try {
            State s = parse();
            s.draw = now.draw;
            now = s;
            return s.size();
        } catch (Fault f) {
            return -20 - f.place;
        } finally {
            tape.setLength(0);
        }
    }

    int count(int what) {
        if (not(what, 0, 8)) {
            return BAD;
        }
        int out = 0;
        for (int t = 0; t < 8; t++) {
            out += now.out(t) ? 1 << t : 0;
        }
        int left = 1;
        while ((now.day + left) % now.week != 0) {
            left++;
        }
        return new int[] {now.size(), now.day, now.wax, now.week, now.times(0, 9), now.times(0, 0), out, left, now.past.size()}[what];
    }

    int trust(int person, int thing) {
        if (noPerson(person) || not(thing, 0, 7)) {
            return BAD;
        }
        if (now.knows(person, thing)) {
            return NOT;
        }
        now.remember();
        now.strength[person][thing] = now.wax;
        return now.times(person, 1, 9);
    }

    int seal(int person, int thing) {
        if (noPerson(person) || not(thing, 0, 7)) {
            return BAD;
        }
        if (!now.knows(person, thing)) {
            return NOT;
        }
        now.remember();
        int was = now.strength[person][thing];
        now.strength[person][thing] = now.wax;
        return was;
    }

    int days(int n, int h) {
        if (not(n, 1, 40) || not(h, 0, 9)) {
            return BAD;
        }
        if (now.day + n > 9999) {
            return FULL;
        }
        for (int d = 0; d < n; d++) {
            now.remember();
            now.step(h);
        }
        return now.times(0, 9);
    }

    int drift(int n) {
        if (not(n, 1, 40)) {
            return BAD;
        }
        if (now.day + n > 9999) {
            return FULL;
        }
        for (int d = 0; d < n; d++) {
            now.remember();
            now.draw = (now.draw * 1103515245L + 12345L) % (1L << 31);
            now.step((int) (now.draw / 65536 % 10));
        }
        return now.times(0, 9);
    }

    int undo() {
        if (now.past.isEmpty()) {
            return NONE;
        }
        State was = now.past.remove(now.past.size() - 1);
        for (int p = 0; p < 6; p++) {
            now.strength[p] = was.strength[p].clone();
        }
        now.day = was.day;
        now.draw = was.draw;
        return now.past.size();
    }

    int seed(int v) {
        if (v < 0) {
            return BAD;
        }
        int was = (int) now.draw;
        now.draw = v;
        return was;
    }

    int ahead(int thing, int n, int h) {
        return not(thing, 0, 7) || not(n, 0, 60) || not(h, 0, 9) ? BAD : now.behind(n, h).who(thing);
    }

    int rankAhead(int person, int n, int h) {
        return noPerson(person) || not(n, 0, 60) || not(h, 0, 9) ? BAD : now.behind(n, h).times(person, 1, 9);
    }

    int leaks(int n, int h) {
        return not(n, 0, 60) || not(h, 0, 9) ? BAD : now.leak(n, h);
    }

    int out(int thing, int h) {
        return not(thing, 0, 7) || not(h, 0, 9) ? BAD : now.when(thing, h);
    }

    int cool(int n) {
        if (not(n, 1, 30)) {
            return BAD;
        }
        int best = NONE;
        for (int h = 0; h <= 9; h++) {
            best = now.leak(n, h) == 0 ? h : best;
        }
        return best;
    }

    int thick(int n, int h) {
        if (not(n, 1, 30) || not(h, 0, 9)) {
            return BAD;
        }
        int best = NONE;
        for (int wax = 9; wax >= 1; wax--) {
            State s = now.twin();
            s.wax = wax;
            s.renewAll();
            best = s.leak(n, h) == 0 ? wax : best;
        }
        return best;
    }

    int renew(int thing, int n, int h, int k, int what) {
        if (not(thing, 0, 7) || not(n, 0, 60) || not(h, 0, 9) || not(k, 0, 6) || not(what, 0, 1)) {
            return BAD;
        }
        for (int size = 0; size <= 6; size++) {
            for (int set = 0; set < 64; set++) {
                if (Integer.bitCount(set) == size && (set | now.who(thing)) == now.who(thing)) {
                    State s = now.twin();
                    for (int p = 0; p < s.size(); p++) {
                        s.strength[p][thing] = (set >> p) % 2 == 1 ? s.wax : s.strength[p][thing];
                    }
                    if (Integer.bitCount(s.behind(n, h).who(thing)) <= k) {
                        return what == 0 ? size : set;
                    }
                }
            }
        }
        return NONE;
    }

    private int least;
    private List<Integer> laid;

    private void lay(List<Integer> order, int n, int h) {
        if (order.size() == now.size()) {
            State s = now.twin();
            s.round = new ArrayList<>(order);
            if (s.leak(n, h) < least) {
                least = s.leak(n, h);
                laid = new ArrayList<>(order);
            }
            return;
        }
        for (int p = order.isEmpty() ? 0 : 1; p < (order.isEmpty() ? 1 : now.size()); p++) {
            if (!order.contains(p)) {
                order.add(p);
                lay(order, n, h);
                order.remove(order.size() - 1);
            }
        }
    }

    int table(int n, int h, int k) {
        if (not(n, 1, 20) || not(h, 0, 9) || k < -1) {
            return BAD;
        }
        least = Integer.MAX_VALUE;
        lay(new ArrayList<>(), n, h);
        return k == -1 ? least : k < laid.size() ? laid.get(k) : NONE;
    }

    int rivals(int what) {
        if (not(what, 0, 1)) {
            return BAD;
        }
        List<Integer> pairs = new ArrayList<>();
        for (int i = 0; i < now.size(); i++) {
            for (int j = i + 1; j < now.size(); j++) {
                if (of(i, 1) == of(j, 1) && of(i, 1) > 0) {
                    pairs.add(10 * i + j);
                }
            }
        }
        return what == 0 ? pairs.size() : pairs.isEmpty() ? NONE : pairs.get(0);
    }

    int from(int thing, int n, int h) {
        if (not(thing, 0, 7) || not(n, 0, 60) || not(h, 0, 9)) {
            return BAD;
        }
        int set = 0;
        for (int p = 0; p < now.size(); p++) {
            State s = now.twin();
            for (int q = 0; q < 6; q++) {
                s.strength[q][thing] = q == p ? 0 : -1;
            }
            set += s.when(thing, h) == n ? 1 << p : 0;
        }
        return set;
    }

    int image() {
        kept = now.twin();
        return 1;
    }

    int restore() {
        if (kept == null) {
            return NONE;
        }
        now = kept.twin();
        return 1;
    }

    private static final Class<?>[] ROWS = {byte[].class, short[].class, int[].class, long[].class};

    private int amiss(int sheet, int lane, long i, long n) {
        Object row = sheets[sheet];
        if (row == null) {
            return NULL;
        }
        if (row.getClass() != ROWS[lane]) {
            return CAST;
        }
        return i < 0 || n < 0 || i + n > Array.getLength(row) ? INDEX : 0;
    }

    private static void put(Object row, int i, long v) {
        if (row instanceof byte[]) {
            ((byte[]) row)[i] = (byte) v;
        } else if (row instanceof short[]) {
            ((short[]) row)[i] = (short) v;
        } else if (row instanceof int[]) {
            ((int[]) row)[i] = (int) v;
        } else {
            ((long[]) row)[i] = v;
        }
    }

    int told(int thing, int sheet, int lane, int i, int n) {
        if (not(thing, 0, 7) || not(sheet, 0, 3) || not(lane, 0, 3) || not(n, 1, 6)) {
            return BAD;
        }
        if (amiss(sheet, lane, i, n) != 0) {
            return amiss(sheet, lane, i, n);
        }
        int heats = 0;
        for (int h = 0; h <= 9; h++) {
            boolean so = true;
            for (int d = 1; d <= n; d++) {
                so = so && Array.getLong(sheets[sheet], i + d - 1) == now.behind(d, h).who(thing);
            }
            heats += so ? 1 << h : 0;
        }
        return heats;
    }

    int film(int thing, int n, int h, int sheet, int lane, int i) {
        if (not(thing, 0, 7) || not(n, 1, 24) || not(h, 0, 9) || not(sheet, 0, 3) || not(lane, 0, 3)) {
            return BAD;
        }
        if (amiss(sheet, lane, i, n) != 0) {
            return amiss(sheet, lane, i, n);
        }
        for (int d = 1; d <= n; d++) {
            put(sheets[sheet], i + d - 1, now.behind(d, h).who(thing));
        }
        return n;
    }

    int sheet(int sheet, int lane, int n) {
        if (not(sheet, 0, 3) || not(lane, 0, 3) || n > 24) {
            return BAD;
        }
        if (n < 0) {
            return SIZE;
        }
        sheets[sheet] = Array.newInstance(ROWS[lane].getComponentType(), n);
        return n;
    }

    int drop(int sheet) {
        if (not(sheet, 0, 3)) {
            return BAD;
        }
        if (sheets[sheet] == null) {
            return NULL;
        }
        int had = Array.getLength(sheets[sheet]);
        sheets[sheet] = null;
        return had;
    }

    int item(int sheet, int lane, int i, long v) {
        if (not(sheet, 0, 3) || not(lane, 0, 3)) {
            return BAD;
        }
        if (amiss(sheet, lane, i, 1) != 0) {
            return amiss(sheet, lane, i, 1);
        }
        put(sheets[sheet], i, v);
        return 1;
    }

    int copy(int from, int i, int to, int j, int n) {
        if (not(from, 0, 3) || not(to, 0, 3)) {
            return BAD;
        }
        if (sheets[from] == null || sheets[to] == null) {
            return NULL;
        }
        if (sheets[from].getClass() != sheets[to].getClass()) {
            return CAST;
        }
        int lane = Arrays.asList(ROWS).indexOf(sheets[from].getClass());
        if (amiss(from, lane, i, n) != 0 || amiss(to, lane, j, n) != 0) {
            return INDEX;
        }
        long[] taken = new long[n];
        for (int k = 0; k < n; k++) {
            taken[k] = Array.getLong(sheets[from], i + k);
        }
        for (int k = 0; k < n; k++) {
            put(sheets[to], j + k, taken[k]);
        }
        return n;
    }
}
