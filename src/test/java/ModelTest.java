import java.lang.reflect.InvocationTargetException;
import java.lang.reflect.Method;
import java.util.ArrayList;
import java.util.HashMap;
import java.util.List;
import java.util.Map;
import java.util.Random;

/** Runs of calls, drawn by fixed seeds, on SealedLips and on PlainCourt: all answers are alike. */
public final class ModelTest {
    private static final int RUNS = 300;
    /** For so many calls an object is used. */
    private static final int CALLS = 512;
    private static final int[] ODD = {-1, Integer.MIN_VALUE, Integer.MAX_VALUE, -2, 1000, -1000000};

    /** What each argument of a call is drawn from: 0 to this. */
    private static final Map<String, int[]> MOST = new HashMap<>();

    static {
        MOST.put("person", new int[] {4});
        MOST.put("of", new int[] {5, 5});
        MOST.put("strength", new int[] {5, 7});
        MOST.put("known", new int[] {7});
        MOST.put("seats", new int[] {5, 5});
        MOST.put("rule", new int[] {1, 12});
        MOST.put("type", new int[] {127});
        MOST.put("court", new int[] {});
        MOST.put("count", new int[] {8});
        MOST.put("trust", new int[] {5, 7});
        MOST.put("seal", new int[] {5, 7});
        MOST.put("days", new int[] {5, 9});
        MOST.put("drift", new int[] {5});
        MOST.put("undo", new int[] {});
        MOST.put("seed", new int[] {1000000000});
        MOST.put("ahead", new int[] {7, 20, 9});
        MOST.put("rankAhead", new int[] {5, 20, 9});
        MOST.put("leaks", new int[] {20, 9});
        MOST.put("out", new int[] {7, 9});
        MOST.put("cool", new int[] {10});
        MOST.put("thick", new int[] {10, 9});
        MOST.put("renew", new int[] {7, 12, 9, 6, 1});
        MOST.put("table", new int[] {8, 9, 6});
        MOST.put("rivals", new int[] {1});
        MOST.put("from", new int[] {7, 8, 9});
        MOST.put("image", new int[] {});
        MOST.put("restore", new int[] {});
        MOST.put("told", new int[] {7, 3, 3, 10, 6});
        MOST.put("film", new int[] {7, 8, 9, 3, 3, 10});
        MOST.put("sheet", new int[] {3, 3, 24});
        MOST.put("drop", new int[] {3});
        MOST.put("item", new int[] {3, 3, 10, 63});
        MOST.put("copy", new int[] {3, 10, 3, 10, 8});
    }

    private static int made;
    private static final List<Method> CALLED = new ArrayList<>();
    private static final Map<String, Method> MODEL = new HashMap<>();
    private static final Map<String, Integer> GOOD = new HashMap<>();

    public static void main(String[] args) throws ReflectiveOperationException {
        int runs = args.length > 1 ? Integer.parseInt(args[1]) : RUNS;
        for (Method m : SealedLips.class.getDeclaredMethods()) {
            if (MOST.containsKey(m.getName()) && java.lang.reflect.Modifier.isPublic(m.getModifiers())) {
                CALLED.add(m);
                MODEL.put(m.getName(), PlainCourt.class.getDeclaredMethod(m.getName(), m.getParameterTypes()));
                GOOD.put(m.getName(), 0);
            }
        }
        CALLED.sort((a, b) -> a.getName().compareTo(b.getName()));
        Check.due("calls", CALLED.size(), 33);
        for (int seed = 0; seed < runs; seed++) {
            run(seed);
        }
        for (Map.Entry<String, Integer> good : GOOD.entrySet()) {
            Check.due(good.getKey() + " was answered by no less than 0 often enough", good.getValue() >= runs / 2 ? 1 : 0, 1);
        }
        Check.finish();
    }

    private static void run(int seed) throws ReflectiveOperationException {
        Random r = new Random(seed);
        SealedLips x = new SealedLips();
        PlainCourt y = new PlainCourt();
        StringBuilder told = new StringBuilder("run ").append(seed).append(':');
        made = 0;
        if (r.nextInt(8) > 0) {
            type(x, y, text(r, false));
            both(x, y, call("court"), new Object[0], told);
        }
        for (int sheet = 0; sheet < 4; sheet++) {
            both(x, y, call("sheet"), new Object[] {sheet, seed % 4, 12 + sheet * 4}, told);
        }
        while (made < CALLS) {
            if (r.nextInt(12) == 0) {
                type(x, y, text(r, r.nextBoolean()));
                both(x, y, call("court"), new Object[0], told);
            }
            Method m = CALLED.get(r.nextInt(CALLED.size()));
            // a restless object would never live through a week
            boolean rare = "court type restore drop".contains(m.getName());
            if (rare && r.nextInt(4) > 0) {
                m = call("days");
            }
            Object[] drawn = draw(r, m);
            favourLane(r, m.getName(), drawn, seed % 4);
            if (!both(x, y, m, drawn, told)) {
                return;
            }
            if (m.getName().equals("film")) {
                // what was filmed is mostly what is told
                both(x, y, call("told"), new Object[] {drawn[0], drawn[3], drawn[4], drawn[5], 1 + r.nextInt(6)}, told);
            }
        }
    }

    /** Most sheets of a run are of one lane: else nearly all would be refused. */
    private static void favourLane(Random r, String name, Object[] drawn, int lane) {
        if ("told film sheet item".contains(name) && r.nextInt(8) > 0) {
            drawn[name.equals("told") ? 2 : name.equals("film") ? 4 : 1] = lane;
        }
    }

    private static Method call(String name) {
        for (Method m : CALLED) {
            if (m.getName().equals(name)) {
                return m;
            }
        }
        throw new IllegalStateException(name);
    }

    private static Object[] draw(Random r, Method m) {
        int[] most = MOST.get(m.getName());
        Object[] drawn = new Object[most.length];
        for (int a = 0; a < most.length; a++) {
            int v = r.nextInt(most[a] + 1);
            v = r.nextInt(30) == 0 ? most[a] + 1 + r.nextInt(60) : v;
            v = r.nextInt(60) == 0 ? ODD[r.nextInt(ODD.length)] : v;
            drawn[a] = v;
            if (m.getParameterTypes()[a] == long.class) {
                drawn[a] = r.nextInt(3) == 0 ? r.nextLong() : (long) v;
            }
        }
        if (m.getName().equals("table") && r.nextInt(4) == 0) {
            drawn[2] = -1;
        }
        return drawn;
    }

    /** Both are asked, unless the object has been used for all its calls. */
    private static boolean both(SealedLips x, PlainCourt y, Method m, Object[] a, StringBuilder told) throws ReflectiveOperationException {
        if (made == CALLS) {
            return true;
        }
        made++;
        told.append(' ').append(m.getName()).append(java.util.Arrays.toString(a));
        int got = answer(m, x, a);
        int want = answer(MODEL.get(m.getName()), y, a);
        Check.due(got == want ? "" : told.toString(), got, want);
        if (got >= 0) {
            GOOD.merge(m.getName(), 1, Integer::sum);
        }
        return got == want;
    }

    private static int answer(Method m, Object on, Object[] a) throws ReflectiveOperationException {
        try {
            return (Integer) m.invoke(on, a);
        } catch (InvocationTargetException e) {
            System.out.println(m.getName() + " threw " + e.getCause());
            return Integer.MIN_VALUE;
        }
    }

    private static void type(SealedLips x, PlainCourt y, String text) {
        for (int i = 0; i < text.length() && made < CALLS; i++) {
            made++;
            Check.due("type", x.type(text.charAt(i)), y.type(text.charAt(i)));
        }
    }

    private static String text(Random r, boolean faulty) {
        StringBuilder all = new StringBuilder();
        all.append((char) ('1' + r.nextInt(9))).append('/').append(2 + r.nextInt(r.nextBoolean() ? 29 : 6)).append(';');
        int persons = 1 + r.nextInt(6);
        for (int p = 0; p < persons; p++) {
            all.append(p > 0 ? "," : "").append("pldefplpe".charAt(r.nextInt(9)));
            for (int t = 0; t < 8; t++) {
                all.append(r.nextInt(4) == 0 ? String.valueOf(t) : "");
            }
        }
        for (int spoilt = faulty ? 1 + r.nextInt(2) : 0; spoilt > 0; spoilt--) {
            int at = r.nextInt(all.length());
            char any = "0123456789/;,pldef  x~".charAt(r.nextInt(22));
            switch (r.nextInt(4)) {
                case 0: all.setCharAt(at, any); break;
                case 1: all.insert(at, any); break;
                case 2: all.setLength(at + 1); break;
                default: all.insert(at, "  "); break;
            }
        }
        return all.toString();
    }
}
