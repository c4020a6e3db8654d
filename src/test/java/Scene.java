import java.lang.reflect.InvocationTargetException;
import java.lang.reflect.Method;
import java.util.ArrayList;
import java.util.List;

/** Objects in a known state, calls by their names, and all that an object can be asked. */
final class Scene {
    private Scene() {
    }

    /**
     * Four persons in mid-week, changed seats, an image, three steps to be undone, three letters on the tape;
     * sheet 0 has four bytes, sheet 1 no short, sheet 2 is missing, sheet 3 has 24 longs.
     */
    static SealedLips lively() {
        SealedLips x = Check.at("7/6;p01,l25,d4,e3");
        x.seats(0, 1);
        x.seed(77);
        x.trust(3, 7);
        x.image();
        x.days(1, 3);
        x.drift(1);
        Check.type(x, "5/7");
        x.sheet(0, 0, 4);
        x.film(0, 4, 9, 0, 0, 0);
        x.sheet(1, 1, 0);
        x.sheet(3, 3, 24);
        x.film(4, 24, 5, 3, 3, 0);
        return x;
    }

    /** All that an object answers, now and when its steps are undone, its image is restored; it is of no use then. */
    static List<Integer> all(SealedLips x) {
        List<Integer> all = new ArrayList<>();
        all.add(x.told(0, 0, 0, 0, 4));
        for (int i = 0; i < 24; i += 6) {
            all.add(x.told(4, 3, 3, i, 6));
        }
        addState(x, all);
        for (int step = x.count(8); step > 0; step--) {
            all.add(x.undo());
            addState(x, all);
        }
        all.add(x.restore());
        addState(x, all);
        all.add(x.type('/'));
        all.add(x.court());
        for (int sheet = 0; sheet < 4; sheet++) {
            all.add(x.drop(sheet));
        }
        return all;
    }

    private static void addState(SealedLips x, List<Integer> all) {
        for (int what = 0; what <= 8; what++) {
            all.add(x.count(what));
        }
        for (int p = 0; p < x.count(0); p++) {
            for (int what = 0; what <= 5; what++) {
                all.add(x.of(p, what));
            }
            for (int thing = 0; thing < 8; thing++) {
                all.add(x.strength(p, thing));
            }
        }
        int draw = x.seed(0);
        x.seed(draw);
        all.add(draw);
    }

    static int call(SealedLips x, String name, long... arguments) {
        for (Method m : SealedLips.class.getMethods()) {
            if (m.getName().equals(name) && m.getDeclaringClass() == SealedLips.class) {
                return call(x, m, arguments);
            }
        }
        throw new IllegalArgumentException(name);
    }

    private static int call(SealedLips x, Method m, long[] arguments) {
        Object[] boxed = new Object[arguments.length];
        for (int a = 0; a < boxed.length; a++) {
            boxed[a] = m.getParameterTypes()[a] == long.class ? (Object) arguments[a] : (Object) (int) arguments[a];
        }
        try {
            return (Integer) m.invoke(x, boxed);
        } catch (InvocationTargetException e) {
            System.out.println(m.getName() + " threw " + e.getCause());
            return Integer.MIN_VALUE;
        } catch (IllegalAccessException e) {
            throw new IllegalStateException(e);
        }
    }
}
