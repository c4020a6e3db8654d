import java.lang.reflect.Constructor;
import java.lang.reflect.Field;
import java.lang.reflect.Method;
import java.lang.reflect.Modifier;
import java.util.Arrays;
import java.util.HashSet;
import java.util.Set;
import java.util.TreeSet;

/** The public face, member by member, and rule 1 of LANGUAGE.md. */
public final class FaceTest {
    private static final String[] METHODS = {
        "person(int)", "of(int,int)", "strength(int,int)", "known(int)", "seats(int,int)", "rule(int,int)", "type(int)",
        "court()", "count(int)", "trust(int,int)", "seal(int,int)", "days(int,int)", "drift(int)", "undo()", "seed(int)",
        "ahead(int,int,int)", "rankAhead(int,int,int)", "leaks(int,int)", "out(int,int)", "cool(int)", "thick(int,int)",
        "renew(int,int,int,int,int)", "table(int,int,int)", "rivals(int)", "from(int,int,int)", "image()", "restore()",
        "told(int,int,int,int,int)", "film(int,int,int,int,int,int)", "sheet(int,int,int)", "drop(int)",
        "item(int,int,int,long)", "copy(int,int,int,int,int)",
    };
    private static final String[] CONSTANTS = {"BAD", "NOT", "FULL", "NONE", "NULL", "CAST", "INDEX", "SIZE"};
    private static final int[] VALUES = {-1, -2, -3, -4, -11, -12, -13, -14};

    public static void main(String[] args) throws ReflectiveOperationException {
        Class<?> face = SealedLips.class;
        Check.due("public and final", face.getModifiers(), Modifier.PUBLIC | Modifier.FINAL);
        Check.due("no package", face.getPackageName().length(), 0);
        Check.due("below no class of its own", face.getSuperclass() == Object.class ? face.getInterfaces().length : -1, 0);
        values(face);
        Set<String> methods = new TreeSet<>();
        Set<String> names = new HashSet<>();
        for (Method m : face.getDeclaredMethods()) {
            if (Modifier.isPublic(m.getModifiers())) {
                methods.add(written(m));
                names.add(m.getName());
                Check.due(m + " answers an int", m.getReturnType() == int.class ? 1 : 0, 1);
                Check.due(m + " is public alone", m.getModifiers(), Modifier.PUBLIC);
                Check.due(m + " declares no exception", m.getExceptionTypes().length, 0);
            }
        }
        same("methods", methods, new TreeSet<>(Arrays.asList(METHODS)));
        Set<String> constants = new TreeSet<>();
        for (Field f : face.getDeclaredFields()) {
            if (!Modifier.isPrivate(f.getModifiers())) {
                constants.add(f.getName());
            }
        }
        same("constants", constants, new TreeSet<>(Arrays.asList(CONSTANTS)));
        Constructor<?>[] made = face.getDeclaredConstructors();
        Check.due("constructors", made.length, 1);
        Check.due("public", Modifier.isPublic(made[0].getModifiers()) ? made[0].getParameterCount() : -1, 0);
        others(face, names);
        for (Class<?> inside : face.getDeclaredClasses()) {
            Check.due(inside + " is static", Modifier.isStatic(inside.getModifiers()) ? 1 : 0, 1);
            Check.due(inside + " is hidden", inside.getModifiers() & (Modifier.PUBLIC | Modifier.PROTECTED), 0);
            others(inside, names);
        }
        Check.finish();
    }

    private static void values(Class<?> face) throws ReflectiveOperationException {
        for (int i = 0; i < CONSTANTS.length; i++) {
            Field constant = face.getField(CONSTANTS[i]);
            Check.due(constant + " is a constant", constant.getModifiers(), Modifier.PUBLIC | Modifier.STATIC | Modifier.FINAL);
            Check.due(constant + " is an int", constant.getType() == int.class ? 1 : 0, 1);
            Check.due(constant.getName(), constant.getInt(null), VALUES[i]);
        }
    }

    /** All else is private, and bears no name of the face. */
    private static void others(Class<?> in, Set<String> names) {
        for (Method m : in.getDeclaredMethods()) {
            if (!Modifier.isPublic(m.getModifiers())) {
                Check.due(m + " is private", Modifier.isPrivate(m.getModifiers()) ? 1 : 0, 1);
                Check.due(m + " has a name of its own", names.contains(m.getName()) ? 1 : 0, 0);
                Check.due(m + " takes at most seven", m.getParameterCount() <= 7 ? 1 : 0, 1);
            }
        }
    }

    private static String written(Method m) {
        StringBuilder all = new StringBuilder(m.getName()).append('(');
        for (Class<?> type : m.getParameterTypes()) {
            all.append(all.charAt(all.length() - 1) == '(' ? "" : ",").append(type.getName());
        }
        return all.append(')').toString();
    }

    private static void same(String what, Set<String> got, Set<String> want) {
        Set<String> more = new TreeSet<>(got);
        more.removeAll(want);
        Set<String> fewer = new TreeSet<>(want);
        fewer.removeAll(got);
        Check.due(what + " too many " + more, more.size(), 0);
        Check.due(what + " missing " + fewer, fewer.size(), 0);
    }
}
