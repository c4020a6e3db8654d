import java.io.IOException;
import java.io.StringWriter;
import java.lang.reflect.Method;
import java.net.URL;
import java.net.URLClassLoader;
import java.nio.file.Files;
import java.nio.file.Path;
import java.util.ArrayList;
import java.util.List;
import java.util.regex.Matcher;
import java.util.regex.Pattern;
import javax.tools.JavaCompiler;
import javax.tools.StandardJavaFileManager;
import javax.tools.ToolProvider;

/** What README.md shows of the class's use is so: its lines compile, and each call answers what stands behind it. */
public final class ReadmeTest {
    private static final Pattern ANSWERED = Pattern.compile("(x\\.\\w+\\([^;]*\\)); +// (-?\\d+): \\S.*");
    private static final List<String> CALLS = new ArrayList<>();
    private static final List<Integer> WANTED = new ArrayList<>();

    public static void main(String[] args) throws IOException, ReflectiveOperationException {
        Path root = args.length > 0 ? Path.of(args[0]).resolve("../../../..").normalize() : Path.of("");
        String readme = Files.readString(root.resolve("README.md"));
        List<Integer> answers = run(asProgram(shown(readme)));
        Check.due("calls that are answered", answers.size(), WANTED.size());
        for (int i = 0; i < Math.min(answers.size(), WANTED.size()); i++) {
            Check.due("README " + CALLS.get(i), answers.get(i), WANTED.get(i));
        }
        namesAll(readme);
        Check.finish();
    }

    /** The lines of the block that is marked as Java. */
    private static List<String> shown(String readme) {
        List<String> lines = new ArrayList<>();
        boolean inside = false;
        for (String line : readme.split("\n")) {
            if (line.startsWith("```")) {
                inside = line.equals("```java");
            } else if (inside) {
                lines.add(line);
            }
        }
        Check.due("lines are shown", lines.size() > 0 ? 1 : 0, 1);
        return lines;
    }

    private static String asProgram(List<String> lines) {
        StringBuilder program = new StringBuilder("public class ReadmeUse {\n public static java.util.List<Integer> answers() {\n");
        program.append("  java.util.List<Integer> all = new java.util.ArrayList<>();\n");
        for (String line : lines) {
            Matcher call = ANSWERED.matcher(line);
            if (call.matches()) {
                CALLS.add(call.group(1));
                WANTED.add(Integer.parseInt(call.group(2)));
                program.append("all.add(").append(call.group(1)).append(");\n");
            } else {
                Check.due("an answer stands behind " + line, line.startsWith("x.") ? 1 : 0, 0);
                program.append(line).append('\n');
            }
        }
        return program.append("  return all;\n }\n}\n").toString();
    }

    private static List<Integer> run(String program) throws IOException, ReflectiveOperationException {
        Path folder = Files.createTempDirectory("readme");
        Path source = folder.resolve("ReadmeUse.java");
        Path made = folder.resolve("ReadmeUse.class");
        try {
            Files.writeString(source, program);
            if (!compiles(source, folder)) {
                return List.of();
            }
            try (URLClassLoader loader = new URLClassLoader(new URL[] {folder.toUri().toURL()})) {
                Method answers = loader.loadClass("ReadmeUse").getMethod("answers");
                List<Integer> all = new ArrayList<>();
                for (Object answer : (List<?>) answers.invoke(null)) {
                    all.add((Integer) answer);
                }
                return all;
            }
        } finally {
            Files.deleteIfExists(made);
            Files.deleteIfExists(source);
            Files.deleteIfExists(folder);
        }
    }

    private static boolean compiles(Path source, Path folder) throws IOException {
        JavaCompiler compiler = ToolProvider.getSystemJavaCompiler();
        StringWriter told = new StringWriter();
        try (StandardJavaFileManager files = compiler.getStandardFileManager(null, null, null)) {
            List<String> options = List.of("-proc:none", "-cp", System.getProperty("java.class.path"), "-d", folder.toString());
            boolean good = compiler.getTask(told, files, null, options, null, files.getJavaFileObjects(source)).call();
            Check.due("README compiles " + told, good ? 1 : 0, 1);
            return good;
        }
    }

    /** Each call of the face is named. */
    private static void namesAll(String readme) {
        for (Method m : SealedLips.class.getDeclaredMethods()) {
            if (java.lang.reflect.Modifier.isPublic(m.getModifiers())) {
                Check.due("README names " + m.getName(), readme.contains("`" + m.getName() + "`") ? 1 : 0, 1);
            }
        }
    }
}
