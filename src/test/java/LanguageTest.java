import java.io.IOException;
import java.nio.file.Files;
import java.nio.file.Path;
import java.util.List;

/** The rules of LANGUAGE.md that a look at the lines can find broken. Its argument is the file. */
public final class LanguageTest {
    private static final String[] NEVER = {
        "package ", "->", "::", "catch", "throw", "finally", "synchronized", "assert ", "protected ", "@", "Exact(", "while (true)",
        "for (;;)", "static {", "double", "float", "System.nanoTime", "System.currentTime", "Random", "Thread", "java.io", "java.nio",
        "new int[n", "new long[n", "hashCode", "toString", ".equals", "String.format", "Object",
    };

    public static void main(String[] args) throws IOException {
        Path file = Path.of(args.length > 0 ? args[0] : "src/main/java/SealedLips.java");
        List<String> lines = Files.readAllLines(file);
        int begun = -1;
        for (int i = 0; i < lines.size(); i++) {
            String line = lines.get(i);
            for (String never : NEVER) {
                Check.due("line " + (i + 1) + " has " + never, line.contains(never) ? 1 : 0, 0);
            }
            if (line.startsWith("import ")) {
                Check.due(line, line.equals("import java.util.Arrays;") ? 1 : 0, 1);
            }
            for (int c = 0; c < line.length(); c++) {
                Check.due("line " + (i + 1) + ", sign " + c, line.charAt(c) > 126 ? 1 : 0, 0);
            }
            if (line.matches("( {4}| {8})(public|private) [^=]*\\) \\{")) {
                begun = i;
            } else if (begun >= 0 && line.matches("( {4}| {8})\\}")) {
                Check.due("lines of the method at " + (begun + 1), i - begun < 60 ? 1 : 0, 1);
                begun = -1;
            }
        }
        Check.finish();
    }
}
