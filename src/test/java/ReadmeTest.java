import java.io.IOException;
import java.io.StringWriter;
import java.lang.reflect.InvocationTargetException;
import java.net.URL;
import java.net.URLClassLoader;
import java.nio.file.Files;
import java.nio.file.Path;
import java.util.ArrayList;
import java.util.Comparator;
import java.util.List;
import java.util.regex.Matcher;
import java.util.regex.Pattern;
import java.util.stream.Stream;
import javax.tools.JavaCompiler;
import javax.tools.ToolProvider;

/** The pieces of Java in README.md compile, and each call there answers what stands behind it. */
public final class ReadmeTest {
    private static final Pattern ANSWERED =
            Pattern.compile("(x\\.\\w+\\(.*?\\)); +// (?:(-?\\d+|NONE)|throws (\\w+))(?:: .*)?");
    private static final List<String> calls = new ArrayList<>();

    public static void main(String[] args) throws Exception {
        List<String> readme = Files.readAllLines(Path.of("README.md"));
        List<List<String>> pieces = pieces(readme);
        Check.isTrue("there are pieces of Java in README.md", pieces.size() >= 7);
        answers(pieces);
        everyMethodIsShown();
        table(readme);
        Check.end("ReadmeTest");
    }

    private static List<List<String>> pieces(List<String> readme) {
        List<List<String>> pieces = new ArrayList<>();
        List<String> piece = null;
        for (String line : readme) {
            if (line.equals("```java")) {
                piece = new ArrayList<>();
                pieces.add(piece);
            } else if (line.equals("```")) {
                piece = null;
            } else if (piece != null) {
                piece.add(line);
            }
        }
        return pieces;
    }

    private static void answers(List<List<String>> pieces) throws Exception {
        Path folder = Files.createTempDirectory("readme");
        try {
            Path file = folder.resolve("Readme.java");
            Files.writeString(file, program(pieces));
            if (compiles(file, folder)) {
                run(folder, pieces.size());
            }
        } finally {
            delete(folder);
        }
    }

    /** Each piece becomes a method of its own, as it stands; what is answered goes to due() or to a catch. */
    private static String program(List<List<String>> pieces) {
        StringWriter text = new StringWriter();
        text.append("import java.util.List;\npublic final class Readme {\n");
        for (int k = 0; k < pieces.size(); k++) {
            text.append("public static void piece" + k + "(List<String> calls, List<String> got) {\n");
            for (String line : pieces.get(k)) {
                text.append(statement(line)).append('\n');
            }
            text.append("}\n");
        }
        return text.append("}\n").toString();
    }

    private static String statement(String line) {
        if (!line.contains("//")) {
            return line;
        }
        Matcher m = ANSWERED.matcher(line);
        boolean answered = m.matches();
        Check.isTrue("the line \"" + line + "\" of README.md is a call and its answer", answered);
        if (!answered) {
            return "";
        }
        String due = m.group(3) != null ? m.group(3) : m.group(2).replace("NONE", "" + MixerStation.NONE);
        calls.add(m.group(1) + " = " + due);
        return "calls.add(\"" + m.group(1).replace("\"", "\\\"") + " = " + due + "\");"
                + " try { got.add(\"\" + " + m.group(1) + "); }"
                + " catch (RuntimeException e) { got.add(e.getClass().getSimpleName()); }";
    }

    private static boolean compiles(Path file, Path folder) {
        JavaCompiler compiler = ToolProvider.getSystemJavaCompiler();
        Check.isTrue("there is a compiler", compiler != null);
        if (compiler == null) {
            return false;
        }
        int result = compiler.run(null, System.out, System.out, "-cp", System.getProperty("java.class.path"),
                "-d", folder.toString(), file.toString());
        Check.due("compiling the pieces of README.md", result, 0);
        return result == 0;
    }

    private static void run(Path folder, int pieces) throws IOException, ReflectiveOperationException {
        int seen = 0;
        try (URLClassLoader loader = new URLClassLoader(new URL[] {folder.toUri().toURL()})) {
            Class<?> readme = loader.loadClass("Readme");
            for (int k = 0; k < pieces; k++) {
                List<String> asked = new ArrayList<>();
                List<String> got = new ArrayList<>();
                try {
                    readme.getMethod("piece" + k, List.class, List.class).invoke(null, asked, got);
                } catch (InvocationTargetException e) {
                    Check.isTrue("the piece " + k + " of README.md runs to its end", false);
                }
                for (int c = 0; c < got.size(); c++) {
                    String due = asked.get(c).substring(asked.get(c).lastIndexOf(" = ") + 3);
                    Check.isTrue("README.md, piece " + k + ": " + asked.get(c) + ", answered " + got.get(c) + "; this",
                            due.equals(got.get(c)));
                    seen++;
                }
            }
        }
        Check.due("answers of README.md that were looked at", seen, calls.size());
    }

    private static void delete(Path folder) throws IOException {
        try (Stream<Path> all = Files.walk(folder)) {
            for (Path each : all.sorted(Comparator.reverseOrder()).toList()) {
                Files.delete(each);
            }
        }
    }

    private static void everyMethodIsShown() {
        for (var method : MixerStation.class.getDeclaredMethods()) {
            if (java.lang.reflect.Modifier.isPublic(method.getModifiers())) {
                Check.isTrue("README.md shows " + method.getName(),
                        calls.stream().anyMatch(call -> call.startsWith("x." + method.getName() + "(")));
            }
        }
    }

    private static void table(List<String> readme) throws IOException {
        try (Stream<Path> files = Files.list(Path.of("src/test/java"))) {
            for (Path file : files.toList()) {
                String name = file.getFileName().toString().replace(".java", "");
                if (name.endsWith("Test")) {
                    Check.isTrue("the table of README.md names " + name,
                            readme.stream().anyMatch(line -> line.startsWith("| " + name + " | ")));
                }
            }
        }
    }
}
