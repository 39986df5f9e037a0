import java.io.IOException;
import java.net.URL;
import java.net.URLClassLoader;
import java.nio.file.Files;
import java.nio.file.Path;
import java.util.List;
import java.util.regex.Matcher;
import java.util.regex.Pattern;
import javax.tools.JavaCompiler;
import javax.tools.ToolProvider;

/** Compiles the examples of README.md and runs them: each call answers what stands behind it there. */
public final class ReadmeTest {
    private static final String THROWN = "NoSuchElementException";
    private static final Pattern CALL = Pattern.compile("\\s*(?:(?:int|boolean) \\w+ = )?(yard\\.\\w+\\([^()]*\\));\\s*//\\s*(" + THROWN + "|true|false|-?\\d+)(?::.*)?");
    private static final Pattern NEW = Pattern.compile("CharcoalYard yard = new CharcoalYard\\(\\);");
    private static final Pattern LOOP = Pattern.compile("for \\(.*\\) \\{|\\}");
    private static final String[] CALLS = {"clamp", "lay", "layRow", "hole", "light", "open", "cover", "watch", "hour",
        "again", "rake", "count", "cell", "all", "told", "breach", "sign", "end", "rule", "repeal", "wood", "years", "cut",
        "plan", "stand"};
    private static final StringBuilder program = new StringBuilder();
    private static String shown = "";
    private static boolean isOpen = false;
    private static int answers = 0;
    private static int wrong = 0;

    public static void main(String[] args) throws Exception {
        readExamples(Files.readAllLines(Path.of("README.md")));
        for (String call : CALLS) {
            if (!shown.contains("yard." + call + "(")) {
                fault("README.md has no example of " + call);
            }
        }
        if (wrong == 0) {
            runExamples();
        }
        System.out.println("README.md: " + answers + " answers, " + wrong + " faults");
        if (wrong != 0) {
            System.exit(1);
        }
    }

    private static void fault(String text) {
        wrong++;
        System.out.println(text);
    }

    private static void readExamples(List<String> lines) {
        program.append("public final class Examples {\n    public static void main(String[] args) {\n        {\n");
        for (int i = 0; i < lines.size(); i++) {
            String line = lines.get(i);
            if (line.startsWith("```")) {
                isOpen = !isOpen && line.equals("```java");
            } else if (isOpen && !line.isBlank()) {
                readLine(i + 1, line);
            }
        }
        program.append("        }\n    }\n}\n");
    }

    private static void readLine(int number, String line) {
        Matcher call = CALL.matcher(line);
        if (NEW.matcher(line).matches()) {
            // Each new yard is an example of its own, whose names may be those of the one ahead of it.
            program.append("        }\n        {\n").append(line).append('\n');
        } else if (call.matches()) {
            shown += call.group(1);
            addCall(number, line, call.group(1), call.group(2));
        } else if (LOOP.matcher(line).matches()) {
            program.append(line).append('\n');
        } else {
            fault("README.md, line " + number + ": neither a call with its answer nor a loop: " + line);
        }
    }

    private static void addCall(int number, String line, String call, String answer) {
        String code = line.substring(0, line.indexOf("//")).strip();
        String name = code.contains(" = ") ? code.split(" ")[1] : "";
        String told = number + ", \"" + call + "\", ";
        if (answer.equals(THROWN)) {
            program.append("try { ").append(code).append(" ReadmeTest.due(").append(told).append("\"an answer\", \"" + THROWN + "\"); }")
                .append(" catch (java.util.NoSuchElementException e) { ReadmeTest.due(").append(told).append("\"\", \"\"); }\n");
        } else if (name.isEmpty()) {
            program.append("ReadmeTest.due(").append(told).append(call).append(", ").append(answer).append(");\n");
        } else {
            program.append(code).append(" ReadmeTest.due(").append(told).append(name).append(", ").append(answer).append(");\n");
        }
    }

    private static void runExamples() throws Exception {
        Path dir = Files.createTempDirectory("readme");
        try {
            Path source = dir.resolve("Examples.java");
            Files.writeString(source, program);
            if (compile(dir, source)) {
                try (URLClassLoader loader = new URLClassLoader(new URL[] {dir.toUri().toURL()})) {
                    loader.loadClass("Examples").getMethod("main", String[].class).invoke(null, (Object) new String[0]);
                }
            }
        } finally {
            delete(dir);
        }
    }

    private static boolean compile(Path dir, Path source) {
        JavaCompiler compiler = ToolProvider.getSystemJavaCompiler();
        if (compiler == null) {
            fault("java and javac are not of one JDK: the examples of README.md can't be compiled");
            return false;
        }
        String[] options = {"--release", "17", "-cp", System.getProperty("java.class.path"), "-d", dir.toString(), source.toString()};
        if (compiler.run(null, null, null, options) != 0) {
            fault("the examples of README.md do not compile");
            return false;
        }
        return true;
    }

    private static void delete(Path dir) throws IOException {
        try (var files = Files.list(dir)) {
            for (Path file : files.toList()) {
                Files.delete(file);
            }
        }
        Files.delete(dir);
    }

    /** Called by the examples. */
    public static void due(int line, String call, Object got, Object want) {
        answers++;
        if (!got.equals(want)) {
            fault("README.md, line " + line + ": " + call + " answered " + got + ", there stands " + want);
        }
    }
}
