import java.io.IOException;
import java.lang.reflect.InvocationTargetException;
import java.lang.reflect.Method;
import java.lang.reflect.Modifier;
import java.net.URL;
import java.net.URLClassLoader;
import java.nio.file.Files;
import java.nio.file.Path;
import java.util.ArrayList;
import java.util.Comparator;
import java.util.List;
import java.util.Set;
import java.util.TreeSet;
import java.util.regex.Matcher;
import java.util.regex.Pattern;
import java.util.stream.Stream;
import javax.tools.JavaCompiler;
import javax.tools.ToolProvider;

/** README.md: its example compiles and answers as written there, and what it says of the tests is so. */
public final class ReadmeTest {
    private static final Due due = new Due();
    private static final Pattern ANSWERED = Pattern.compile("(list\\..*\\));\\s+// (-?\\d+|true|false): \\S.*");

    public static void main(String[] args) throws Exception {
        String readme = Files.readString(Path.of("README.md"));
        List<String> java = blocks(readme, "java");
        due.is("an example and a way to feed a TEXT", java.size(), 2);
        if (java.size() == 2) {
            everyCallIsShown(readme, java.get(0));
            exampleAnswersAsWritten(java.get(0), java.get(1));
        }
        testsAreRun(readme);
        due.end("ReadmeTest");
    }

    private static List<String> blocks(String readme, String language) {
        List<String> blocks = new ArrayList<>();
        Matcher matcher = Pattern.compile("(?s)```" + language + "\n(.*?)```").matcher(readme);
        while (matcher.find()) {
            blocks.add(matcher.group(1));
        }
        return blocks;
    }

    private static void everyCallIsShown(String readme, String example) {
        for (Method method : FontList.class.getDeclaredMethods()) {
            if (Modifier.isPublic(method.getModifiers())) {
                due.yes("the example calls " + method.getName(), example.contains("list." + method.getName() + "("));
                String row = "`" + method.getName() + "\\((\\w+(, \\w+){" + Math.max(0, method.getParameterCount() - 1)
                    + "})" + (method.getParameterCount() == 0 ? "{0}" : "") + "\\)`";
                due.yes("the table has " + row, Pattern.compile(row).matcher(readme).find());
            }
        }
    }

    /** Each line becomes a call whose answer is printed with the one that is due, where they differ. */
    private static void exampleAnswersAsWritten(String example, String feeding) throws Exception {
        StringBuilder code = new StringBuilder("public final class Example {\n    public static int run() {\n");
        code.append("        int wrong = 0;\n");
        int answers = 0;
        for (String line : example.split("\n")) {
            Matcher answered = ANSWERED.matcher(line);
            if (answered.matches()) {
                answers++;
                code.append("        wrong += due(" + quoted(answered.group(1)) + ", String.valueOf("
                    + answered.group(1) + "), " + quoted(answered.group(2)) + ");\n");
            } else {
                due.yes("a call has its answer: " + line, !line.contains("list."));
                code.append("        ").append(line).append('\n');
            }
        }
        code.append("        feed(list, \"P(n=1);F(n=2&b=1);Q(n=1)\");\n");
        code.append("        wrong += due(\"feed\", String.valueOf(list.count(3)), \"40\");\n");
        code.append("        wrong += due(\"custom\", String.valueOf(list.custom(3, 24)), \"3\");\n");
        code.append("        return wrong;\n    }\n\n").append(feeding);
        code.append("    static int due(String call, String got, String want) {\n");
        code.append("        if (got.equals(want)) {\n            return 0;\n        }\n");
        code.append("        System.out.println(call + \" answered \" + got + \", README.md has \" + want);\n");
        code.append("        return 1;\n    }\n}\n");
        due.yes("the example has answers", answers > 30);
        due.is("answers that are not as README.md has them", runExample(code.toString()), 0);
    }

    private static String quoted(String words) {
        return "\"" + words.replace("\\", "\\\\").replace("\"", "\\\"") + "\"";
    }

    /** How many answers are wrong; -1 if the example does not compile or does not end as it should. */
    private static int runExample(String code) throws Exception {
        Path room = Files.createTempDirectory("readme");
        JavaCompiler compiler = ToolProvider.getSystemJavaCompiler();
        try {
            Path file = Files.writeString(room.resolve("Example.java"), code);
            String[] how = {"-cp", System.getProperty("java.class.path"), "-d", room.toString(), file.toString()};
            if (compiler == null || compiler.run(null, System.out, System.out, how) != 0) {
                return -1;
            }
            try (URLClassLoader loader = new URLClassLoader(new URL[] {room.toUri().toURL()})) {
                return (int) loader.loadClass("Example").getMethod("run").invoke(null);
            }
        } catch (InvocationTargetException thrown) {
            System.out.println("the example throws: " + thrown.getCause());
            return -1;
        } finally {
            remove(room);
        }
    }

    private static void remove(Path room) throws IOException {
        try (Stream<Path> paths = Files.walk(room)) {
            for (Path path : paths.sorted(Comparator.reverseOrder()).toList()) {
                Files.delete(path);
            }
        }
    }

    private static void testsAreRun(String readme) throws IOException {
        List<String> commands = blocks(readme, "sh");
        due.yes("the command comes first", !commands.isEmpty() && commands.get(0).equals("bash .ci/run\n"));
        due.yes("it can be executed", Files.isExecutable(Path.of(".ci/run")));
        String script = Files.readString(Path.of(".ci/run"));
        due.yes("it goes through ../shared/tests", script.contains("in ../shared/tests/*.java; do"));
        due.yes("it goes through the project's tests", script.contains("in src/test/java/*Test.java; do"));
        Set<String> tests = new TreeSet<>();
        try (Stream<Path> files = Files.list(Path.of("src/test/java"))) {
            for (Path file : files.toList()) {
                String name = file.getFileName().toString();
                if (Files.readString(file).contains("public static void main(")) {
                    due.yes("run by the script: " + name, name.endsWith("Test.java"));
                    tests.add(name.replace(".java", ""));
                }
            }
        }
        for (String test : tests) {
            due.yes("README.md tells of " + test, readme.contains("`" + test + "`"));
        }
        Matcher told = Pattern.compile("`(\\w+Test)`").matcher(readme);
        while (told.find()) {
            due.yes("there is a " + told.group(1), tests.contains(told.group(1)));
        }
    }
}
