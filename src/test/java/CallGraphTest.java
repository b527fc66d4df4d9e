import java.io.PrintWriter;
import java.io.StringWriter;
import java.nio.file.Path;
import java.util.ArrayList;
import java.util.HashMap;
import java.util.List;
import java.util.Map;
import java.util.Set;
import java.util.TreeMap;
import java.util.TreeSet;
import java.util.regex.Matcher;
import java.util.regex.Pattern;
import java.util.spi.ToolProvider;

/** Rules of LANGUAGE.md that show in the compiled program: what it calls, how deep, what it makes and where. */
public final class CallGraphTest {
    private static final Due due = new Due();

    /** Of the library of rule 4 what the program needs; what is added here must stand there. */
    private static final Set<String> LIBRARY = Set.of("java/lang/Object.<init>", "java/lang/String.length",
        "java/lang/String.charAt", "java/lang/String.indexOf", "java/lang/Math.max", "java/lang/Math.min",
        "java/lang/Integer.bitCount");
    private static final int DEEPEST = 8;

    private static final Pattern METHOD = Pattern.compile("  (?:[\\w.$\\[\\]]+ )*([\\w$]+)\\(.*\\);");
    private static final Pattern CALL = Pattern.compile(".* // (?:Interface)?Method (?:([\\w/$]+)\\.)?\"?([\\w<>$]+)\"?:.*");

    private final Map<String, Set<String>> calls = new TreeMap<>();
    private final Map<String, Integer> depths = new HashMap<>();

    public static void main(String[] args) {
        if (ToolProvider.findFirst("javap").isEmpty()) {
            System.out.println("CallGraphTest: this Java has no javap, nothing was looked at");
            return;
        }
        CallGraphTest test = new CallGraphTest();
        List<Class<?>> classes = new ArrayList<>(List.of(FontList.class.getDeclaredClasses()));
        classes.add(FontList.class);
        for (Class<?> one : classes) {
            test.read(one.getName(), compiled(one.getName()));
        }
        due.yes("methods are found", test.calls.size() > 90);
        test.depthOfCalls();
        test.recursionInTheReaderAlone();
        due.end("CallGraphTest");
    }

    /** The compiled class as javap tells it. */
    private static String compiled(String name) {
        StringWriter told = new StringWriter();
        PrintWriter out = new PrintWriter(told);
        String path = Path.of(System.getProperty("java.class.path")).toString();
        ToolProvider javap = ToolProvider.findFirst("javap").orElseThrow();
        due.is("javap " + name, javap.run(out, out, "-c", "-p", "-cp", path, name), 0);
        return told.toString();
    }

    private void read(String owner, String told) {
        String method = owner;
        for (String line : told.split("\n")) {
            Matcher head = METHOD.matcher(line);
            if (head.matches()) {
                method = owner + "." + (head.group(1).equals(owner) ? "<init>" : head.group(1));
                calls.putIfAbsent(method, new TreeSet<>());
            }
            boolean inConstructor = method.endsWith("<init>");
            due.no("rule 5: a static initialiser in " + owner, line.contains("static {}"));
            due.no("rule 6: " + method + line, line.contains(": athrow") || line.contains(": monitor"));
            due.no("rule 6: caught in " + method, line.contains("Exception table:"));
            due.no("rule 2 and 10: " + method + line, line.contains(": invokedynamic"));
            due.no("rule 3: " + method + line, line.contains(": multianewarray") || line.contains(": checkcast"));
            due.no("made by a call: " + method + line, !inConstructor && line.matches(".*: (new|a?newarray) .*"));
            Matcher call = CALL.matcher(line);
            if (call.matches()) {
                add(method, (call.group(1) == null ? owner : call.group(1)) + "." + call.group(2));
            }
        }
    }

    private void add(String method, String called) {
        if (called.startsWith("FontList")) {
            calls.get(method).add(called);
        } else {
            due.yes("rule 4: " + method + " calls " + called, LIBRARY.contains(called));
        }
    }

    private Set<String> reachedFrom(String method) {
        Set<String> reached = new TreeSet<>();
        List<String> waiting = new ArrayList<>(calls.getOrDefault(method, Set.of()));
        while (!waiting.isEmpty()) {
            String next = waiting.remove(waiting.size() - 1);
            if (reached.add(next)) {
                waiting.addAll(calls.getOrDefault(next, Set.of()));
            }
        }
        return reached;
    }

    /** The methods that reach themselves through one another count as one. */
    private int depthOf(String method) {
        Integer known = depths.get(method);
        if (known != null) {
            return known;
        }
        Set<String> round = new TreeSet<>();
        round.add(method);
        for (String reached : reachedFrom(method)) {
            if (reachedFrom(reached).contains(method)) {
                round.add(reached);
            }
        }
        int below = 0;
        for (String member : round) {
            for (String called : calls.getOrDefault(member, Set.of())) {
                below = round.contains(called) ? below : Math.max(below, depthOf(called));
            }
        }
        depths.put(method, 1 + below);
        return 1 + below;
    }

    private void depthOfCalls() {
        for (String method : calls.keySet()) {
            due.no("rule 11: " + method + " goes " + depthOf(method) + " deep", depthOf(method) > DEEPEST);
        }
        due.yes("calls are found", depthOf("FontList.learnt") > 3);
    }

    /** Rule 8: what calls itself carries how many ( [ ! are open, and is refused beyond six. */
    private void recursionInTheReaderAlone() {
        for (String method : calls.keySet()) {
            if (reachedFrom(method).contains(method)) {
                due.yes("rule 8: " + method + " calls itself", method.startsWith("FontList$Reader."));
            }
        }
    }
}
