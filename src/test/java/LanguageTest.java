import java.lang.reflect.Array;
import java.lang.reflect.Field;
import java.lang.reflect.Method;
import java.lang.reflect.Modifier;
import java.nio.file.Files;
import java.nio.file.Path;
import java.util.ArrayList;
import java.util.Collections;
import java.util.IdentityHashMap;
import java.util.List;
import java.util.Set;
import java.util.TreeSet;
import java.util.regex.Matcher;
import java.util.regex.Pattern;

/** Rules of LANGUAGE.md that can be seen in the program's text or its face, by their numbers. */
public final class LanguageTest {
    private static final Due due = new Due();

    public static void main(String[] args) throws Exception {
        String text = Files.readString(Path.of("src/main/java/FontList.java"));
        String code = withoutComments(text);
        rule1Face();
        words("rule 2", code, "->", "::", "import");
        words("rule 3", code, "\\bdouble\\b", "\\bfloat\\b", "\\bObject\\b", "\\bMap\\b", "\\[\\]\\[\\]\\[\\]");
        words("rule 4", code, "String\\.", "System\\.", "Exact\\b", "\\.hashCode", "\\.toString");
        words("rule 6", code, "\\bthrow\\b", "\\bthrows\\b", "\\btry\\b", "\\bcatch\\b", "\\bsynchronized\\b",
            "\\bassert\\b");
        words("rule 9", code, "while \\(true\\)", "for \\(;;\\)");
        words("rule 10", code, "\" \\+", "\\+ \"");
        rule5StaticFields();
        rule11Lengths(code);
        rule12NothingMadeByCalls(code);
        roomOfAnObject();
        due.end("LanguageTest");
    }

    private static String withoutComments(String text) {
        return text.replaceAll("(?s)/\\*.*?\\*/", "").replaceAll("//[^\n]*", "");
    }

    private static void words(String rule, String code, String... patterns) {
        for (String pattern : patterns) {
            Matcher matcher = Pattern.compile(pattern).matcher(code);
            due.is(rule + ": " + pattern, matcher.find() ? 1 : 0, 0);
        }
    }

    private static final String[] FACE = {"best(int)", "by(int,int,int)", "check()", "christening(int,int,int,int,int)",
        "count(int)", "couple(int,int,int,int)", "custom(int,int)", "customs(int,int,int)", "died(int,int)",
        "family(int,int)", "feed(int,int,int,int,int)", "grand(int,int)", "judge()", "learnt(int,int,int)",
        "little(int)", "look(int,int)", "must(int,int,int)", "name(int,int)", "parent(int,int,int)",
        "points(int,int)", "should(int,int,int)", "sure(int,int)", "tie(int,int)", "ways(int)", "weighs(int,int)"};

    private static void rule1Face() {
        Set<String> open = new TreeSet<>();
        Set<String> names = new TreeSet<>();
        List<Method> hidden = new ArrayList<>();
        for (Method method : FontList.class.getDeclaredMethods()) {
            if (Modifier.isPublic(method.getModifiers())) {
                open.add(method.toString().replaceAll(".*FontList\\.", ""));
                names.add(method.getName());
            } else {
                due.yes("rule 1: private " + method, Modifier.isPrivate(method.getModifiers()));
                hidden.add(method);
            }
        }
        due.yes("rule 1: the face is " + open, open.equals(new TreeSet<>(List.of(FACE))));
        due.is("rule 1: constructors", FontList.class.getDeclaredConstructors().length, 1);
        due.yes("rule 1: final", Modifier.isFinal(FontList.class.getModifiers()));
        for (Class<?> inside : FontList.class.getDeclaredClasses()) {
            due.yes("rule 2: static " + inside, Modifier.isStatic(inside.getModifiers()));
            hidden.addAll(List.of(inside.getDeclaredMethods()));
        }
        for (Method method : hidden) {
            due.no("rule 1: the name of " + method, names.contains(method.getName()));
            due.no("rule 11: parameters of " + method, method.getParameterCount() > 7);
        }
        due.no("rule 11: classes", FontList.class.getDeclaredClasses().length + 1 > 12);
    }

    private static void rule5StaticFields() {
        List<Class<?>> classes = new ArrayList<>(List.of(FontList.class.getDeclaredClasses()));
        classes.add(FontList.class);
        for (Class<?> one : classes) {
            int fields = 0;
            for (Field field : one.getDeclaredFields()) {
                int modifiers = field.getModifiers();
                fields += Modifier.isStatic(modifiers) ? 0 : 1;
                due.no("rule 5: " + field, Modifier.isStatic(modifiers) && !Modifier.isFinal(modifiers));
                due.no("rule 1: " + field, one == FontList.class && !Modifier.isPrivate(modifiers)
                    && !field.getName().equals("NONE"));
            }
            due.no("rule 11: fields of " + one, fields > 20);
        }
    }

    private static void rule11Lengths(String code) {
        Matcher matcher = Pattern.compile("(?m)^( {4}| {8})(\\w[^;=\n]*\\([^;\n]*\\)) \\{\n((?:.*\n)*?)\\1\\}").matcher(code);
        int methods = 0;
        while (matcher.find()) {
            methods++;
            due.no("rule 11: lines of " + matcher.group(2), matcher.group(3).split("\n").length > 60);
        }
        due.yes("rule 11: methods are found", methods > 80);
    }

    /** All rows are made where fields are; a call makes nothing, however often it is called. */
    private static void rule12NothingMadeByCalls(String code) {
        for (String line : code.split("\n")) {
            boolean inField = line.matches(" +(private )?(static )?(final )?[\\w\\[\\]]+ \\w+ = new .*;");
            boolean inConstructor = line.contains("told[k] = new Custom();");
            due.no("rule 12: " + line.trim(), line.contains("new ") && !inField && !inConstructor);
        }
    }

    /** All objects of a run live in one room: hundreds of new lists must fit into it. */
    private static void roomOfAnObject() throws ReflectiveOperationException {
        Set<Object> seen = Collections.newSetFromMap(new IdentityHashMap<>());
        long elements = elementsOf(new FontList(), seen);
        due.yes("room: " + seen.size() + " objects", seen.size() * 500 < 600000);
        due.yes("room: " + elements + " fields and elements", elements * 500 < 7300000);
    }

    private static long elementsOf(Object one, Set<Object> seen) throws ReflectiveOperationException {
        if (one == null || !seen.add(one)) {
            return 0;
        }
        if (one.getClass().isArray()) {
            long elements = Array.getLength(one);
            for (int k = 0; one instanceof Object[] && k < Array.getLength(one); k++) {
                elements += elementsOf(Array.get(one, k), seen);
            }
            return elements;
        }
        long fields = 0;
        for (Field field : one.getClass().getDeclaredFields()) {
            if (!Modifier.isStatic(field.getModifiers())) {
                field.setAccessible(true);
                fields += 1 + (field.getType().isPrimitive() ? 0 : elementsOf(field.get(one), seen));
            }
        }
        return fields;
    }
}
