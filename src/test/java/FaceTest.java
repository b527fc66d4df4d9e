import java.lang.reflect.Constructor;
import java.lang.reflect.Field;
import java.lang.reflect.Method;
import java.lang.reflect.Modifier;
import java.lang.reflect.Parameter;
import java.nio.file.Files;
import java.nio.file.Path;
import java.util.Set;
import java.util.StringJoiner;
import java.util.TreeSet;
import java.util.regex.Matcher;
import java.util.regex.Pattern;

/** The public face is the one that the document writes out, with its types and its constant; each call has its promise. */
public final class FaceTest {
    private static final Due due = new Due();

    public static void main(String[] args) throws Exception {
        String document = Files.readString(Path.of("../shared/DOC.md"));
        Set<String> told = faceOf(document);
        Set<String> found = faceOf(FontList.class);
        for (String member : told) {
            due.yes("the program has: " + member, found.contains(member));
        }
        for (String member : found) {
            due.yes("the document has: " + member, told.contains(member));
        }
        due.is("members of the face", told.size(), 27);
        due.yes("public and final", Modifier.isPublic(FontList.class.getModifiers())
            && Modifier.isFinal(FontList.class.getModifiers()));
        due.yes("no class above it", FontList.class.getSuperclass() == Object.class);
        due.is("interfaces", FontList.class.getInterfaces().length, 0);
        due.yes("no package", FontList.class.getPackageName().isEmpty());
        promisesBearTheirCalls(document);
        due.end("FaceTest");
    }

    /** The lines of the document's own Java text, without names of parameters. */
    private static Set<String> faceOf(String document) {
        Set<String> face = new TreeSet<>();
        int from = document.indexOf("public final class FontList {");
        int to = document.indexOf("\n}", from);
        due.yes("the document writes the face out", from >= 0 && to > from);
        for (String line : document.substring(from, to).split("\n")) {
            if (line.endsWith(";")) {
                face.add(line.strip().replaceAll("(int|long|boolean) \\w+(?=[,)])", "$1").replace(";", ""));
            }
        }
        return face;
    }

    private static Set<String> faceOf(Class<?> program) throws IllegalAccessException {
        Set<String> face = new TreeSet<>();
        for (Field field : program.getFields()) {
            String words = Modifier.toString(field.getModifiers()) + " " + field.getType() + " " + field.getName();
            face.add(words + " = " + field.get(null));
        }
        for (Constructor<?> constructor : program.getConstructors()) {
            face.add("public " + constructor.getName() + typesOf(constructor.getParameters()));
        }
        for (Method method : program.getDeclaredMethods()) {
            if (Modifier.isPublic(method.getModifiers())) {
                String words = Modifier.toString(method.getModifiers()) + " " + method.getReturnType();
                face.add(words + " " + method.getName() + typesOf(method.getParameters()));
            }
        }
        return face;
    }

    private static String typesOf(Parameter[] parameters) {
        StringJoiner types = new StringJoiner(", ", "(", ")");
        for (Parameter parameter : parameters) {
            types.add(parameter.getType().getName());
        }
        return types.toString();
    }

    /** What a promise tells of its call must be what the face tells. */
    private static void promisesBearTheirCalls(String document) {
        Matcher promise = Pattern.compile("## Promise (\\d+): .*\\s+`([^`]+)`").matcher(document);
        int promises = 0;
        while (promise.find()) {
            promises++;
            due.is("the promises come by their numbers", Integer.parseInt(promise.group(1)), promises);
            due.yes("in the face: " + promise.group(2), document.contains("    public " + promise.group(2) + ";\n"));
        }
        due.is("promises", promises, 26);
    }
}
