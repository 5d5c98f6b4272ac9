import java.io.IOException;
import java.lang.reflect.Array;
import java.lang.reflect.Field;
import java.lang.reflect.Method;
import java.lang.reflect.Modifier;
import java.nio.file.Files;
import java.nio.file.Path;
import java.util.ArrayList;
import java.util.List;
import java.util.Map;
import java.util.TreeMap;
import java.util.regex.Matcher;
import java.util.regex.Pattern;

/** The public face of the document, and what LANGUAGE.md lets a plain reading find. */
public final class FaceTest {
    private static final Due due = new Due();
    private static final String SOURCE = "src/main/java/ModuleLoaders.java";
    /** The methods just as the document's public face has them. */
    private static final String[] FACE = {
        "int file(int inner, int content, int parent, int need, int flags)", "int loader(int above, boolean own)",
        "int put(int loader, int name, int file)", "int load(int loader, int name)",
        "int define(int loader, int name, int file)", "int anew(int loader, int name, int file)",
        "int known(int loader, int name)", "int begin(int module)", "int thing(int module)",
        "int cast(int thing, int module)", "int drop(int thing)", "int letGo(int loader)", "int held(int loader)",
        "int isHeld(int module)", "int about(int module, int what)", "int aboutThing(int thing, int what)",
        "int order(int i)", "int count(int what)"};
    /** What all objects of a run may take: one could be made by each of its calls. */
    private static final int MOST_OBJECTS = 600_000, MOST_ELEMENTS = 7_300_000, MOST_CALLS = 512;

    public static void main(String[] args) throws IOException, IllegalAccessException {
        constants();
        methods();
        fieldsAreFew();
        linesOfTheFace();
        words();
        staticFieldsAreConstants();
        objectsAreSmall();
        callsMakeNoObjects();
        due.end();
    }

    private static void constants() {
        due.is("NONE", ModuleLoaders.NONE, -1);
        due.is("BAD", ModuleLoaders.BAD, -2);
        due.is("NO", ModuleLoaders.NO, -3);
        due.is("FULL", ModuleLoaders.FULL, -4);
        int shown = 0;
        for (Field f : ModuleLoaders.class.getDeclaredFields()) {
            shown += Modifier.isPrivate(f.getModifiers()) ? 0 : 1;
        }
        due.is("fields that can be seen", shown, 4);
        int modifiers = ModuleLoaders.class.getModifiers();
        due.is("public and final", Modifier.isPublic(modifiers) && Modifier.isFinal(modifiers) ? 1 : 0, 1);
        due.is("constructors", ModuleLoaders.class.getDeclaredConstructors().length, 1);
    }

    private static void methods() {
        Map<String, Integer> times = new TreeMap<>();
        Map<String, Integer> shown = new TreeMap<>();
        for (Method m : ModuleLoaders.class.getDeclaredMethods()) {
            times.merge(m.getName(), 1, Integer::sum);
            due.is(m.getName() + ": seven parameters at most", m.getParameterCount() <= 7 ? 1 : 0, 1);
            if (!Modifier.isPrivate(m.getModifiers())) {
                shown.put(signature(m), 1);
                due.is(m.getName() + " answers an int", m.getReturnType() == int.class ? 1 : 0, 1);
                due.is(m.getName() + " is public", Modifier.isPublic(m.getModifiers()) ? 1 : 0, 1);
            }
        }
        for (String line : FACE) {
            due.is(line, shown.getOrDefault(types(line), 0), 1);
            String name = line.substring(line.indexOf(' ') + 1, line.indexOf('('));
            due.is("methods of the name " + name, times.getOrDefault(name, 0), 1);
        }
        due.is("methods that can be seen", shown.size(), FACE.length);
    }

    /** "int put(int loader, int name)" as "put int int". */
    private static String types(String line) {
        return line.replaceFirst("^int ", "").replaceAll("(\\w+) \\w+(?=[,)])", "$1").replaceAll("[(),]+", " ").strip()
            .replaceAll(" +", " ");
    }

    private static String signature(Method m) {
        StringBuilder all = new StringBuilder(m.getName());
        for (Class<?> type : m.getParameterTypes()) {
            all.append(' ').append(type.getName());
        }
        return all.toString();
    }

    private static void fieldsAreFew() {
        for (Class<?> c : ModuleLoaders.class.getDeclaredClasses()) {
            due.is(c.getName() + " is static", Modifier.isStatic(c.getModifiers()) ? 1 : 0, 1);
            due.is(c.getName() + ": twenty fields at most", c.getDeclaredFields().length <= 20 ? 1 : 0, 1);
        }
    }

    private static String code() throws IOException {
        String source = Files.readString(Path.of(SOURCE));
        return source.replaceAll("(?s)/\\*.*?\\*/", "").replaceAll("//[^\n]*", "");
    }

    private static void linesOfTheFace() throws IOException {
        String code = code();
        due.is("the class", code.contains("public final class ModuleLoaders {") ? 1 : 0, 1);
        due.is("the constants", code.contains("public static final int NONE = -1, BAD = -2, NO = -3, FULL = -4;") ? 1 : 0, 1);
        due.is("the constructor", code.contains("public ModuleLoaders() {") ? 1 : 0, 1);
        for (String line : FACE) {
            due.is(line, code.contains("    public " + line + " {\n") ? 1 : 0, 1);
        }
    }

    private static void words() throws IOException {
        String code = code();
        String[] ruledOut = {"\\bthrow\\b", "\\btry\\b", "\\bcatch\\b", "\\bsynchronized\\b", "\\bassert\\b",
            "->", "::", "\\bpackage\\b", "\\bequals\\b", "\\bhashCode\\b", "\\btoString\\b", "Exact\\b",
            "\\bimport (?!java\\.util\\.(Arrays|ArrayList|List);)", "\\bSystem\\.(?!arraycopy)", "\\bstatic \\{"};
        for (String word : ruledOut) {
            Matcher found = Pattern.compile(word).matcher(code);
            due.is("ruled out: " + word, found.find() ? 1 : 0, 0);
        }
    }

    private static void staticFieldsAreConstants() {
        List<Class<?>> classes = new ArrayList<>(List.of(ModuleLoaders.class.getDeclaredClasses()));
        due.is("twelve classes at most", classes.size() <= 11 ? 1 : 0, 1);
        classes.add(ModuleLoaders.class);
        for (Class<?> c : classes) {
            for (Field f : c.getDeclaredFields()) {
                boolean fine = !Modifier.isStatic(f.getModifiers())
                    || Modifier.isFinal(f.getModifiers()) && f.getType() == int.class;
                due.is("a static field is a constant: " + f, fine ? 1 : 0, 1);
            }
        }
    }

    private static void objectsAreSmall() throws IllegalAccessException {
        int[] size = {0, 0};
        measure(new ModuleLoaders(), size);
        due.is("objects of a run", size[0] * MOST_CALLS <= MOST_OBJECTS ? 1 : 0, 1);
        due.is("fields and elements of a run", size[1] * MOST_CALLS <= MOST_ELEMENTS ? 1 : 0, 1);
    }

    /** size: objects and arrays; their fields and elements. */
    private static void measure(Object x, int[] size) throws IllegalAccessException {
        size[0]++;
        if (x.getClass().isArray()) {
            size[1] += Array.getLength(x);
            return;
        }
        for (Field f : x.getClass().getDeclaredFields()) {
            if (Modifier.isStatic(f.getModifiers())) {
                continue;
            }
            size[1]++;
            f.setAccessible(true);
            if (!f.getType().isPrimitive()) {
                measure(f.get(x), size);
            }
        }
    }

    private static void callsMakeNoObjects() throws IOException {
        for (String line : code().split("\n")) {
            if (line.matches(".*\\bnew\\b.*")) {
                due.is("made with the object: " + line.strip(), line.matches(" +(private )?final \\S+ \\w+ = new .*;") ? 1 : 0, 1);
            }
        }
    }
}
