import java.io.IOException;
import java.lang.reflect.Field;
import java.lang.reflect.Method;
import java.lang.reflect.Modifier;
import java.nio.file.Files;
import java.nio.file.Path;
import java.util.Map;
import java.util.TreeMap;
import java.util.regex.Matcher;
import java.util.regex.Pattern;

/** The public face of the document, and what LANGUAGE.md lets a plain reading find. */
public final class FaceTest {
    private static final Due due = new Due();
    private static final String[] FACE = {
        "file int int int int int", "loader int boolean", "put int int int", "load int int",
        "define int int int", "anew int int int", "known int int", "begin int", "thing int",
        "cast int int", "drop int", "letGo int", "held int", "isHeld int", "about int int",
        "aboutThing int int", "order int", "count int"};

    public static void main(String[] args) throws IOException {
        constants();
        methods();
        fieldsAreFew();
        words();
        due.end();
    }

    private static void constants() {
        due.is("NONE", ModuleLoaders.NONE, -1);
        due.is("BAD", ModuleLoaders.BAD, -2);
        due.is("NO", ModuleLoaders.NO, -3);
        due.is("FULL", ModuleLoaders.FULL, -4);
        int shown = 0;
        for (Field f : ModuleLoaders.class.getDeclaredFields()) {
            shown += Modifier.isPrivate(f.getModifiers()) ? 0 : 1;
        }
        due.is("fields that can be seen", shown, 4);
        int modifiers = ModuleLoaders.class.getModifiers();
        due.is("public and final", Modifier.isPublic(modifiers) && Modifier.isFinal(modifiers) ? 1 : 0, 1);
        due.is("constructors", ModuleLoaders.class.getDeclaredConstructors().length, 1);
    }

    private static void methods() {
        Map<String, Integer> times = new TreeMap<>();
        Map<String, Integer> shown = new TreeMap<>();
        for (Method m : ModuleLoaders.class.getDeclaredMethods()) {
            times.merge(m.getName(), 1, Integer::sum);
            due.is(m.getName() + ": seven parameters at most", m.getParameterCount() <= 7 ? 1 : 0, 1);
            if (!Modifier.isPrivate(m.getModifiers())) {
                shown.put(signature(m), 1);
                due.is(m.getName() + " answers an int", m.getReturnType() == int.class ? 1 : 0, 1);
                due.is(m.getName() + " is public", Modifier.isPublic(m.getModifiers()) ? 1 : 0, 1);
            }
        }
        for (String signature : FACE) {
            due.is(signature, shown.getOrDefault(signature, 0), 1);
            String name = signature.substring(0, signature.indexOf(' '));
            due.is("methods of the name " + name, times.getOrDefault(name, 0), 1);
        }
        due.is("methods that can be seen", shown.size(), FACE.length);
    }

    private static String signature(Method m) {
        StringBuilder all = new StringBuilder(m.getName());
        for (Class<?> type : m.getParameterTypes()) {
            all.append(' ').append(type.getName());
        }
        return all.toString();
    }

    private static void fieldsAreFew() {
        for (Class<?> c : ModuleLoaders.class.getDeclaredClasses()) {
            due.is(c.getName() + " is static", Modifier.isStatic(c.getModifiers()) ? 1 : 0, 1);
            due.is(c.getName() + ": twenty fields at most", c.getDeclaredFields().length <= 20 ? 1 : 0, 1);
        }
    }

    private static void words() throws IOException {
        String source = Files.readString(Path.of("src/main/java/ModuleLoaders.java"));
        String code = source.replaceAll("(?s)/\\*.*?\\*/", "").replaceAll("//[^\n]*", "");
        String[] ruledOut = {"\\bthrow\\b", "\\btry\\b", "\\bcatch\\b", "\\bsynchronized\\b", "\\bassert\\b",
            "->", "::", "\\bpackage\\b", "\\bequals\\b", "\\bhashCode\\b", "\\btoString\\b", "Exact\\b",
            "\\bimport (?!java\\.util\\.(Arrays|ArrayList|List);)", "\\bSystem\\.(?!arraycopy)", "\\bstatic \\{"};
        for (String word : ruledOut) {
            Matcher found = Pattern.compile(word).matcher(code);
            due.is("ruled out: " + word, found.find() ? 1 : 0, 0);
        }
    }
}
