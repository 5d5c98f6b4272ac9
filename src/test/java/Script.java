import java.util.ArrayList;
import java.util.List;

/**
 * Calls written as text, so that a run can be told in a line and its calls be counted:
 * "loader NONE 0; file 5 50 NONE NONE 0; put 0 5 0". For loader, own is 1 or 0.
 */
final class Script {
    private Script() {
    }

    static String[] calls(String script) {
        List<String> all = new ArrayList<>();
        for (String call : script.split(";")) {
            if (!call.isBlank()) {
                all.add(call.strip());
            }
        }
        return all.toArray(new String[0]);
    }

    /** What the last call answers. */
    static int run(ModuleLoaders x, String script) {
        int answer = 0;
        for (String call : calls(script)) {
            answer = call(x, call);
        }
        return answer;
    }

    static int call(ModuleLoaders x, String call) {
        String[] words = call.strip().split(" +");
        int[] a = new int[words.length - 1];
        for (int i = 0; i < a.length; i++) {
            a[i] = number(words[i + 1]);
        }
        return switch (words[0] + a.length) {
            case "file5" -> x.file(a[0], a[1], a[2], a[3], a[4]);
            case "loader2" -> x.loader(a[0], a[1] != 0);
            case "put3" -> x.put(a[0], a[1], a[2]);
            case "load2" -> x.load(a[0], a[1]);
            case "define3" -> x.define(a[0], a[1], a[2]);
            case "anew3" -> x.anew(a[0], a[1], a[2]);
            case "known2" -> x.known(a[0], a[1]);
            case "begin1" -> x.begin(a[0]);
            case "thing1" -> x.thing(a[0]);
            case "cast2" -> x.cast(a[0], a[1]);
            case "drop1" -> x.drop(a[0]);
            case "letGo1" -> x.letGo(a[0]);
            case "held1" -> x.held(a[0]);
            case "isHeld1" -> x.isHeld(a[0]);
            case "about2" -> x.about(a[0], a[1]);
            case "aboutThing2" -> x.aboutThing(a[0], a[1]);
            case "order1" -> x.order(a[0]);
            case "count1" -> x.count(a[0]);
            default -> throw new IllegalArgumentException("no call: " + call);
        };
    }

    private static int number(String word) {
        return switch (word) {
            case "NONE" -> -1;
            case "LEAST" -> Integer.MIN_VALUE;
            case "MOST" -> Integer.MAX_VALUE;
            default -> Integer.parseInt(word);
        };
    }

    /** The same call n times. */
    static String times(int n, String call) {
        return (call + ";").repeat(n);
    }
}
