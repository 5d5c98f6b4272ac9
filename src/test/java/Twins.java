import java.util.ArrayList;
import java.util.List;

/**
 * Two objects that were made by the same calls. One of them gets a call more, which must be
 * answered as due; where it may change nothing, all that other calls then show of the two, and all
 * that they go on to do, must be the same. No object gets more than the 512 calls of the document.
 */
final class Twins {
    /** The names that the tests of the boundaries use. */
    private static final int[] NAMES = {0, 3, 4, 5, 6, 7, 8, 9, 10, 11, 30};
    private static final int MOST_CALLS = 512;

    private final Due due;

    Twins(Due due) {
        this.due = due;
    }

    /** The calls of setup must all do what they are there for: none of them may be refused. */
    private ModuleLoaders made(String what, String setup) {
        ModuleLoaders x = new ModuleLoaders();
        for (String call : Script.calls(setup)) {
            int answer = Script.call(x, call);
            if (answer >= Due.FULL && answer <= Due.BAD) {
                due.is(what + ": setup, " + call, answer, 0);
            }
        }
        return x;
    }

    /** The call is answered so; what it changes is not looked at. */
    void answers(String what, String setup, String call, int want) {
        due.is(what + ": " + call, Script.call(made(what, setup), call), want);
    }

    /** .. and after it, those of then (each "call = answer"), are answered so. */
    void then(String what, String setup, String call, int want, String then) {
        ModuleLoaders x = made(what, setup);
        due.is(what + ": " + call, Script.call(x, call), want);
        each(what + ": after " + call + ", ", x, then);
    }

    /** A run on a new object, each call told with its answer ("call = answer"). */
    void run(String what, String lines) {
        each(what + ": ", new ModuleLoaders(), lines);
    }

    private void each(String what, ModuleLoaders x, String lines) {
        for (String line : Script.calls(lines)) {
            String[] both = line.split("=");
            due.is(what + both[0].strip(), Script.call(x, both[0]), Integer.parseInt(both[1].strip()));
        }
    }

    /** The call is answered so, and changes nothing. */
    void unchanged(String what, String setup, String call, int want) {
        ModuleLoaders got = made(what, setup);
        ModuleLoaders twin = made(what, setup);
        due.is(what + ": " + call, Script.call(got, call), want);
        int looks = compare(what + ": after " + call, got, twin);
        int calls = Script.calls(setup).length + 1 + looks;
        due.is(what + ": " + calls + " calls are not above 512", calls <= MOST_CALLS ? 1 : 0, 1);
    }

    /** Two runs after which all that calls show, and what they go on to do, is the same. */
    void same(String what, String setup, String otherSetup) {
        compare(what, made(what, setup), made(what, otherSetup));
    }

    /** How many calls it took on each. */
    private int compare(String what, ModuleLoaders got, ModuleLoaders twin) {
        Seen one = new Seen(got);
        Seen other = new Seen(twin);
        one.all();
        other.all();
        due.is(what + ", calls to look", one.answers.size(), other.answers.size());
        for (int i = 0; i < Math.min(one.answers.size(), other.answers.size()); i++) {
            if (!one.answers.get(i).equals(other.answers.get(i))) {
                due.is(what + ", " + one.calls.get(i), one.answers.get(i), other.answers.get(i));
            }
        }
        return one.answers.size();
    }

    /** Each number outside of first .. last in the place of the ? is answered so, and changes nothing. */
    void outside(String what, String setup, String call, int first, int last, int want) {
        for (int number : wrong(first, last)) {
            unchanged(what, setup, call.replace("?", Integer.toString(number)), want);
        }
    }

    /**
     * Just outside, the least, the greatest, and those that a narrower or a wrapping reading would
     * take for one of first .. last (31 * 138547333 is 27 above 2 to the 32nd).
     */
    private static int[] wrong(int first, int last) {
        int[] all = {Due.LEAST, first - 1, last + 1, Due.MOST, Due.LEAST + first, Due.LEAST + last,
            first + 256, last + 65536, first - 256, last - 65536, 138547333, -138547333};
        List<Integer> wrong = new ArrayList<>();
        for (int number : all) {
            if ((number < first || number > last) && !wrong.contains(number)) {
                wrong.add(number);
            }
        }
        return wrong.stream().mapToInt(Integer::intValue).toArray();
    }

    /** All that calls show of an object, and then what it goes on to do. */
    private static final class Seen {
        private final ModuleLoaders x;
        final List<String> calls = new ArrayList<>();
        final List<Integer> answers = new ArrayList<>();

        Seen(ModuleLoaders x) {
            this.x = x;
        }

        private int ask(String call) {
            int answer = Script.call(x, call);
            calls.add(call);
            answers.add(answer);
            return answer;
        }

        /** What was told is looked at first, what must be worked out (HELD) last. */
        void all() {
            int modules = ask("count 2");
            aboutModules(modules);
            int loaders = ask("count 1");
            known(loaders);
            int things = ask("count 3");
            aboutThings(things, modules);
            ask("count 0");
            order();
            held(loaders, modules);
            goOn(loaders);
        }

        private void aboutModules(int modules) {
            for (int m = 0; m < modules; m++) {
                for (int what = 0; what <= 5; what++) {
                    ask("about " + m + " " + what);
                }
            }
        }

        private void known(int loaders) {
            for (int l = 0; l < loaders; l++) {
                for (int name : NAMES) {
                    ask("known " + l + " " + name);
                }
            }
        }

        private void aboutThings(int things, int modules) {
            for (int t = 0; t < things; t++) {
                ask("aboutThing " + t + " 0");
                ask("aboutThing " + t + " 1");
                for (int m = 0; m < modules; m++) {
                    ask("cast " + t + " " + m);
                }
            }
        }

        private void order() {
            int contents = ask("count 4");
            for (int i = 0; i < contents; i++) {
                ask("order " + i);
            }
        }

        private void held(int loaders, int modules) {
            for (int m = 0; m < modules; m++) {
                ask("isHeld " + m);
            }
            for (int l = 0; l < loaders; l++) {
                ask("held " + l);
            }
        }

        /** What can't be seen (SHELVES, what is just MAKING or BEGINNING) shows in what comes next. */
        private void goOn(int loaders) {
            for (int l = loaders - 1; l >= 0; l--) {
                for (int name : NAMES) {
                    ask("load " + l + " " + name);
                }
            }
            int modules = ask("count 2");
            for (int m = modules - 1; m >= 0; m--) {
                ask("begin " + m);
            }
            order();
            ask("thing 0");
            ask("file 5 1 NONE NONE 0");
            ask("loader NONE 0");
        }
    }
}
