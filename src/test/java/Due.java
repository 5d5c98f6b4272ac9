/** Counts the answers that are not as due; each test ends with end(). */
final class Due {
    static final int NONE = -1, BAD = -2, NO = -3, FULL = -4;
    static final int NONE_FOUND = -11, TWICE = -12, UNLIKE = -13, BARRED = -14, RING = -15;
    static final int BROKEN = -16, FAILED = -17, GONE = -18, NO_CAST = -19;
    static final int LEAST = Integer.MIN_VALUE, MOST = Integer.MAX_VALUE;

    private int wrong = 0;
    private int asked = 0;

    void is(String what, long got, long want) {
        asked++;
        if (got != want) {
            wrong++;
            System.out.println(what + ": answered " + got + ", due is " + want);
        }
    }

    void end() {
        System.out.println(asked + " answers, " + wrong + " of them wrong");
        if (wrong != 0 || asked == 0) {
            System.exit(1);
        }
    }

    /** A FILE of a name with a CONTENT and nothing else. */
    static int plain(ModuleLoaders x, int name, int content) {
        return x.file(name, content, NONE, NONE, 0);
    }

    static int withParent(ModuleLoaders x, int name, int content, int parent) {
        return x.file(name, content, parent, NONE, 0);
    }

    static int withNeed(ModuleLoaders x, int name, int content, int need) {
        return x.file(name, content, NONE, need, 0);
    }

    static int library(ModuleLoaders x) {
        return x.loader(NONE, false);
    }

    void order(String what, ModuleLoaders x, int... contents) {
        is(what + ": count(4)", x.count(4), contents.length);
        for (int i = 0; i < contents.length; i++) {
            is(what + ": order(" + i + ")", x.order(i), contents[i]);
        }
        is(what + ": order after the last", x.order(contents.length), 0);
    }
}
