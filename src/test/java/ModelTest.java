import java.util.Random;

/** Runs of 512 calls, the same each time, on the class and on the Model: all answers must agree. */
public final class ModelTest {
    private static final int RUNS = 3000;
    private static final int CALLS = 512;
    private static final Due due = new Due();

    private final Random random;
    private final int names;
    private final ModuleLoaders x = new ModuleLoaders();
    private final Model y = new Model();

    private ModelTest(long seed) {
        random = new Random(seed);
        names = 4 + random.nextInt(28);
    }

    public static void main(String[] args) {
        int[] seen = new int[64];
        for (int run = 0; run < RUNS; run++) {
            new ModelTest(run).go(run, seen);
        }
        for (int answer = -19; answer <= 1; answer++) {
            boolean mayCome = answer >= -4 || answer <= -11;
            due.is("some call answered " + answer, seen[answer + 32] > 0 ? 1 : 0, mayCome ? 1 : 0);
        }
        due.end();
    }

    private void go(int run, int[] seen) {
        for (int call = 0; call < CALLS; call++) {
            int kind = call < 40 ? random.nextInt(3) : random.nextInt(21);
            int[] a = {0, 0, 0, 0, 0};
            int[] got = one(kind, a);
            String what = "run " + run + ", call " + call + " of kind " + kind + " with "
                    + a[0] + " " + a[1] + " " + a[2] + " " + a[3] + " " + a[4];
            due.is(what, got[0], got[1]);
            if (got[1] >= -19 && got[1] <= 1) {
                seen[got[1] + 32]++;
            }
        }
        due.is("run " + run + ": modules", x.count(2), y.count(2));
        for (int i = 0; i < x.count(2); i++) {
            due.is("run " + run + ": state of " + i, x.about(i, 3), y.about(i, 3));
            due.is("run " + run + ": parent of " + i, x.about(i, 2), y.about(i, 2));
        }
        for (int i = 0; i < x.count(4); i++) {
            due.is("run " + run + ": order " + i, x.order(i), y.order(i));
        }
    }

    /** Mostly a number that is there, at times one that is just not. */
    private int number(int there) {
        return random.nextInt(40) == 0 ? random.nextInt(2) * (there + 1) - 1 : random.nextInt(Math.max(1, there));
    }

    private int name() {
        return number(names);
    }

    private int nameOrNone() {
        return random.nextInt(3) == 0 ? -1 : name();
    }

    /** Mostly the FILE's own name, so that UNLIKE does not hide the rest. */
    private int nameOf(int file) {
        boolean own = file >= 0 && file < inners && random.nextInt(12) != 0;
        return own ? inner[file] : name();
    }

    private final int[] inner = new int[40];
    private int inners = 0;

    private int[] one(int kind, int[] a) {
        int file = number(y.count(0));
        a[0] = number(kind == 4 || kind == 9 ? y.count(3) : y.count(1));
        switch (kind) {
            case 0: return file(a);
            case 1: return makeLoader(a);
            case 2: case 3: a[1] = nameOf(file); a[2] = file; return pair(x.put(a[0], a[1], file), y.put(a[0], a[1], file));
            case 4: a[1] = number(y.count(2)); return pair(x.cast(a[0], a[1]), y.cast(a[0], a[1]));
            case 5: case 6: a[1] = name(); return pair(x.load(a[0], a[1]), y.load(a[0], a[1]));
            case 7: a[1] = nameOf(file); a[2] = file; return pair(x.define(a[0], a[1], file), y.define(a[0], a[1], file));
            case 8: case 20: a[1] = nameOf(file); a[2] = file; return pair(x.anew(a[0], a[1], file), y.anew(a[0], a[1], file));
            case 9: return pair(x.drop(a[0]), y.drop(a[0]));
            case 10: a[1] = name(); return pair(x.known(a[0], a[1]), y.known(a[0], a[1]));
            case 11: return letGo(a);
            case 12: return pair(x.held(a[0]), y.held(a[0]));
            default: return ofModules(kind, a);
        }
    }

    private int[] ofModules(int kind, int[] a) {
        a[0] = number(y.count(2));
        switch (kind) {
            case 13: case 19: return pair(x.begin(a[0]), y.begin(a[0]));
            case 14: return pair(x.thing(a[0]), y.thing(a[0]));
            case 15: return pair(x.isHeld(a[0]), y.isHeld(a[0]));
            case 16: a[1] = number(6); return pair(x.about(a[0], a[1]), y.about(a[0], a[1]));
            case 17: a[0] = number(y.count(3)); a[1] = number(2);
                return pair(x.aboutThing(a[0], a[1]), y.aboutThing(a[0], a[1]));
            default: a[0] = number(5); a[1] = number(y.count(4) + 2);
                due.is("order(" + a[1] + ")", x.order(a[1]), y.order(a[1]));
                return pair(x.count(a[0]), y.count(a[0]));
        }
    }

    private int[] file(int[] a) {
        a[0] = name();
        a[1] = random.nextInt();
        a[2] = nameOrNone();
        a[3] = nameOrNone();
        a[4] = random.nextInt(6) == 0 ? number(4) : 0;
        int[] both = pair(x.file(a[0], a[1], a[2], a[3], a[4]), y.file(a[0], a[1], a[2], a[3], a[4]));
        if (both[1] >= 0) {
            inner[inners++] = a[0];
        }
        return both;
    }

    private int[] makeLoader(int[] a) {
        a[0] = random.nextInt(4) == 0 ? -1 : number(Math.min(3, y.count(1)));
        boolean own = random.nextBoolean();
        a[1] = own ? 1 : 0;
        return pair(x.loader(a[0], own), y.loader(a[0], own));
    }

    /** Seldom, or too little would be left to ask. */
    private int[] letGo(int[] a) {
        if (random.nextInt(8) != 0) {
            a[0] = -1;
        }
        return pair(x.letGo(a[0]), y.letGo(a[0]));
    }

    private static int[] pair(int got, int want) {
        return new int[] {got, want};
    }
}
