import java.util.Arrays;

/**
 * Modules of programs in loaders of their own. The words in capitals are those of the document
 * (../shared/DOC.md); all that is numbered is kept in rows of numbers, so that a number that was
 * looked at once is a safe index everywhere.
 */
public final class ModuleLoaders {
    public static final int NONE = -1, BAD = -2, NO = -3, FULL = -4;

    private static final int NONE_FOUND = -11;
    private static final int TWICE = -12;
    private static final int UNLIKE = -13;
    private static final int BARRED = -14;
    private static final int RING = -15;
    private static final int BROKEN = -16;
    private static final int FAILED = -17;
    private static final int GONE = -18;
    private static final int NO_CAST = -19;
    private static final int DONE = 1;

    private static final int NAMES = 31;
    private static final int FIRST_FREE_NAME = 4;
    private static final int FLAG_BROKEN = 1;
    private static final int FLAG_FAILS = 2;
    private static final int ALL_FLAGS = 3;

    private static final int MOST_FILES = 40;
    private static final int MOST_LOADERS = 10;
    private static final int MOST_THINGS = 60;
    private static final int MOST_CALLS = 512;
    /** Each has a call of its own: define, anew, or the put for its name on its loader's SHELF. */
    private static final int MOST_MODULES = MOST_CALLS;
    /** A PROGRAM and its LIBRARY may both be MAKING, each of them a name but once at a time. */
    private static final int MOST_MAKING = 2 * NAMES;

    private static final int NOT_BEGUN = 0;
    private static final int BEGUN = 1;
    private static final int FAILED_TO_BEGIN = 2;
    private static final int AT_PARENT = 3;
    private static final int AT_NEED = 4;
    private static final int AT_ITSELF = 5;
    private static final int MOST_STEPS = 3 * MOST_MODULES;

    private final Files files = new Files();
    private final Loaders loaders = new Loaders();
    private final Modules modules = new Modules();
    private final Things things = new Things();
    private final Row theOrder = new Row();
    /** Those that are just BEGINNING; each waits for the one after it. */
    private final Row beginning = new Row();
    private final boolean[] heldModules = new boolean[MOST_MODULES];

    public ModuleLoaders() {
    }

    public int file(int inner, int content, int parent, int need, int flags) {
        if (!isName(inner) || !isNameOrNone(parent) || !isNameOrNone(need)) {
            return BAD;
        }
        if (flags < 0 || flags > ALL_FLAGS) {
            return BAD;
        }
        return files.add(inner, content, parent, need, flags);
    }

    public int loader(int above, boolean own) {
        if (above != NONE) {
            if (!loaders.has(above) || loaders.isProgram(above)) {
                return BAD;
            }
            if (loaders.gone[above]) {
                return NO;
            }
        }
        return loaders.add(above, own);
    }

    public int put(int loader, int name, int file) {
        if (!loaders.has(loader) || !isName(name) || !files.has(file)) {
            return BAD;
        }
        if (loaders.gone[loader]) {
            return NO;
        }
        loaders.shelf[slot(loader, name)] = file;
        return DONE;
    }

    public int load(int loader, int name) {
        if (!loaders.has(loader) || !isName(name)) {
            return BAD;
        }
        if (loaders.gone[loader]) {
            return NO;
        }
        return ask(loader, name, 0);
    }

    public int define(int loader, int name, int file) {
        if (!loaders.has(loader) || !isName(name) || !files.has(file)) {
            return BAD;
        }
        if (loaders.gone[loader]) {
            return NO;
        }
        if (loaders.made[slot(loader, name)] != NONE) {
            return TWICE;
        }
        return make(loader, name, file, 0);
    }

    public int anew(int loader, int name, int file) {
        if (!loaders.has(loader) || !isName(name) || !files.has(file)) {
            return BAD;
        }
        if (loaders.gone[loader] || loaders.made[slot(loader, name)] == NONE) {
            return NO;
        }
        return make(loader, name, file, 0);
    }

    public int known(int loader, int name) {
        if (!loaders.has(loader) || !isName(name)) {
            return BAD;
        }
        return loaders.madeOrGiven(loader, name);
    }

    public int begin(int module) {
        if (!modules.has(module)) {
            return BAD;
        }
        if (loaders.gone[modules.maker[module]]) {
            return NO;
        }
        return beginFrom(module);
    }

    public int thing(int module) {
        if (!modules.has(module)) {
            return BAD;
        }
        if (loaders.gone[modules.maker[module]]) {
            return NO;
        }
        if (things.areFull()) {
            return FULL;
        }
        int answer = beginFrom(module);
        return answer == DONE ? things.add(module) : answer;
    }

    public int cast(int thing, int module) {
        if (!things.has(thing) || !modules.has(module)) {
            return BAD;
        }
        if (things.dropped[thing]) {
            return NO;
        }
        return modules.isOrDescends(things.kind[thing], module) ? DONE : NO_CAST;
    }

    public int drop(int thing) {
        if (!things.has(thing)) {
            return BAD;
        }
        if (things.dropped[thing]) {
            return NO;
        }
        things.dropped[thing] = true;
        return DONE;
    }

    public int letGo(int loader) {
        if (!loaders.has(loader)) {
            return BAD;
        }
        if (loaders.gone[loader] || loaders.hasLiveProgram(loader)) {
            return NO;
        }
        loaders.gone[loader] = true;
        return DONE;
    }

    public int held(int loader) {
        if (!loaders.has(loader)) {
            return BAD;
        }
        markHeld();
        int sum = 0;
        for (int m = 0; m < modules.size; m++) {
            if (modules.maker[m] == loader && heldModules[m]) {
                sum++;
            }
        }
        return sum;
    }

    public int isHeld(int module) {
        if (!modules.has(module)) {
            return BAD;
        }
        markHeld();
        return heldModules[module] ? 1 : 0;
    }

    public int about(int module, int what) {
        if (!modules.has(module)) {
            return 0;
        }
        switch (what) {
            case 0:
                return modules.maker[module];
            case 1:
                return modules.name[module];
            case 2:
                return modules.parent[module];
            case 3:
                return modules.state[module];
            case 4:
                return files.content[modules.file[module]];
            case 5:
                return modules.file[module];
            default:
                return 0;
        }
    }

    public int aboutThing(int thing, int what) {
        if (!things.has(thing)) {
            return BAD;
        }
        switch (what) {
            case 0:
                return things.kind[thing];
            case 1:
                return things.dropped[thing] ? 1 : 0;
            default:
                return BAD;
        }
    }

    public int order(int i) {
        return i >= 0 && i < theOrder.size ? theOrder.items[i] : 0;
    }

    public int count(int what) {
        switch (what) {
            case 0:
                return files.size;
            case 1:
                return loaders.size;
            case 2:
                return modules.size;
            case 3:
                return things.size;
            case 4:
                return theOrder.size;
            default:
                return BAD;
        }
    }

    private static boolean isName(int name) {
        return name >= 0 && name < NAMES;
    }

    private static boolean isNameOrNone(int name) {
        return name == NONE || isName(name);
    }

    /** The rows of all loaders by name lie one after the other. */
    private static int slot(int loader, int name) {
        return loader * NAMES + name;
    }

    /** depth: how many MAKINGS wait for this answer. */
    private int ask(int loader, int name, int depth) {
        int module = loaders.madeOrGiven(loader, name);
        if (module != NONE) {
            return module;
        }
        boolean program = loaders.isProgram(loader);
        boolean ownFirst = loaders.ownFirst[loader];
        if (program && !ownFirst) {
            int answer = askLibrary(loader, name, depth);
            if (answer != NONE_FOUND) {
                return answer;
            }
        }
        int file = loaders.shelf[slot(loader, name)];
        if (file != NONE) {
            // Only a LIBRARY's NONE FOUND opens the next way: what this FAILS by is the answer.
            return make(loader, name, file, depth);
        }
        return program && ownFirst ? askLibrary(loader, name, depth) : NONE_FOUND;
    }

    private int askLibrary(int program, int name, int depth) {
        int answer = ask(loaders.library[program], name, depth);
        if (answer >= 0) {
            loaders.given[slot(program, name)] = answer;
        }
        return answer;
    }

    /** TWICE is looked at by define alone: ask comes here with none MADE, and anew with one. */
    private int make(int loader, int name, int file, int depth) {
        int failure = failureAhead(loader, name, file);
        if (failure != DONE) {
            return failure;
        }
        int parentName = files.parent[file];
        if (parentName == NONE) {
            return stand(loader, name, file, NONE);
        }
        int own = slot(loader, name);
        loaders.making[own] = true;
        boolean ring = loaders.making[slot(loader, parentName)] || depth >= MOST_MAKING;
        int parent = ring ? RING : ask(loader, parentName, depth + 1);
        loaders.making[own] = false;
        return parent >= 0 ? stand(loader, name, file, parent) : parent;
    }

    private int failureAhead(int loader, int name, int file) {
        if (files.inner[file] != name) {
            return UNLIKE;
        }
        if (name < FIRST_FREE_NAME && loaders.isProgram(loader)) {
            return BARRED;
        }
        return files.hasFlag(file, FLAG_BROKEN) ? BROKEN : DONE;
    }

    private int stand(int loader, int name, int file, int parent) {
        int module = modules.add(loader, name, file, parent);
        // It can be FULL only after more than MOST_CALLS calls.
        if (module >= 0) {
            loaders.made[slot(loader, name)] = module;
        }
        return module;
    }

    /**
     * A loop and no recursion: MODULES that were MADE ANEW can have hundreds of PARENTS, one above
     * the other. Whatever one of the row FAILS by, all that wait for it FAIL by, too.
     */
    private int beginFrom(int module) {
        int answer = comeTo(module);
        for (int step = 0; step < MOST_STEPS && answer == DONE && beginning.size > 0; step++) {
            answer = goOn(beginning.items[beginning.size - 1]);
        }
        for (; beginning.size > 0; beginning.size--) {
            modules.state[beginning.items[beginning.size - 1]] = FAILED_TO_BEGIN;
        }
        return answer;
    }

    private int comeTo(int module) {
        int state = modules.state[module];
        if (state == FAILED_TO_BEGIN) {
            return GONE;
        }
        if (state == NOT_BEGUN) {
            modules.state[module] = AT_PARENT;
            beginning.add(module);
        }
        return DONE;
    }

    private int goOn(int module) {
        switch (modules.state[module]) {
            case AT_PARENT:
                modules.state[module] = AT_NEED;
                return modules.parent[module] == NONE ? DONE : comeTo(modules.parent[module]);
            case AT_NEED:
                modules.state[module] = AT_ITSELF;
                return comeToNeed(module);
            default:
                return beginItself(module);
        }
    }

    private int comeToNeed(int module) {
        int need = files.need[modules.file[module]];
        if (need == NONE) {
            return DONE;
        }
        int given = ask(modules.maker[module], need, 0);
        return given >= 0 ? comeTo(given) : given;
    }

    private int beginItself(int module) {
        int file = modules.file[module];
        if (files.hasFlag(file, FLAG_FAILS)) {
            return FAILED;
        }
        theOrder.add(files.content[file]);
        modules.state[module] = BEGUN;
        beginning.size--;
        return DONE;
    }

    private void markHeld() {
        for (int m = 0; m < modules.size; m++) {
            heldModules[m] = false;
        }
        for (int t = 0; t < things.size; t++) {
            if (!things.dropped[t]) {
                heldModules[things.kind[t]] = true;
            }
        }
        for (int l = 0; l < loaders.size; l++) {
            if (!loaders.gone[l]) {
                markHeldBy(l);
            }
        }
        // A PARENT stood before those that have it: downwards, one pass reaches all.
        for (int m = modules.size - 1; m >= 0; m--) {
            if (heldModules[m] && modules.parent[m] != NONE) {
                heldModules[modules.parent[m]] = true;
            }
        }
    }

    private void markHeldBy(int loader) {
        for (int name = 0; name < NAMES; name++) {
            int made = loaders.made[slot(loader, name)];
            if (made != NONE) {
                heldModules[made] = true;
            }
            // What was given stays held even where the loader MADE one of that name later.
            int given = loaders.given[slot(loader, name)];
            if (given != NONE) {
                heldModules[given] = true;
            }
        }
    }

    private static final class Files {
        final int[] inner = new int[MOST_FILES];
        final int[] content = new int[MOST_FILES];
        final int[] parent = new int[MOST_FILES];
        final int[] need = new int[MOST_FILES];
        final int[] flags = new int[MOST_FILES];
        int size = 0;

        boolean has(int number) {
            return number >= 0 && number < size;
        }

        boolean hasFlag(int number, int flag) {
            return (flags[number] & flag) != 0;
        }

        int add(int innerName, int itsContent, int parentName, int needName, int itsFlags) {
            if (size >= MOST_FILES) {
                return FULL;
            }
            inner[size] = innerName;
            content[size] = itsContent;
            parent[size] = parentName;
            need[size] = needName;
            flags[size] = itsFlags;
            return size++;
        }
    }

    private static final class Loaders {
        final int[] library = new int[MOST_LOADERS];
        final boolean[] ownFirst = new boolean[MOST_LOADERS];
        final boolean[] gone = new boolean[MOST_LOADERS];
        final int[] shelf = new int[MOST_LOADERS * NAMES];
        final int[] made = new int[MOST_LOADERS * NAMES];
        final int[] given = new int[MOST_LOADERS * NAMES];
        final boolean[] making = new boolean[MOST_LOADERS * NAMES];
        int size = 0;

        Loaders() {
            Arrays.fill(shelf, NONE);
            Arrays.fill(made, NONE);
            Arrays.fill(given, NONE);
        }

        boolean has(int number) {
            return number >= 0 && number < size;
        }

        boolean isProgram(int number) {
            return library[number] != NONE;
        }

        int add(int above, boolean own) {
            if (size >= MOST_LOADERS) {
                return FULL;
            }
            library[size] = above;
            ownFirst[size] = own;
            return size++;
        }

        int madeOrGiven(int number, int name) {
            int module = made[slot(number, name)];
            return module != NONE ? module : given[slot(number, name)];
        }

        boolean hasLiveProgram(int number) {
            for (int l = 0; l < size; l++) {
                if (library[l] == number && !gone[l]) {
                    return true;
                }
            }
            return false;
        }
    }

    private static final class Modules {
        final int[] maker = new int[MOST_MODULES];
        final int[] name = new int[MOST_MODULES];
        final int[] file = new int[MOST_MODULES];
        final int[] parent = new int[MOST_MODULES];
        final int[] state = new int[MOST_MODULES];
        int size = 0;

        boolean has(int number) {
            return number >= 0 && number < size;
        }

        int add(int itsMaker, int itsName, int itsFile, int itsParent) {
            if (size >= MOST_MODULES) {
                return FULL;
            }
            maker[size] = itsMaker;
            name[size] = itsName;
            file[size] = itsFile;
            parent[size] = itsParent;
            state[size] = NOT_BEGUN;
            return size++;
        }

        boolean isOrDescends(int number, int wanted) {
            int at = number;
            for (int i = 0; i < size && at != NONE; i++) {
                if (at == wanted) {
                    return true;
                }
                at = parent[at];
            }
            return false;
        }
    }

    private static final class Things {
        final int[] kind = new int[MOST_THINGS];
        final boolean[] dropped = new boolean[MOST_THINGS];
        int size = 0;

        boolean has(int number) {
            return number >= 0 && number < size;
        }

        boolean areFull() {
            return size >= MOST_THINGS;
        }

        int add(int module) {
            if (areFull()) {
                return FULL;
            }
            kind[size] = module;
            return size++;
        }
    }

    /** Holds a number for a MODULE at most, so that it can't run over. */
    private static final class Row {
        final int[] items = new int[MOST_MODULES];
        int size = 0;

        void add(int item) {
            if (size < MOST_MODULES) {
                items[size++] = item;
            }
        }
    }
}
