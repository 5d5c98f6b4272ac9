import java.util.ArrayList;
import java.util.HashMap;
import java.util.HashSet;
import java.util.List;
import java.util.Map;
import java.util.Set;

/** The document once more, written with objects, maps, recursion and exceptions. */
final class Model {
    private static final class Failure extends Exception {
        private static final long serialVersionUID = 1L;
        final int number;

        Failure(int number) {
            this.number = number;
        }

        int answer() {
            return -10 - number;
        }
    }

    private record Source(int number, int inner, int content, int parent, int need, int flags) {
    }

    private static final class Loader {
        int number;
        Loader library;
        boolean own;
        boolean gone;
        final Map<Integer, Source> shelf = new HashMap<>();
        final Map<Integer, List<Mod>> made = new HashMap<>();
        final Map<Integer, Mod> given = new HashMap<>();
        final Set<Integer> making = new HashSet<>();

        Mod latest(int name) {
            List<Mod> all = made.get(name);
            return all == null ? null : all.get(all.size() - 1);
        }
    }

    private enum State { NOT, BEGINNING, DID, FAILED }

    private static final class Mod {
        int number;
        Loader loader;
        int name;
        Source source;
        Mod parent;
        State state = State.NOT;
    }

    private static final class Thing {
        final Mod mod;
        boolean dropped;

        Thing(Mod mod) {
            this.mod = mod;
        }
    }

    private final List<Source> sources = new ArrayList<>();
    private final List<Loader> loaders = new ArrayList<>();
    private final List<Mod> mods = new ArrayList<>();
    private final List<Thing> things = new ArrayList<>();
    private final List<Integer> contents = new ArrayList<>();

    private static <T> T at(List<T> list, int i) {
        return i < 0 || i >= list.size() ? null : list.get(i);
    }

    private static boolean name(int n) {
        return n >= 0 && n <= 30;
    }

    int file(int inner, int content, int parent, int need, int flags) {
        boolean fine = name(inner) && (name(parent) || parent == -1) && (name(need) || need == -1);
        if (!fine || flags < 0 || flags > 3) return -2;
        if (sources.size() == 40) return -4;
        sources.add(new Source(sources.size(), inner, content, parent, need, flags));
        return sources.size() - 1;
    }

    int loader(int above, boolean own) {
        Loader library = at(loaders, above);
        if (above != -1 && (library == null || library.library != null)) return -2;
        if (library != null && library.gone) return -3;
        if (loaders.size() == 10) return -4;
        Loader l = new Loader();
        l.number = loaders.size();
        l.library = library;
        l.own = own && library != null;
        loaders.add(l);
        return l.number;
    }

    int put(int loader, int name, int file) {
        Loader l = at(loaders, loader);
        Source s = at(sources, file);
        if (l == null || s == null || !name(name)) return -2;
        if (l.gone) return -3;
        l.shelf.put(name, s);
        return 1;
    }

    int load(int loader, int name) {
        Loader l = at(loaders, loader);
        if (l == null || !name(name)) return -2;
        if (l.gone) return -3;
        try {
            return asked(l, name).number;
        } catch (Failure f) {
            return f.answer();
        }
    }

    int define(int loader, int name, int file) {
        Loader l = at(loaders, loader);
        Source s = at(sources, file);
        if (l == null || s == null || !name(name)) return -2;
        if (l.gone) return -3;
        try {
            return makes(l, name, s, false).number;
        } catch (Failure f) {
            return f.answer();
        }
    }

    int anew(int loader, int name, int file) {
        Loader l = at(loaders, loader);
        Source s = at(sources, file);
        if (l == null || s == null || !name(name)) return -2;
        if (l.gone || l.latest(name) == null) return -3;
        try {
            return makes(l, name, s, true).number;
        } catch (Failure f) {
            return f.answer();
        }
    }

    private Mod asked(Loader l, int name) throws Failure {
        if (l.latest(name) != null) return l.latest(name);
        if (l.given.containsKey(name)) return l.given.get(name);
        if (l.library != null && !l.own) {
            Mod m = fromLibrary(l, name);
            if (m != null) return m;
        }
        if (l.shelf.containsKey(name)) return makes(l, name, l.shelf.get(name), false);
        if (l.library != null && l.own) {
            Mod m = fromLibrary(l, name);
            if (m != null) return m;
        }
        throw new Failure(1);
    }

    private Mod fromLibrary(Loader l, int name) throws Failure {
        try {
            Mod m = asked(l.library, name);
            l.given.put(name, m);
            return m;
        } catch (Failure f) {
            if (f.number == 1) return null;
            throw f;
        }
    }

    private Mod makes(Loader l, int name, Source s, boolean anew) throws Failure {
        if (!anew && l.latest(name) != null) throw new Failure(2);
        if (s.inner() != name) throw new Failure(3);
        if (name < 4 && l.library != null) throw new Failure(4);
        if (s.flags() % 2 == 1) throw new Failure(6);
        Mod parent = null;
        if (s.parent() != -1) {
            l.making.add(name);
            try {
                if (l.making.contains(s.parent())) throw new Failure(5);
                parent = asked(l, s.parent());
            } finally {
                l.making.remove(name);
            }
        }
        Mod m = new Mod();
        m.number = mods.size();
        m.loader = l;
        m.name = name;
        m.source = s;
        m.parent = parent;
        mods.add(m);
        l.made.computeIfAbsent(name, n -> new ArrayList<>()).add(m);
        return m;
    }

    int known(int loader, int name) {
        Loader l = at(loaders, loader);
        if (l == null || !name(name)) return -2;
        Mod m = l.latest(name) != null ? l.latest(name) : l.given.get(name);
        return m == null ? -1 : m.number;
    }

    private void begins(Mod m) throws Failure {
        if (m.state == State.FAILED) throw new Failure(8);
        if (m.state != State.NOT) return;
        m.state = State.BEGINNING;
        try {
            if (m.parent != null) begins(m.parent);
            if (m.source.need() != -1) begins(asked(m.loader, m.source.need()));
            if (m.source.flags() >= 2) throw new Failure(7);
        } catch (Failure f) {
            m.state = State.FAILED;
            throw f;
        }
        contents.add(m.source.content());
        m.state = State.DID;
    }

    int begin(int module) {
        Mod m = at(mods, module);
        if (m == null) return -2;
        if (m.loader.gone) return -3;
        try {
            begins(m);
            return 1;
        } catch (Failure f) {
            return f.answer();
        }
    }

    int thing(int module) {
        Mod m = at(mods, module);
        if (m == null) return -2;
        if (m.loader.gone) return -3;
        if (things.size() == 60) return -4;
        try {
            begins(m);
        } catch (Failure f) {
            return f.answer();
        }
        things.add(new Thing(m));
        return things.size() - 1;
    }

    int cast(int thing, int module) {
        Thing t = at(things, thing);
        Mod m = at(mods, module);
        if (t == null || m == null) return -2;
        if (t.dropped) return -3;
        for (Mod up = t.mod; up != null; up = up.parent) {
            if (up == m) return 1;
        }
        return -19;
    }

    int drop(int thing) {
        Thing t = at(things, thing);
        if (t == null) return -2;
        if (t.dropped) return -3;
        t.dropped = true;
        return 1;
    }

    int letGo(int loader) {
        Loader l = at(loaders, loader);
        if (l == null) return -2;
        if (l.gone) return -3;
        for (Loader p : loaders) {
            if (p.library == l && !p.gone) return -3;
        }
        l.gone = true;
        return 1;
    }

    private boolean holds(Mod m) {
        for (Thing t : things) {
            if (t.mod == m && !t.dropped) return true;
        }
        for (Loader l : loaders) {
            if (!l.gone && (l.latest(m.name) == m && l == m.loader || l.given.containsValue(m))) return true;
        }
        for (Mod child : mods) {
            if (child.parent == m && holds(child)) return true;
        }
        return false;
    }

    int held(int loader) {
        Loader l = at(loaders, loader);
        if (l == null) return -2;
        int sum = 0;
        for (Mod m : mods) {
            if (m.loader == l && holds(m)) sum++;
        }
        return sum;
    }

    int isHeld(int module) {
        Mod m = at(mods, module);
        if (m == null) return -2;
        return holds(m) ? 1 : 0;
    }

    int about(int module, int what) {
        Mod m = at(mods, module);
        if (m == null) return 0;
        return switch (what) {
            case 0 -> m.loader.number;
            case 1 -> m.name;
            case 2 -> m.parent == null ? -1 : m.parent.number;
            case 3 -> m.state == State.NOT ? 0 : m.state == State.DID ? 1 : 2;
            case 4 -> m.source.content();
            case 5 -> m.source.number();
            default -> 0;
        };
    }

    int aboutThing(int thing, int what) {
        Thing t = at(things, thing);
        if (t == null || what < 0 || what > 1) return -2;
        return what == 0 ? t.mod.number : t.dropped ? 1 : 0;
    }

    int order(int i) {
        Integer content = at(contents, i);
        return content == null ? 0 : content;
    }

    int count(int what) {
        return switch (what) {
            case 0 -> sources.size();
            case 1 -> loaders.size();
            case 2 -> mods.size();
            case 3 -> things.size();
            case 4 -> contents.size();
            default -> -2;
        };
    }
}
