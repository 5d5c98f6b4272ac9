/** Promises 1 to 4 and 19: a new object, file, loader, put, count. */
public final class ShelvesTest {
    private static final Due due = new Due();

    public static void main(String[] args) {
        nothingIsThere();
        filesAreNumbered();
        wrongFiles();
        fileFull();
        loadersAreNumbered();
        wrongLoaders();
        loaderFull();
        theLatestFileOfAShelf();
        wrongPuts();
        counts();
        due.end();
    }

    private static void nothingIsThere() {
        ModuleLoaders x = new ModuleLoaders();
        for (int what = 0; what <= 4; what++) {
            due.is("1 count(" + what + ")", x.count(what), 0);
        }
        due.is("1 put", x.put(0, 0, 0), Due.BAD);
        due.is("1 load", x.load(0, 0), Due.BAD);
        due.is("1 define", x.define(0, 0, 0), Due.BAD);
        due.is("1 anew", x.anew(0, 0, 0), Due.BAD);
        due.is("1 known", x.known(0, 0), Due.BAD);
        due.is("1 begin", x.begin(0), Due.BAD);
        due.is("1 thing", x.thing(0), Due.BAD);
        due.is("1 cast", x.cast(0, 0), Due.BAD);
        due.is("1 drop", x.drop(0), Due.BAD);
        due.is("1 letGo", x.letGo(0), Due.BAD);
        due.is("1 held", x.held(0), Due.BAD);
        due.is("1 isHeld", x.isHeld(0), Due.BAD);
        due.is("1 about", x.about(0, 0), 0);
        due.is("1 aboutThing", x.aboutThing(0, 0), Due.BAD);
        due.is("1 order", x.order(0), 0);
        x.loader(Due.NONE, false);
        due.is("1 another object has its own", new ModuleLoaders().count(1), 0);
    }

    private static void filesAreNumbered() {
        ModuleLoaders x = new ModuleLoaders();
        due.is("2 least names", x.file(0, Due.LEAST, 0, 0, 0), 0);
        due.is("2 most names", x.file(30, Due.MOST, 30, 30, 3), 1);
        due.is("2 no parent, no need", x.file(5, 0, -1, -1, 1), 2);
        due.is("2 its beginning fails", x.file(5, 0, -1, 5, 2), 3);
    }

    private static void wrongFiles() {
        ModuleLoaders x = new ModuleLoaders();
        int[] noNames = {Due.LEAST, -2, 31, Due.MOST};
        for (int name : noNames) {
            due.is("2 inner " + name, x.file(name, 0, 0, 0, 0), Due.BAD);
            due.is("2 parent " + name, x.file(0, 0, name, 0, 0), Due.BAD);
            due.is("2 need " + name, x.file(0, 0, 0, name, 0), Due.BAD);
        }
        due.is("2 inner NONE", x.file(-1, 0, 0, 0, 0), Due.BAD);
        int[] noFlags = {Due.LEAST, -1, 4, Due.MOST};
        for (int flags : noFlags) {
            due.is("2 flags " + flags, x.file(0, 0, 0, 0, flags), Due.BAD);
        }
        due.is("2 what is refused changes nothing", x.count(0), 0);
    }

    private static void fileFull() {
        ModuleLoaders x = new ModuleLoaders();
        for (int i = 0; i < 40; i++) {
            due.is("2 file " + i, Due.plain(x, i % 31, i), i);
        }
        due.is("2 the 41st", Due.plain(x, 0, 0), Due.FULL);
        due.is("2 BAD is ahead of FULL", Due.plain(x, 31, 0), Due.BAD);
        due.is("2 still 40", x.count(0), 40);
    }

    private static void loadersAreNumbered() {
        ModuleLoaders x = new ModuleLoaders();
        due.is("3 a library", x.loader(-1, false), 0);
        due.is("3 a library, own of no matter", x.loader(-1, true), 1);
        due.is("3 a program", x.loader(0, false), 2);
        due.is("3 an own first program", x.loader(1, true), 3);
        int file = Due.plain(x, 5, 50);
        x.put(1, 5, file);
        due.is("3 a library made with own gives as all do", x.load(1, 5), 0);
        due.is("3 .. and finds none without a library above", x.load(1, 6), Due.NONE_FOUND);
    }

    private static void wrongLoaders() {
        ModuleLoaders x = new ModuleLoaders();
        due.is("3 above itself", x.loader(0, false), Due.BAD);
        x.loader(-1, false);
        x.loader(0, false);
        due.is("3 above is a program", x.loader(1, false), Due.BAD);
        int[] noLoaders = {Due.LEAST, -2, 2, 10, Due.MOST};
        for (int above : noLoaders) {
            due.is("3 above " + above, x.loader(above, true), Due.BAD);
        }
        x.letGo(1);
        due.is("3 above is a program that is let go", x.loader(1, false), Due.BAD);
        x.letGo(0);
        due.is("3 above is let go", x.loader(0, false), Due.NO);
        due.is("3 what is refused changes nothing", x.count(1), 2);
    }

    private static void loaderFull() {
        ModuleLoaders x = new ModuleLoaders();
        for (int i = 0; i < 10; i++) {
            due.is("3 loader " + i, x.loader(i < 2 ? -1 : 0, false), i);
        }
        due.is("3 the 11th, a library", x.loader(-1, false), Due.FULL);
        due.is("3 the 11th, a program", x.loader(0, false), Due.FULL);
        due.is("3 BAD is ahead of FULL", x.loader(2, false), Due.BAD);
        x.letGo(1);
        due.is("3 NO is ahead of FULL", x.loader(1, false), Due.NO);
        due.is("3 what is let go makes no room", x.loader(0, false), Due.FULL);
        due.is("3 still 10", x.count(1), 10);
    }

    private static void theLatestFileOfAShelf() {
        ModuleLoaders x = new ModuleLoaders();
        Due.library(x);
        Due.library(x);
        int first = Due.plain(x, 5, 1);
        int second = Due.plain(x, 5, 2);
        due.is("4 put", x.put(0, 5, first), 1);
        due.is("4 put over it", x.put(0, 5, second), 1);
        due.is("4 put elsewhere", x.put(1, 5, first), 1);
        due.is("4 load", x.load(0, 5), 0);
        due.is("4 the latest", x.about(0, 5), second);
        due.is("4 each its own shelf", x.about(x.load(1, 5), 5), first);
        due.is("4 put after it was made", x.put(0, 5, first), 1);
        due.is("4 what was made stays", x.load(0, 5), 0);
        due.is("4 an unlike file can be put", x.put(0, 30, first), 1);
        due.is("4 put makes nothing", x.count(2), 2);
    }

    private static void wrongPuts() {
        ModuleLoaders x = new ModuleLoaders();
        Due.library(x);
        Due.plain(x, 5, 1);
        int[] wrong = {Due.LEAST, -1, 31, Due.MOST};
        for (int number : wrong) {
            due.is("4 loader " + number, x.put(number, 5, 0), Due.BAD);
            due.is("4 name " + number, x.put(0, number, 0), Due.BAD);
            due.is("4 file " + number, x.put(0, 5, number), Due.BAD);
        }
        due.is("4 one loader too many", x.put(1, 5, 0), Due.BAD);
        due.is("4 one file too many", x.put(0, 5, 1), Due.BAD);
        due.is("4 nothing was put", x.load(0, 5), Due.NONE_FOUND);
        x.letGo(0);
        due.is("4 let go", x.put(0, 5, 0), Due.NO);
        due.is("4 BAD is ahead of NO", x.put(0, 5, 1), Due.BAD);
    }

    private static void counts() {
        ModuleLoaders x = new ModuleLoaders();
        Due.library(x);
        Due.plain(x, 5, 50);
        Due.plain(x, 6, 60);
        Due.plain(x, 7, 70);
        x.define(0, 5, 0);
        x.define(0, 6, 1);
        x.thing(0);
        x.thing(0);
        x.thing(0);
        x.thing(1);
        due.is("19 files", x.count(0), 3);
        due.is("19 loaders", x.count(1), 1);
        due.is("19 modules", x.count(2), 2);
        due.is("19 things", x.count(3), 4);
        due.is("19 contents", x.count(4), 2);
        x.drop(0);
        x.letGo(0);
        due.is("19 dropped ones count", x.count(3), 4);
        due.is("19 let go ones count", x.count(1), 1);
        due.is("19 their modules count", x.count(2), 2);
        int[] wrong = {Due.LEAST, -1, 5, Due.MOST};
        for (int what : wrong) {
            due.is("19 what " + what, x.count(what), Due.BAD);
        }
    }
}
