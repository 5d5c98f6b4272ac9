/** Promises 5 to 8 and 16: load, define, anew, known, about. */
public final class MakingTest {
    private static final Due due = new Due();

    public static void main(String[] args) {
        libraryFirst();
        ownFirst();
        whatALibraryFailsBy();
        ownMakingThatFails();
        givenStays();
        parentsAreAsked();
        rings();
        aRingIsOfOneLoader();
        theDeepestAsking();
        failuresInTheirOrder();
        whatStoodStays();
        defineMakes();
        wrongDefines();
        anewMakes();
        wrongAnews();
        knownAsksNothing();
        aboutModules();
        wrongLoads();
        due.end();
    }

    private static void libraryFirst() {
        ModuleLoaders x = new ModuleLoaders();
        Due.library(x);
        x.loader(0, false);
        Due.plain(x, 5, 1);
        Due.plain(x, 5, 2);
        Due.plain(x, 6, 3);
        x.put(0, 5, 0);
        x.put(1, 5, 1);
        x.put(1, 6, 2);
        due.is("5 the library's", x.about(x.load(1, 5), 0), 0);
        due.is("5 .. of its file", x.about(x.load(1, 5), 5), 0);
        due.is("5 its own, if the library has none", x.about(x.load(1, 6), 0), 1);
        due.is("5 the library stays without", x.load(0, 6), Due.NONE_FOUND);
        due.is("5 none anywhere", x.load(1, 7), Due.NONE_FOUND);
        due.is("5 each was made once", x.count(2), 2);
    }

    private static void ownFirst() {
        ModuleLoaders x = new ModuleLoaders();
        Due.library(x);
        x.loader(0, true);
        Due.plain(x, 5, 1);
        Due.plain(x, 5, 2);
        Due.plain(x, 6, 3);
        x.put(0, 5, 0);
        x.put(1, 5, 1);
        x.put(0, 6, 2);
        due.is("5 its own", x.load(1, 5), 0);
        due.is("5 .. of its file", x.about(0, 5), 1);
        due.is("5 the library makes another", x.load(0, 5), 1);
        due.is("5 the library's, if it has none", x.load(1, 6), 2);
        due.is("5 .. that made it", x.about(2, 0), 0);
        due.is("5 none anywhere", x.load(1, 7), Due.NONE_FOUND);
    }

    private static void whatALibraryFailsBy() {
        ModuleLoaders x = new ModuleLoaders();
        Due.library(x);
        x.loader(0, false);
        x.loader(0, true);
        x.file(5, 1, Due.NONE, Due.NONE, 1);
        Due.plain(x, 5, 2);
        Due.withParent(x, 6, 3, 9);
        Due.plain(x, 6, 4);
        x.put(0, 5, 0);
        x.put(1, 5, 1);
        due.is("5 broken in the library", x.load(1, 5), Due.BROKEN);
        due.is("5 .. own first, too", x.load(2, 5), Due.BROKEN);
        due.is("5 nothing was made", x.count(2), 0);
        x.put(0, 6, 2);
        x.put(1, 6, 3);
        due.is("5 the library finds no parent", x.load(0, 6), Due.NONE_FOUND);
        due.is("5 .. then the program makes its own", x.about(x.load(1, 6), 5), 3);
        due.is("5 .. own first without a file finds none", x.load(2, 6), Due.NONE_FOUND);
        x.put(0, 7, 3);
        x.put(1, 7, 3);
        due.is("5 unlike in the library", x.load(1, 7), Due.UNLIKE);
    }

    private static void ownMakingThatFails() {
        ModuleLoaders x = new ModuleLoaders();
        Due.library(x);
        x.loader(0, true);
        Due.plain(x, 5, 1);
        Due.withParent(x, 5, 2, 9);
        x.file(6, 3, Due.NONE, Due.NONE, 1);
        Due.plain(x, 6, 4);
        Due.plain(x, 2, 5);
        x.put(0, 5, 0);
        x.put(1, 5, 1);
        x.put(0, 6, 3);
        x.put(1, 6, 2);
        x.put(0, 2, 4);
        x.put(1, 2, 4);
        due.is("5 no parent found, the library is not asked", x.load(1, 5), Due.NONE_FOUND);
        due.is("5 broken, the library is not asked", x.load(1, 6), Due.BROKEN);
        due.is("5 barred, the library is not asked", x.load(1, 2), Due.BARRED);
        due.is("5 nothing was made", x.count(2), 0);
    }

    private static void givenStays() {
        ModuleLoaders x = new ModuleLoaders();
        Due.library(x);
        x.loader(0, false);
        x.loader(0, false);
        Due.plain(x, 5, 1);
        x.put(0, 5, 0);
        due.is("5 given", x.load(1, 5), 0);
        due.is("7 the library makes it anew", x.anew(0, 5, 0), 1);
        due.is("5 the program goes on with the old one", x.load(1, 5), 0);
        due.is("5 another is given the new one", x.load(2, 5), 1);
        due.is("8 the old one", x.known(1, 5), 0);
        due.is("6 a given one is no TWICE", x.define(1, 5, 0), 2);
        due.is("5 the one it made goes ahead", x.load(1, 5), 2);
        due.is("6 now it is", x.define(1, 5, 0), Due.TWICE);
    }

    private static void parentsAreAsked() {
        ModuleLoaders x = new ModuleLoaders();
        Due.library(x);
        x.loader(0, false);
        x.loader(0, true);
        Due.plain(x, 5, 1);
        Due.withParent(x, 6, 2, 5);
        Due.withParent(x, 7, 3, 6);
        x.put(0, 5, 0);
        x.put(1, 6, 1);
        x.put(1, 7, 2);
        due.is("5 the parents stand first", x.load(1, 7), 2);
        due.is("16 its parent", x.about(2, 2), 1);
        due.is("16 that one's", x.about(1, 2), 0);
        due.is("16 none", x.about(0, 2), Due.NONE);
        due.is("8 the parent was given", x.known(1, 5), 0);
        x.put(2, 5, 0);
        x.put(2, 6, 1);
        due.is("5 own first", x.load(2, 6), 4);
        due.is("16 its own parent", x.about(4, 2), 3);
        due.is("16 made by it", x.about(3, 0), 2);
    }

    private static void rings() {
        ModuleLoaders x = new ModuleLoaders();
        Due.library(x);
        Due.withParent(x, 5, 1, 5);
        Due.withParent(x, 6, 2, 7);
        Due.withParent(x, 7, 3, 8);
        Due.withParent(x, 8, 4, 6);
        Due.plain(x, 5, 5);
        Due.plain(x, 8, 6);
        x.put(0, 5, 0);
        x.put(0, 6, 1);
        x.put(0, 7, 2);
        x.put(0, 8, 3);
        due.is("5 its own parent", x.load(0, 5), Due.RING);
        due.is("5 a ring of three", x.load(0, 6), Due.RING);
        due.is("5 again", x.load(0, 7), Due.RING);
        due.is("5 nothing stands", x.count(2), 0);
        x.put(0, 8, 5);
        due.is("5 the ring is cut", x.load(0, 6), 2);
        due.is("6 made", x.define(0, 5, 4), 3);
        due.is("7 a ring, though one was made", x.anew(0, 5, 0), Due.RING);
        due.is("7 the old one is known", x.known(0, 5), 3);
        Due.withParent(x, 5, 7, 9);
        Due.withParent(x, 9, 8, 5);
        x.put(0, 9, 7);
        due.is("7 a ring by a parent that is made", x.anew(0, 5, 6), Due.RING);
        due.is("5 alone it is none", x.load(0, 9), 4);
        due.is("7 with that parent made it is none, too", x.anew(0, 5, 6), 5);
    }

    private static void aRingIsOfOneLoader() {
        ModuleLoaders x = new ModuleLoaders();
        Due.library(x);
        x.loader(0, true);
        Due.withParent(x, 5, 1, 6);
        Due.withParent(x, 6, 2, 5);
        Due.plain(x, 5, 3);
        x.put(1, 5, 0);
        x.put(0, 6, 1);
        x.put(0, 5, 2);
        due.is("5 the library makes one of that name, too", x.load(1, 5), 2);
        due.is("16 parent", x.about(2, 2), 1);
        due.is("16 parent's parent", x.about(1, 2), 0);
        due.is("16 the library's", x.about(0, 0), 0);
        due.is("16 the program's", x.about(2, 0), 1);
    }

    /** 27 names of a PROGRAM and 31 of its LIBRARY are being MADE at once. */
    private static void theDeepestAsking() {
        ModuleLoaders x = new ModuleLoaders();
        Due.library(x);
        x.loader(0, true);
        for (int name = 0; name < 30; name++) {
            Due.withParent(x, name, name, name + 1);
            x.put(0, name, name);
            if (name >= 4) {
                x.put(1, name, name);
            }
        }
        x.put(1, 30, Due.withParent(x, 30, 30, 0));
        x.put(0, 30, Due.plain(x, 30, 31));
        due.is("5 58 stand", x.load(1, 4), 57);
        due.is("19 58", x.count(2), 58);
        due.is("9 all begin", x.begin(57), 1);
        due.is("18 the topmost first", x.order(0), 31);
        due.is("18 it itself last", x.order(57), 4);
    }

    private static void failuresInTheirOrder() {
        ModuleLoaders x = new ModuleLoaders();
        Due.library(x);
        x.loader(0, false);
        Due.plain(x, 5, 1);
        x.file(3, 2, 3, Due.NONE, 1);
        x.file(5, 3, 5, Due.NONE, 1);
        x.file(6, 4, Due.NONE, Due.NONE, 3);
        Due.plain(x, 4, 5);
        x.define(1, 5, 0);
        due.is("6 TWICE is ahead of UNLIKE", x.define(1, 5, 1), Due.TWICE);
        due.is("6 TWICE is ahead of BROKEN", x.define(1, 5, 2), Due.TWICE);
        due.is("6 UNLIKE is ahead of BARRED", x.define(1, 3, 0), Due.UNLIKE);
        due.is("6 UNLIKE is ahead of BROKEN", x.define(1, 7, 3), Due.UNLIKE);
        due.is("6 BARRED is ahead of BROKEN", x.define(1, 3, 1), Due.BARRED);
        due.is("6 BROKEN is ahead of RING", x.define(0, 3, 1), Due.BROKEN);
        due.is("6 broken, both flags", x.define(1, 6, 3), Due.BROKEN);
        due.is("6 4 is not barred", x.define(1, 4, 4), 1);
        due.is("6 a library is not barred", x.define(0, 3, x.file(3, 0, -1, -1, 2)), 2);
        due.is("7 UNLIKE", x.anew(1, 5, 1), Due.UNLIKE);
        due.is("7 BROKEN is ahead of RING", x.anew(1, 5, 2), Due.BROKEN);
    }

    private static void whatStoodStays() {
        ModuleLoaders x = new ModuleLoaders();
        Due.library(x);
        x.loader(0, false);
        Due.plain(x, 5, 1);
        Due.withParent(x, 6, 2, 5);
        x.file(7, 3, Due.NONE, 6, 0);
        Due.withParent(x, 8, 4, 7);
        x.put(0, 5, 0);
        x.put(1, 6, 1);
        due.is("5 no parent", x.define(1, 8, 3), Due.NONE_FOUND);
        x.put(1, 7, 2);
        due.is("5 the need is not asked for", x.load(1, 7), 0);
        due.is("5 now with a parent", x.define(1, 8, 3), 1);
        due.is("19 no more", x.count(2), 2);
        due.is("7 the need has a parent of the library", x.begin(1), 1);
        due.is("8 it is kept as given", x.known(1, 5), 2);
        due.order("18", x, 1, 2, 3, 4);
    }

    private static void defineMakes() {
        ModuleLoaders x = new ModuleLoaders();
        Due.library(x);
        Due.plain(x, 5, 1);
        Due.withParent(x, 6, 2, 5);
        due.is("6 the parent is on no shelf", x.define(0, 6, 1), Due.NONE_FOUND);
        due.is("6 made", x.define(0, 5, 0), 0);
        due.is("6 with a parent that was made", x.define(0, 6, 1), 1);
        due.is("6 twice", x.define(0, 6, 1), Due.TWICE);
        due.is("5 it is given", x.load(0, 6), 1);
        due.is("9 define begins nothing", x.about(1, 3), 0);
    }

    private static void wrongDefines() {
        ModuleLoaders x = new ModuleLoaders();
        Due.library(x);
        Due.plain(x, 5, 1);
        int[] wrong = {Due.LEAST, -1, 31, Due.MOST};
        for (int number : wrong) {
            due.is("6 loader " + number, x.define(number, 5, 0), Due.BAD);
            due.is("6 name " + number, x.define(0, number, 0), Due.BAD);
            due.is("6 file " + number, x.define(0, 5, number), Due.BAD);
        }
        due.is("6 one loader too many", x.define(1, 5, 0), Due.BAD);
        due.is("6 one file too many", x.define(0, 5, 1), Due.BAD);
        x.define(0, 5, 0);
        x.letGo(0);
        due.is("6 let go, NO is ahead of TWICE", x.define(0, 5, 0), Due.NO);
        due.is("6 BAD is ahead of NO", x.define(0, 31, 0), Due.BAD);
    }

    private static void anewMakes() {
        ModuleLoaders x = new ModuleLoaders();
        Due.library(x);
        Due.plain(x, 5, 1);
        Due.withParent(x, 6, 2, 5);
        Due.plain(x, 5, 3);
        x.define(0, 5, 0);
        x.define(0, 6, 1);
        x.thing(1);
        due.is("7 anew", x.anew(0, 5, 2), 2);
        due.is("5 the new one is given", x.load(0, 5), 2);
        due.is("8 the new one is known", x.known(0, 5), 2);
        due.is("16 it did not begin", x.about(2, 3), 0);
        due.is("16 the old one did", x.about(0, 3), 1);
        due.is("16 the old one is still the parent", x.about(1, 2), 0);
        due.is("17 the thing stays", x.aboutThing(0, 0), 1);
        due.is("11 to the old one", x.cast(0, 0), 1);
        due.is("11 not to the new one", x.cast(0, 2), Due.NO_CAST);
        due.is("7 the child anew", x.anew(0, 6, 1), 3);
        due.is("16 has the new parent", x.about(3, 2), 2);
        due.is("9 begins anew", x.begin(3), 1);
        due.order("18", x, 1, 2, 3, 2);
        due.is("9 old ones begin, too", x.begin(0), 1);
        due.is("6 TWICE as ever", x.define(0, 5, 0), Due.TWICE);
    }

    private static void wrongAnews() {
        ModuleLoaders x = new ModuleLoaders();
        Due.library(x);
        x.loader(0, false);
        Due.plain(x, 5, 1);
        Due.plain(x, 3, 2);
        x.put(0, 5, 0);
        x.put(0, 3, 1);
        due.is("7 made none", x.anew(0, 5, 0), Due.NO);
        x.load(1, 5);
        x.load(1, 3);
        due.is("7 a given one is not made", x.anew(1, 5, 0), Due.NO);
        due.is("7 NO is ahead of BARRED", x.anew(1, 3, 1), Due.NO);
        due.is("7 NO is ahead of UNLIKE", x.anew(1, 6, 1), Due.NO);
        int[] wrong = {Due.LEAST, -1, 31, Due.MOST};
        for (int number : wrong) {
            due.is("7 loader " + number, x.anew(number, 5, 0), Due.BAD);
            due.is("7 name " + number, x.anew(0, number, 0), Due.BAD);
            due.is("7 file " + number, x.anew(0, 5, number), Due.BAD);
        }
        due.is("7 one file too many", x.anew(0, 5, 2), Due.BAD);
        x.letGo(1);
        x.letGo(0);
        due.is("7 let go", x.anew(0, 5, 0), Due.NO);
        due.is("7 BAD is ahead of NO", x.anew(0, 5, 2), Due.BAD);
        due.is("7 nothing changed", x.count(2), 2);
    }

    private static void knownAsksNothing() {
        ModuleLoaders x = new ModuleLoaders();
        Due.library(x);
        x.loader(0, false);
        Due.plain(x, 5, 1);
        x.put(0, 5, 0);
        due.is("8 not asked", x.known(0, 5), Due.NONE);
        x.load(0, 5);
        due.is("8 made", x.known(0, 5), 0);
        due.is("8 not yet given", x.known(1, 5), Due.NONE);
        x.load(1, 5);
        due.is("8 given", x.known(1, 5), 0);
        x.define(1, 5, 0);
        due.is("8 made is ahead of given", x.known(1, 5), 1);
        x.anew(1, 5, 0);
        due.is("8 the latest", x.known(1, 5), 2);
        x.letGo(1);
        due.is("8 let go is of no matter", x.known(1, 5), 2);
        int[] wrong = {Due.LEAST, -1, 31, Due.MOST};
        for (int number : wrong) {
            due.is("8 loader " + number, x.known(number, 5), Due.BAD);
            due.is("8 name " + number, x.known(0, number), Due.BAD);
        }
        due.is("8 one loader too many", x.known(2, 5), Due.BAD);
        due.is("8 the least name", x.known(0, 0), Due.NONE);
        due.is("8 the most name", x.known(0, 30), Due.NONE);
    }

    private static void aboutModules() {
        ModuleLoaders x = new ModuleLoaders();
        Due.library(x);
        Due.library(x);
        Due.plain(x, 5, -50);
        x.file(6, Due.MOST, 5, Due.NONE, 2);
        x.put(1, 5, 0);
        x.define(1, 6, 1);
        int[] child = {1, 6, 0, 0, Due.MOST, 1};
        for (int what = 0; what <= 5; what++) {
            due.is("16 what " + what, x.about(1, what), child[what]);
        }
        x.begin(1);
        due.is("16 failed", x.about(1, 3), 2);
        due.is("16 its parent did", x.about(0, 3), 1);
        due.is("16 content", x.about(0, 4), -50);
        int[] wrong = {Due.LEAST, -1, 6, Due.MOST};
        for (int number : wrong) {
            due.is("16 what " + number, x.about(1, number), 0);
            due.is("16 content of module " + number, x.about(number, 4), 0);
        }
        for (int what = 0; what <= 5; what++) {
            due.is("16 one module too many, " + what, x.about(2, what), 0);
        }
        x.letGo(1);
        due.is("16 let go is of no matter", x.about(1, 0), 1);
    }

    private static void wrongLoads() {
        ModuleLoaders x = new ModuleLoaders();
        Due.library(x);
        Due.plain(x, 5, 1);
        x.put(0, 5, 0);
        int[] wrong = {Due.LEAST, -1, 31, Due.MOST};
        for (int number : wrong) {
            due.is("5 loader " + number, x.load(number, 5), Due.BAD);
            due.is("5 name " + number, x.load(0, number), Due.BAD);
        }
        due.is("5 one loader too many", x.load(1, 5), Due.BAD);
        x.load(0, 5);
        x.letGo(0);
        due.is("5 let go, though one was made", x.load(0, 5), Due.NO);
        due.is("5 BAD is ahead of NO", x.load(0, 31), Due.BAD);
    }
}
