/** Promises 11 to 15 and 17: cast, drop, letGo, held, isHeld, aboutThing. */
public final class HoldingTest {
    private static final Due due = new Due();

    public static void main(String[] args) {
        castsGoUp();
        castsBetweenPrograms();
        wrongCasts();
        drops();
        lettingGo();
        heldByLoaders();
        heldByThings();
        heldAsGiven();
        heldAsParent();
        heldWithAllLoaders();
        wrongHelds();
        aboutThings();
        due.end();
    }

    private static void castsGoUp() {
        ModuleLoaders x = new ModuleLoaders();
        Due.library(x);
        Due.plain(x, 5, 1);
        Due.withParent(x, 6, 2, 5);
        x.file(7, 3, 6, 8, 0);
        Due.plain(x, 8, 4);
        for (int file = 0; file < 4; file++) {
            x.put(0, 5 + file, file);
        }
        x.load(0, 7);
        x.thing(1);
        x.thing(2);
        due.is("11 its own", x.cast(0, 1), 1);
        due.is("11 its parent", x.cast(0, 0), 1);
        due.is("11 not its child", x.cast(0, 2), Due.NO_CAST);
        due.is("11 its parent's parent", x.cast(1, 0), 1);
        due.is("11 not its need", x.cast(1, 3), Due.NO_CAST);
    }

    private static void castsBetweenPrograms() {
        ModuleLoaders x = new ModuleLoaders();
        Due.library(x);
        x.loader(0, false);
        x.loader(0, false);
        Due.plain(x, 5, 1);
        Due.withParent(x, 6, 2, 5);
        x.put(0, 5, 0);
        x.put(1, 6, 1);
        x.put(2, 6, 1);
        int here = x.load(1, 6);
        int there = x.load(2, 6);
        x.thing(here);
        due.is("11 the same file, another program", x.cast(0, there), Due.NO_CAST);
        due.is("11 both share the library's", x.cast(0, x.known(2, 5)), 1);
        due.is("11 casting begins nothing", x.about(there, 3), 0);
        x.letGo(1);
        due.is("11 let go is of no matter", x.cast(0, here), 1);
    }

    private static void wrongCasts() {
        ModuleLoaders x = new ModuleLoaders();
        Due.library(x);
        Due.plain(x, 5, 1);
        Due.plain(x, 6, 2);
        x.define(0, 5, 0);
        x.define(0, 6, 1);
        x.thing(0);
        int[] wrong = {Due.LEAST, -1, 2, 60, Due.MOST};
        for (int number : wrong) {
            due.is("11 thing " + number, x.cast(number, 0), Due.BAD);
            due.is("11 module " + number, x.cast(0, number), Due.BAD);
        }
        due.is("11 one thing too many", x.cast(1, 0), Due.BAD);
        x.drop(0);
        due.is("11 dropped", x.cast(0, 0), Due.NO);
        due.is("11 NO is ahead of what fails", x.cast(0, 1), Due.NO);
        due.is("11 BAD is ahead of NO", x.cast(0, 2), Due.BAD);
    }

    private static void drops() {
        ModuleLoaders x = new ModuleLoaders();
        Due.library(x);
        Due.plain(x, 5, 1);
        x.define(0, 5, 0);
        x.thing(0);
        x.thing(0);
        due.is("12 drop", x.drop(0), 1);
        due.is("12 again", x.drop(0), Due.NO);
        due.is("17 dropped", x.aboutThing(0, 1), 1);
        due.is("17 the other is not", x.aboutThing(1, 1), 0);
        int[] wrong = {Due.LEAST, -1, 2, 60, Due.MOST};
        for (int thing : wrong) {
            due.is("12 thing " + thing, x.drop(thing), Due.BAD);
        }
        x.letGo(0);
        due.is("12 let go is of no matter", x.drop(1), 1);
    }

    private static void lettingGo() {
        ModuleLoaders x = new ModuleLoaders();
        Due.library(x);
        x.loader(0, false);
        x.loader(0, true);
        Due.library(x);
        due.is("13 two programs below it", x.letGo(0), Due.NO);
        due.is("13 a program", x.letGo(1), 1);
        due.is("13 again", x.letGo(1), Due.NO);
        due.is("13 one program below it", x.letGo(0), Due.NO);
        due.is("13 the other", x.letGo(2), 1);
        due.is("13 none below it", x.letGo(0), 1);
        due.is("13 again", x.letGo(0), Due.NO);
        due.is("13 another library", x.letGo(3), 1);
        int[] wrong = {Due.LEAST, -1, 4, 10, Due.MOST};
        for (int loader : wrong) {
            due.is("13 loader " + loader, x.letGo(loader), Due.BAD);
        }
    }

    private static void heldByLoaders() {
        ModuleLoaders x = new ModuleLoaders();
        Due.library(x);
        Due.library(x);
        Due.plain(x, 5, 1);
        x.define(0, 5, 0);
        due.is("15 the loader gives it", x.isHeld(0), 1);
        due.is("14 one", x.held(0), 1);
        due.is("14 of the other none", x.held(1), 0);
        x.anew(0, 5, 0);
        due.is("15 the old one is not given", x.isHeld(0), 0);
        due.is("15 the new one is", x.isHeld(1), 1);
        due.is("14 one of two", x.held(0), 1);
        x.letGo(0);
        due.is("15 let go", x.isHeld(1), 0);
        due.is("14 none", x.held(0), 0);
    }

    private static void heldByThings() {
        ModuleLoaders x = new ModuleLoaders();
        Due.library(x);
        Due.plain(x, 5, 1);
        x.define(0, 5, 0);
        x.thing(0);
        x.thing(0);
        x.anew(0, 5, 0);
        due.is("15 by two things", x.isHeld(0), 1);
        x.drop(1);
        due.is("15 by one", x.isHeld(0), 1);
        x.letGo(0);
        due.is("15 though let go", x.isHeld(0), 1);
        due.is("14 the old one alone", x.held(0), 1);
        x.drop(0);
        due.is("15 by none", x.isHeld(0), 0);
        due.is("14 none", x.held(0), 0);
    }

    private static void heldAsGiven() {
        ModuleLoaders x = new ModuleLoaders();
        Due.library(x);
        x.loader(0, false);
        Due.plain(x, 5, 1);
        x.put(0, 5, 0);
        x.load(1, 5);
        x.anew(0, 5, 0);
        due.is("15 the program has it as given", x.isHeld(0), 1);
        due.is("14 both of the library", x.held(0), 2);
        due.is("14 the program made none", x.held(1), 0);
        x.define(1, 5, 0);
        due.is("15 though the program made its own", x.isHeld(0), 1);
        x.letGo(1);
        due.is("15 the program is let go", x.isHeld(0), 0);
        due.is("14 the new one of the library", x.held(0), 1);
        due.is("15 what the program made", x.isHeld(2), 0);
    }

    private static void heldAsParent() {
        ModuleLoaders x = new ModuleLoaders();
        Due.library(x);
        x.loader(0, false);
        Due.plain(x, 5, 1);
        x.file(6, 2, 5, 9, 0);
        Due.withParent(x, 7, 3, 6);
        Due.plain(x, 9, 4);
        x.put(0, 5, 0);
        x.put(1, 6, 1);
        x.put(1, 7, 2);
        x.put(0, 9, 3);
        x.load(1, 7);
        x.thing(2);
        x.letGo(1);
        x.letGo(0);
        due.is("15 of the thing", x.isHeld(2), 1);
        due.is("15 its parent", x.isHeld(1), 1);
        due.is("15 that one's", x.isHeld(0), 1);
        due.is("15 a need is not held", x.isHeld(3), 0);
        due.is("14 of the program", x.held(1), 2);
        due.is("14 of the library", x.held(0), 1);
        x.drop(0);
        for (int module = 0; module < 4; module++) {
            due.is("15 none is", x.isHeld(module), 0);
        }
    }

    private static void heldWithAllLoaders() {
        ModuleLoaders x = new ModuleLoaders();
        Due.plain(x, 0, 1);
        Due.plain(x, 30, 2);
        for (int l = 0; l < 10; l++) {
            Due.library(x);
            x.define(l, 0, 0);
            x.define(l, 30, 1);
        }
        for (int l = 1; l < 10; l += 2) {
            x.letGo(l);
        }
        for (int l = 0; l < 10; l++) {
            due.is("14 loader " + l, x.held(l), l % 2 == 0 ? 2 : 0);
            due.is("15 its first name", x.isHeld(2 * l), l % 2 == 0 ? 1 : 0);
            due.is("15 its last name", x.isHeld(2 * l + 1), l % 2 == 0 ? 1 : 0);
        }
    }

    private static void wrongHelds() {
        ModuleLoaders x = new ModuleLoaders();
        Due.library(x);
        Due.plain(x, 5, 1);
        x.define(0, 5, 0);
        int[] wrong = {Due.LEAST, -1, 1, 10, 1000, Due.MOST};
        for (int number : wrong) {
            due.is("14 loader " + number, x.held(number), Due.BAD);
            due.is("15 module " + number, x.isHeld(number), Due.BAD);
        }
    }

    private static void aboutThings() {
        ModuleLoaders x = new ModuleLoaders();
        Due.library(x);
        Due.plain(x, 5, 1);
        Due.plain(x, 6, 2);
        x.define(0, 5, 0);
        x.define(0, 6, 1);
        x.thing(1);
        due.is("17 its module", x.aboutThing(0, 0), 1);
        due.is("17 not dropped", x.aboutThing(0, 1), 0);
        x.drop(0);
        due.is("17 its module, dropped", x.aboutThing(0, 0), 1);
        due.is("17 dropped", x.aboutThing(0, 1), 1);
        int[] wrong = {Due.LEAST, -1, 2, 60, Due.MOST};
        for (int number : wrong) {
            due.is("17 thing " + number, x.aboutThing(number, 0), Due.BAD);
            due.is("17 what " + number, x.aboutThing(0, number), Due.BAD);
        }
        due.is("17 one thing too many", x.aboutThing(1, 0), Due.BAD);
    }
}
