/** Promises 9, 10 and 18: begin, thing, order. */
public final class BeginningTest {
    private static final Due due = new Due();

    public static void main(String[] args) {
        parentThenNeedThenItself();
        onlyOnce();
        ringsOfNeeds();
        aNeedOfItself();
        failsByItself();
        failsByParent();
        failsByNeed();
        failsInARing();
        theLoaderThatMadeItIsAsked();
        theDeepestRowOfParents();
        wrongBegins();
        thingsBeginTheirModule();
        thingFull();
        wrongOrders();
        manyCalls();
        due.end();
    }

    private static void parentThenNeedThenItself() {
        ModuleLoaders x = new ModuleLoaders();
        Due.library(x);
        x.file(5, 1, 6, 7, 0);
        x.file(6, 2, Due.NONE, 8, 0);
        Due.withParent(x, 7, 3, 9);
        Due.plain(x, 8, 4);
        Due.plain(x, 9, 5);
        for (int file = 0; file < 5; file++) {
            x.put(0, 5 + file, file);
        }
        due.is("9 load begins nothing", x.load(0, 5), 1);
        due.order("18 nothing yet", x);
        due.is("9 begin", x.begin(1), 1);
        due.order("18", x, 4, 2, 5, 3, 1);
        due.is("9 what was needed stands", x.count(2), 5);
        for (int module = 0; module < 5; module++) {
            due.is("16 it began", x.about(module, 3), 1);
        }
    }

    private static void onlyOnce() {
        ModuleLoaders x = new ModuleLoaders();
        Due.library(x);
        Due.plain(x, 5, 1);
        Due.withParent(x, 6, 2, 5);
        x.put(0, 5, 0);
        x.define(0, 6, 1);
        due.is("9 the parent", x.begin(0), 1);
        due.is("9 not the child", x.about(1, 3), 0);
        due.is("9 the child", x.begin(1), 1);
        due.is("9 again", x.begin(1), 1);
        due.is("9 the parent again", x.begin(0), 1);
        due.order("18", x, 1, 2);
    }

    private static void ringsOfNeeds() {
        ModuleLoaders x = new ModuleLoaders();
        Due.library(x);
        Due.withNeed(x, 5, 1, 6);
        Due.withNeed(x, 6, 2, 7);
        Due.withNeed(x, 7, 3, 5);
        for (int file = 0; file < 3; file++) {
            x.put(0, 5 + file, file);
        }
        x.load(0, 6);
        due.is("9 a ring of needs", x.begin(0), 1);
        due.order("18", x, 1, 3, 2);
        due.is("16 no one is left in between", x.about(1, 3), 1);
    }

    private static void aNeedOfItself() {
        ModuleLoaders x = new ModuleLoaders();
        Due.library(x);
        Due.withNeed(x, 5, 1, 5);
        x.define(0, 5, 0);
        due.is("9 needs itself", x.begin(0), 1);
        due.order("18", x, 1);
        x.anew(0, 5, 0);
        x.anew(0, 5, 0);
        due.is("9 the middle one needs the latest", x.begin(1), 1);
        due.order("18 both", x, 1, 1, 1);
        due.is("16 the latest", x.about(2, 3), 1);
    }

    private static void failsByItself() {
        ModuleLoaders x = new ModuleLoaders();
        Due.library(x);
        x.file(5, 1, Due.NONE, 6, 2);
        Due.plain(x, 6, 2);
        x.put(0, 6, 1);
        x.define(0, 5, 0);
        due.is("9 fails", x.begin(0), Due.FAILED);
        due.is("16 it failed", x.about(0, 3), 2);
        due.is("9 gone", x.begin(0), Due.GONE);
        due.is("9 gone again", x.begin(0), Due.GONE);
        due.is("10 gone for things", x.thing(0), Due.GONE);
        due.order("18 the need began", x, 2);
        due.is("5 it is still given", x.load(0, 5), 0);
        due.is("7 a new one fails by itself", x.begin(x.anew(0, 5, 0)), Due.FAILED);
    }

    private static void failsByParent() {
        ModuleLoaders x = new ModuleLoaders();
        Due.library(x);
        x.file(5, 1, Due.NONE, Due.NONE, 2);
        x.file(6, 2, 5, 9, 0);
        Due.withParent(x, 7, 3, 6);
        Due.withParent(x, 8, 4, 6);
        Due.plain(x, 9, 5);
        for (int file = 0; file < 5; file++) {
            x.put(0, 5 + file, file);
        }
        x.load(0, 7);
        x.load(0, 8);
        due.is("9 by what its parent's parent fails", x.begin(2), Due.FAILED);
        for (int module = 0; module < 3; module++) {
            due.is("16 all failed", x.about(module, 3), 2);
        }
        due.is("16 the other did not begin", x.about(3, 3), 0);
        due.is("19 the need was not asked for", x.count(2), 4);
        due.is("9 the other, by a parent that is gone", x.begin(3), Due.GONE);
        due.is("16 the other failed", x.about(3, 3), 2);
        due.order("18", x);
    }

    private static void failsByNeed() {
        ModuleLoaders x = new ModuleLoaders();
        Due.library(x);
        Due.plain(x, 4, 10);
        x.file(5, 1, 4, 6, 0);
        Due.withNeed(x, 7, 2, 5);
        Due.withNeed(x, 8, 3, 5);
        x.put(0, 4, 0);
        x.put(0, 5, 1);
        x.define(0, 7, 2);
        x.define(0, 8, 3);
        due.is("9 none found of the need's need", x.begin(0), Due.NONE_FOUND);
        due.is("16 it failed", x.about(0, 3), 2);
        due.is("16 the need failed", x.about(x.known(0, 5), 3), 2);
        due.is("16 the need's parent began", x.about(x.known(0, 4), 3), 1);
        Due.plain(x, 6, 4);
        x.put(0, 6, 4);
        due.is("9 a file that comes later mends nothing", x.begin(0), Due.GONE);
        due.is("9 by a need that is gone", x.begin(1), Due.GONE);
        due.order("18", x, 10);
        x.file(9, 5, Due.NONE, 10, 0);
        x.file(10, 6, Due.NONE, Due.NONE, 1);
        x.put(0, 10, 6);
        due.is("9 a broken need", x.begin(x.define(0, 9, 5)), Due.BROKEN);
        due.is("10 a thing fails by it, too", x.thing(x.anew(0, 9, 5)), Due.BROKEN);
        due.is("19 no thing", x.count(3), 0);
    }

    private static void failsInARing() {
        ModuleLoaders x = new ModuleLoaders();
        Due.library(x);
        x.file(5, 1, Due.NONE, 6, 2);
        Due.withNeed(x, 6, 2, 5);
        x.put(0, 5, 0);
        x.put(0, 6, 1);
        x.load(0, 5);
        due.is("9 fails", x.begin(0), Due.FAILED);
        due.is("16 failed", x.about(0, 3), 2);
        due.is("16 what counted it as begun began", x.about(1, 3), 1);
        due.is("9 and stays so", x.begin(1), 1);
        due.order("18", x, 2);
    }

    private static void theLoaderThatMadeItIsAsked() {
        ModuleLoaders x = new ModuleLoaders();
        Due.library(x);
        x.loader(0, true);
        Due.withNeed(x, 5, 1, 6);
        Due.plain(x, 6, 2);
        Due.plain(x, 6, 3);
        x.put(0, 5, 0);
        x.put(0, 6, 1);
        x.put(1, 6, 2);
        due.is("5 given", x.load(1, 5), 0);
        due.is("9 begin", x.begin(0), 1);
        due.order("18 the library's", x, 2, 1);
        due.is("8 the program was not asked", x.known(1, 6), Due.NONE);
        due.is("6 the program makes one", x.define(1, 5, 0), 2);
        due.is("9 begin", x.begin(2), 1);
        due.order("18 then its own", x, 2, 1, 3, 1);
    }

    /** Each MADE ANEW has the one before as its PARENT: they begin from the first on. */
    private static void theDeepestRowOfParents() {
        ModuleLoaders x = new ModuleLoaders();
        Due.library(x);
        Due.withParent(x, 5, 1, 6);
        Due.withParent(x, 6, 2, 5);
        Due.plain(x, 5, 3);
        x.define(0, 5, 2);
        x.define(0, 6, 1);
        int last = 1;
        for (int i = 0; i < 480; i++) {
            last = x.anew(0, i % 2 == 0 ? 5 : 6, i % 2);
        }
        due.is("7 the last", last, 481);
        due.is("10 a thing of it", x.thing(last), 0);
        due.is("19 all began", x.count(4), 482);
        due.is("18 the first", x.order(0), 3);
        due.is("18 the second", x.order(1), 2);
        due.is("18 the last", x.order(481), 2);
        due.is("11 to the first", x.cast(0, 0), 1);
        due.is("14 all are held", x.held(0), 482);
        x.letGo(0);
        due.is("14 by the thing", x.held(0), 482);
        x.drop(0);
        due.is("14 none is", x.held(0), 0);
    }

    private static void wrongBegins() {
        ModuleLoaders x = new ModuleLoaders();
        Due.library(x);
        Due.plain(x, 5, 1);
        Due.plain(x, 6, 2);
        x.define(0, 5, 0);
        x.define(0, 6, 1);
        x.begin(0);
        int[] wrong = {Due.LEAST, -1, 2, Due.MOST};
        for (int module : wrong) {
            due.is("9 module " + module, x.begin(module), Due.BAD);
            due.is("10 module " + module, x.thing(module), Due.BAD);
        }
        x.letGo(0);
        due.is("9 let go", x.begin(1), Due.NO);
        due.is("9 let go, though it began", x.begin(0), Due.NO);
        due.is("10 let go", x.thing(0), Due.NO);
        due.is("16 it did not begin", x.about(1, 3), 0);
        due.order("18", x, 1);
    }

    private static void thingsBeginTheirModule() {
        ModuleLoaders x = new ModuleLoaders();
        Due.library(x);
        Due.plain(x, 5, 1);
        Due.withParent(x, 6, 2, 5);
        x.file(7, 3, Due.NONE, Due.NONE, 2);
        x.put(0, 5, 0);
        x.define(0, 6, 1);
        x.define(0, 7, 2);
        due.is("10 fails", x.thing(2), Due.FAILED);
        due.is("10 gone", x.thing(2), Due.GONE);
        due.is("10 a thing", x.thing(1), 0);
        due.order("18", x, 1, 2);
        due.is("10 another", x.thing(1), 1);
        due.is("10 of the parent", x.thing(0), 2);
        due.order("18 as before", x, 1, 2);
        due.is("17 its module", x.aboutThing(2, 0), 0);
    }

    private static void thingFull() {
        ModuleLoaders x = new ModuleLoaders();
        Due.library(x);
        Due.plain(x, 5, 1);
        Due.plain(x, 6, 2);
        x.file(7, 3, Due.NONE, Due.NONE, 2);
        x.define(0, 5, 0);
        x.define(0, 6, 1);
        x.define(0, 7, 2);
        for (int i = 0; i < 60; i++) {
            due.is("10 thing " + i, x.thing(0), i);
        }
        due.is("10 the 61st", x.thing(1), Due.FULL);
        due.is("10 FULL begins nothing", x.about(1, 3), 0);
        due.is("10 FULL is ahead of what fails", x.thing(2), Due.FULL);
        due.is("10 it did not fail", x.about(2, 3), 0);
        due.is("10 BAD is ahead of FULL", x.thing(3), Due.BAD);
        x.drop(0);
        due.is("10 what is dropped makes no room", x.thing(0), Due.FULL);
        x.letGo(0);
        due.is("10 NO is ahead of FULL", x.thing(0), Due.NO);
        due.is("19 60", x.count(3), 60);
    }

    private static void wrongOrders() {
        ModuleLoaders x = new ModuleLoaders();
        Due.library(x);
        Due.plain(x, 5, Due.LEAST);
        x.begin(x.define(0, 5, 0));
        due.is("18 the first", x.order(0), Due.LEAST);
        int[] wrong = {Due.LEAST, -1, 1, 1000, Due.MOST};
        for (int i : wrong) {
            due.is("18 order " + i, x.order(i), 0);
        }
    }

    /** What calls after the 512th answer is free, but they must end and not throw. */
    private static void manyCalls() {
        ModuleLoaders x = new ModuleLoaders();
        Due.library(x);
        Due.withNeed(x, 5, 1, 5);
        x.define(0, 5, 0);
        for (int i = 0; i < 3000; i++) {
            x.begin(x.anew(0, 5, 0));
            x.thing(i);
            x.held(0);
            x.order(i);
        }
        due.is("19 it goes on", x.count(1), 1);
    }
}
