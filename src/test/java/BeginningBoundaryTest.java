/** The boundaries that promises 9, 10 and 18 name, and the 512 calls: begin, thing, order. */
public final class BeginningBoundaryTest {
    private static final Due due = new Due();
    private static final Twins twins = new Twins(due);
    private static final String ROOM = Room.ALL;
    private static final String LIBRARY = "loader NONE 0;";
    private static final String BOTH = "loader NONE 0; loader 0 0;";
    private static final String SIXTY_THINGS = Script.times(60, "thing 0");

    public static void main(String[] args) {
        beginModule();
        beginFirstAndLast();
        beginAlsoIfItDid();
        beginLetGo();
        beginNoIsAheadOfFailures();
        beginItsLoaderIsTheOneThatMadeIt();
        beginFails();
        beginGone();
        beginFailsByItsParent();
        beginFailsByItsNeed();
        beginFailsByWhatWasGiven();
        beginParentIsAheadOfNeedAndItself();
        beginNeedIsAheadOfItself();
        beginWhatStoodStays();
        beginWhatBeganStays();
        beginJustBeginningCounts();
        beginJustBeginningThatFails();
        beginNoneLeftInBetween();
        thingModule();
        thingNumbers();
        thingBeginsAhead();
        thingLetGo();
        thingFails();
        thingFull();
        thingFullBeginsNothing();
        thingRefusalsAheadOfFull();
        orderOutside();
        orderFirstAndLast();
        orderContentThatIsZero();
        the512thCallMakes();
        the512thCallBegins();
        the512thCallOfAllLoaders();
        due.end();
    }

    // Promise 9: "1 (also if it did). BAD; NO: its loader is LET GO; FAILURES."

    private static void beginModule() {
        twins.outside("9 no such MODULE", ROOM, "begin ?", 0, Room.LAST_MODULE, Due.BAD);
        twins.unchanged("9 none is there", LIBRARY, "begin 0", Due.BAD);
    }

    private static void beginFirstAndLast() {
        twins.then("9 the last", ROOM, "begin 7", 1, "about 7 3 = 1; count 4 = 6; order 5 = 55");
        twins.then("9 the first", LIBRARY + "file 5 1 NONE NONE 0; define 0 5 0;", "begin 0", 1,
                "about 0 3 = 1; count 4 = 1; order 0 = 1");
    }

    private static void beginAlsoIfItDid() {
        for (int module : new int[] {0, 1, 2, 4}) {
            twins.unchanged("9 also if it did", ROOM, "begin " + module, 1);
        }
        twins.unchanged("9 again", ROOM + "begin 3; begin 3;", "begin 3", 1);
    }

    private static void beginLetGo() {
        twins.unchanged("9 LET GO, though it did", ROOM, "begin 5", Due.NO);
        twins.unchanged("9 LET GO, it did not", ROOM + "letGo 2;", "begin 3", Due.NO);
        twins.unchanged("9 LET GO, a LIBRARY", LIBRARY + "file 5 1 NONE NONE 0; define 0 5 0; letGo 0;", "begin 0", Due.NO);
    }

    private static void beginNoIsAheadOfFailures() {
        twins.unchanged("9 NO is ahead of GONE", ROOM + "letGo 1;", "begin 6", Due.NO);
        String fails = LIBRARY + "file 5 1 NONE NONE 2; file 6 1 NONE 9 0; define 0 5 0; define 0 6 1; letGo 0;";
        twins.unchanged("9 NO is ahead of FAILED", fails, "begin 0", Due.NO);
        twins.unchanged("9 NO is ahead of NONE FOUND", fails, "begin 1", Due.NO);
    }

    private static void beginItsLoaderIsTheOneThatMadeIt() {
        twins.then("9 the PROGRAM to which it was given is LET GO",
                BOTH + "file 5 1 NONE NONE 0; put 0 5 0; load 1 5; letGo 1;", "begin 0", 1, "about 0 3 = 1; order 0 = 1");
        twins.unchanged("9 BAD is ahead of NO", LIBRARY + "file 5 1 NONE NONE 0; define 0 5 0; letGo 0;", "begin 1", Due.BAD);
    }

    private static void beginFails() {
        twins.then("9 7 FAILED", LIBRARY + "file 5 1 NONE NONE 2; define 0 5 0;", "begin 0", Due.FAILED,
                "about 0 3 = 2; count 4 = 0; order 0 = 0; count 2 = 1; load 0 5 = 0; isHeld 0 = 1; begin 0 = -18");
    }

    private static void beginGone() {
        twins.unchanged("9 8 GONE", ROOM, "begin 6", Due.GONE);
        twins.unchanged("9 8 GONE from then on", ROOM + "begin 6; begin 6;", "begin 6", Due.GONE);
        twins.unchanged("9 8 GONE, by whatever it was: a NEED that comes later",
                LIBRARY + "file 5 1 NONE 6 0; file 6 1 NONE NONE 0; define 0 5 0; begin 0; put 0 6 1;", "begin 0", Due.GONE);
        twins.unchanged("9 8 GONE, though one is MADE ANEW that did",
                LIBRARY + "file 5 1 NONE NONE 2; file 5 2 NONE NONE 0; define 0 5 0; begin 0; anew 0 5 1; begin 1;",
                "begin 0", Due.GONE);
    }

    private static void beginFailsByItsParent() {
        String child = LIBRARY + "file 5 1 NONE NONE 2; file 6 2 5 NONE 0; file 7 3 6 NONE 0; define 0 5 0; define 0 6 1;"
            + "define 0 7 2;";
        twins.then("9 by what its PARENT FAILS by", child, "begin 1", Due.FAILED,
                "about 0 3 = 2; about 1 3 = 2; about 2 3 = 0; begin 1 = -18; count 4 = 0");
        twins.then("9 .. and on", child, "begin 2", Due.FAILED,
                "about 0 3 = 2; about 1 3 = 2; about 2 3 = 2; begin 2 = -18; begin 0 = -18; count 4 = 0");
        twins.then("9 a PARENT that is GONE", child + "begin 0;", "begin 1", Due.GONE, "about 1 3 = 2; about 2 3 = 0");
    }

    private static void beginFailsByItsNeed() {
        String one = BOTH + "file 5 1 NONE 6 0; define 1 5 0;";
        String after = "about 0 3 = 2; begin 0 = -18; count 4 = 0; count 2 = 1; known 1 6 = -1";
        twins.then("9 NONE FOUND", one, "begin 0", Due.NONE_FOUND, after);
        twins.then("9 UNLIKE", one + "put 1 6 0;", "begin 0", Due.UNLIKE, after);
        twins.then("9 RING", one + "file 6 1 6 NONE 0; put 1 6 1;", "begin 0", Due.RING, after);
        twins.then("9 BROKEN", one + "file 6 1 NONE NONE 1; put 1 6 1;", "begin 0", Due.BROKEN, after);
        twins.then("9 BROKEN in the LIBRARY", one + "file 6 1 NONE NONE 1; put 0 6 1;", "begin 0", Due.BROKEN, after);
        twins.then("9 BARRED", BOTH + "file 5 1 NONE 3 0; file 3 2 NONE NONE 0; define 1 5 0; put 1 3 1;", "begin 0",
                Due.BARRED, after);
        twins.then("9 4 is not BARRED", BOTH + "file 5 1 NONE 4 0; file 4 2 NONE NONE 0; define 1 5 0; put 1 4 1;",
                "begin 0", 1, "order 0 = 2; order 1 = 1");
    }

    private static void beginFailsByWhatWasGiven() {
        String need = LIBRARY + "file 5 1 NONE 6 0; file 6 2 NONE NONE 2; put 0 6 1; define 0 5 0;";
        twins.then("9 FAILED", need, "begin 0", Due.FAILED, "about 0 3 = 2; about 1 3 = 2; begin 1 = -18; begin 0 = -18");
        twins.then("9 GONE", need + "load 0 6; begin 1;", "begin 0", Due.GONE, "about 0 3 = 2; about 1 3 = 2");
        twins.then("9 GONE, of the LIBRARY",
                BOTH + "file 5 1 NONE 6 0; file 6 2 NONE NONE 2; put 0 6 1; define 1 5 0; load 0 6; begin 1;", "begin 0",
                Due.GONE, "about 0 3 = 2; about 1 3 = 2; known 1 6 = 1; count 2 = 2");
    }

    private static void beginParentIsAheadOfNeedAndItself() {
        String both = LIBRARY + "file 5 1 NONE NONE 2; file 6 2 5 7 2; file 7 3 NONE NONE 0; put 0 5 0; put 0 7 2;"
            + "define 0 6 1;";
        twins.then("9 the PARENT FAILED: the NEED is not ASKED for", both, "begin 1", Due.FAILED,
                "count 2 = 2; known 0 7 = -1; count 4 = 0");
        twins.then("9 the PARENT is GONE: ahead of NONE FOUND of the NEED",
                LIBRARY + "file 5 1 NONE NONE 2; file 6 2 5 7 0; put 0 5 0; define 0 6 1; begin 0;", "begin 1", Due.GONE,
                "about 1 3 = 2");
    }

    private static void beginNeedIsAheadOfItself() {
        twins.then("9 NONE FOUND of the NEED is ahead of FAILED", LIBRARY + "file 5 1 NONE 6 2; define 0 5 0;", "begin 0",
                Due.NONE_FOUND, "begin 0 = -18");
    }

    private static void beginWhatStoodStays() {
        String need = LIBRARY + "file 5 1 NONE 6 2; file 6 2 7 NONE 0; file 7 3 NONE NONE 0; put 0 6 1; put 0 7 2;"
            + "define 0 5 0;";
        twins.then("9 those that stood before it FAILED stay", need, "begin 0", Due.FAILED,
                "count 2 = 3; known 0 7 = 1; known 0 6 = 2; about 2 2 = 1; load 0 6 = 2");
        twins.then("9 what was given before it FAILED stays given", BOTH + "file 5 1 NONE 6 2; file 6 2 NONE NONE 0; put 0 6 1;"
                + "define 1 5 0;", "begin 0", Due.FAILED, "count 2 = 2; known 1 6 = 1; about 1 0 = 0; anew 0 6 1 = 2; load 1 6 = 1");
    }

    private static void beginWhatBeganStays() {
        String all = LIBRARY + "file 5 1 6 7 2; file 6 2 NONE NONE 0; file 7 3 NONE NONE 0; put 0 6 1; put 0 7 2;"
            + "define 0 5 0;";
        twins.then("9 PARENT and NEED began before it FAILED", all, "begin 1", Due.FAILED,
                "about 0 3 = 1; about 1 3 = 2; about 2 3 = 1; count 4 = 2; order 0 = 2; order 1 = 3; order 2 = 0; begin 0 = 1;"
                + "begin 2 = 1; count 4 = 2");
    }

    private static void beginJustBeginningCounts() {
        twins.then("9 its own NEED", LIBRARY + "file 5 1 NONE 5 0; define 0 5 0;", "begin 0", 1, "count 4 = 1; order 0 = 1");
        twins.then("9 its NEED has it as NEED",
                LIBRARY + "file 5 1 NONE 6 0; file 6 2 NONE 5 0; put 0 6 1; define 0 5 0;", "begin 0", 1,
                "count 4 = 2; order 0 = 2; order 1 = 1");
        twins.then("9 its NEED has it as PARENT",
                LIBRARY + "file 5 1 NONE 6 0; file 6 2 5 NONE 0; put 0 6 1; define 0 5 0;", "begin 0", 1,
                "count 4 = 2; order 0 = 2; order 1 = 1; about 1 2 = 0");
        twins.then("9 its PARENT has it as NEED",
                LIBRARY + "file 5 1 NONE 6 0; file 6 2 5 NONE 0; put 0 5 0; define 0 6 1;", "begin 1", 1,
                "count 4 = 2; order 0 = 1; order 1 = 2");
    }

    private static void beginJustBeginningThatFails() {
        twins.then("9 one that counted it as begun goes on so",
                LIBRARY + "file 5 1 NONE 6 2; file 6 2 NONE 5 0; put 0 6 1; define 0 5 0;", "begin 0", Due.FAILED,
                "about 0 3 = 2; about 1 3 = 1; count 4 = 1; order 0 = 2; begin 1 = 1; begin 0 = -18; anew 0 6 1 = 2;"
                + "begin 2 = -18");
        twins.then("9 one that FAILED in between: all that wait FAIL by the same",
                LIBRARY + "file 5 1 NONE 6 0; file 6 2 NONE 7 0; file 7 3 5 NONE 2; put 0 6 1; put 0 7 2; define 0 5 0;",
                "begin 0", Due.FAILED, "about 0 3 = 2; about 1 3 = 2; about 2 3 = 2; count 4 = 0; count 2 = 3");
    }

    private static void beginNoneLeftInBetween() {
        twins.then("9 after a FAILURE others BEGIN as ever",
                LIBRARY + "file 5 1 NONE 6 0; file 7 2 NONE NONE 0; define 0 5 0; define 0 7 1;", "begin 0", Due.NONE_FOUND,
                "begin 1 = 1; about 0 3 = 2; about 1 3 = 1; count 4 = 1; order 0 = 2");
    }

    // Promise 10: "BAD; NO: the loader of its MODULE is LET GO; FULL: above 60; FAILURES."

    private static void thingModule() {
        twins.outside("10 no such MODULE", ROOM, "thing ?", 0, Room.LAST_MODULE, Due.BAD);
        twins.unchanged("10 none is there", LIBRARY, "thing 0", Due.BAD);
    }

    private static void thingNumbers() {
        twins.then("10 of the first", ROOM, "thing 0", 3, "aboutThing 3 0 = 0; aboutThing 3 1 = 0; count 3 = 4");
        twins.then("10 of the last", ROOM, "thing 7", 3, "aboutThing 3 0 = 7; aboutThing 3 1 = 0; count 3 = 4");
        twins.then("10 a DROPPED one's number is not given again", ROOM + "drop 2;", "thing 0", 3, "aboutThing 2 1 = 1");
        twins.then("10 what is refused takes no number", ROOM, "thing 8", Due.BAD, "thing 5 = -3; thing 6 = -18; thing 0 = 3");
    }

    private static void thingBeginsAhead() {
        twins.then("10 it BEGINS ahead", ROOM, "thing 3", 3, "about 3 3 = 1; count 4 = 6; order 5 = 55");
        twins.then("10 .. once", ROOM + "thing 3;", "thing 3", 4, "count 4 = 6");
    }

    private static void thingLetGo() {
        twins.unchanged("10 LET GO", ROOM, "thing 5", Due.NO);
        twins.unchanged("10 LET GO, did not BEGIN", ROOM + "letGo 2;", "thing 3", Due.NO);
        twins.unchanged("10 NO is ahead of GONE", ROOM + "letGo 1;", "thing 6", Due.NO);
        twins.unchanged("10 BAD is ahead of NO", LIBRARY + "file 5 1 NONE NONE 0; define 0 5 0; letGo 0;", "thing 1", Due.BAD);
        twins.answers("10 the PROGRAM to which it was given is LET GO", ROOM, "thing 4", 3);
    }

    private static void thingFails() {
        twins.unchanged("10 GONE", ROOM, "thing 6", Due.GONE);
        twins.then("10 FAILED", LIBRARY + "file 5 1 NONE NONE 2; define 0 5 0;", "thing 0", Due.FAILED,
                "count 3 = 0; about 0 3 = 2; thing 0 = -18; count 3 = 0; aboutThing 0 0 = -2");
        twins.then("10 NONE FOUND of the NEED", LIBRARY + "file 5 1 NONE 6 0; define 0 5 0;", "thing 0", Due.NONE_FOUND,
                "count 3 = 0; about 0 3 = 2; thing 0 = -18");
    }

    private static void thingFull() {
        String one = LIBRARY + "file 5 1 NONE NONE 0; define 0 5 0;";
        twins.then("10 the 60th", one + Script.times(59, "thing 0"), "thing 0", 59,
                "count 3 = 60; aboutThing 59 0 = 0; aboutThing 59 1 = 0; cast 59 0 = 1; drop 59 = 1; aboutThing 59 1 = 1;"
                + "aboutThing 58 1 = 0; cast 60 0 = -2");
        twins.unchanged("10 FULL", one + SIXTY_THINGS, "thing 0", Due.FULL);
        twins.then("10 FULL stays, though all are DROPPED", one + SIXTY_THINGS, "thing 0", Due.FULL,
                "drop 59 = 1; drop 0 = 1; thing 0 = -4; count 3 = 60; aboutThing 60 0 = -2");
    }

    private static void thingFullBeginsNothing() {
        String more = LIBRARY + "file 5 1 NONE NONE 0; file 6 2 NONE 7 0; file 7 3 NONE NONE 2; put 0 7 2; define 0 5 0;"
            + "define 0 6 1;" + SIXTY_THINGS;
        twins.unchanged("10 FULL is ahead of FAILURES, and begins nothing", more, "thing 1", Due.FULL);
        twins.then("10 it begins as ever", more, "thing 1", Due.FULL, "about 1 3 = 0; count 2 = 2; count 4 = 1; begin 1 = -17");
        twins.unchanged("10 FULL is ahead of GONE", LIBRARY + "file 5 1 NONE NONE 0; file 6 2 NONE NONE 2; define 0 5 0;"
                + "define 0 6 1; begin 1;" + SIXTY_THINGS, "thing 1", Due.FULL);
    }

    private static void thingRefusalsAheadOfFull() {
        String one = LIBRARY + "file 5 1 NONE NONE 0; define 0 5 0;" + SIXTY_THINGS;
        twins.outside("10 BAD is ahead of FULL", one, "thing ?", 0, 0, Due.BAD);
        twins.unchanged("10 NO is ahead of FULL", one + "letGo 0;", "thing 0", Due.NO);
    }

    // Promise 18: "0: not so many."

    private static void orderOutside() {
        twins.outside("18 not so many", ROOM, "order ?", 0, 4, 0);
        twins.unchanged("18 none at all", LIBRARY, "order 0", 0);
        twins.outside("18 none at all", LIBRARY, "order ?", 0, 0, 0);
    }

    private static void orderFirstAndLast() {
        int[] contents = {50, 60, 70, 50, 60};
        for (int i = 0; i < contents.length; i++) {
            twins.unchanged("18 order", ROOM, "order " + i, contents[i]);
        }
    }

    private static void orderContentThatIsZero() {
        String two = LIBRARY + "file 5 0 NONE NONE 0; file 6 LEAST 5 NONE 0; file 7 MOST 6 NONE 0; define 0 5 0;"
            + "define 0 6 1; define 0 7 2;";
        twins.then("18 a CONTENT of 0 counts", two, "begin 2", 1,
                "count 4 = 3; order 0 = 0; order 1 = " + Due.LEAST + "; order 2 = " + Due.MOST + "; order 3 = 0; order -1 = 0");
    }

    // "An object is used for at most 512 calls after it has been made."

    private static void the512thCallMakes() {
        String calls = LIBRARY + "file 5 1 NONE NONE 0; define 0 5 0;" + Script.times(508, "anew 0 5 0");
        due.is("calls before the last", Script.calls(calls).length, 511);
        ModuleLoaders x = new ModuleLoaders();
        due.is("the 511th call", Script.run(x, calls), 508);
        due.is("the 512th call", x.anew(0, 5, 0), 509);
        for (int i = 0; i < 100; i++) {
            x.anew(0, 5, 0);
            x.begin(i * 10);
        }
        due.is("what comes later is free, but it answers", x.count(1), 1);
    }

    private static void the512thCallBegins() {
        String calls = LIBRARY + "file 5 1 6 NONE 0; file 6 2 5 NONE 0; file 5 3 NONE NONE 0; define 0 5 2; define 0 6 1;"
            + Script.times(252, "anew 0 5 0; anew 0 6 1");
        ModuleLoaders x = new ModuleLoaders();
        due.is("the 510th call", Script.run(x, calls), 505);
        due.is("calls before", Script.calls(calls).length, 510);
        due.is("the 511th call", x.begin(505), 1);
        due.is("the 512th call", x.count(4), 506);
    }

    private static void the512thCallOfAllLoaders() {
        StringBuilder calls = new StringBuilder(Script.times(10, "loader NONE 0"));
        for (int name = 0; name < 31; name++) {
            calls.append("file " + name + " " + name + " " + (name - 1) + " " + (name - 1) + " 0;");
            for (int loader = 0; loader < 10; loader++) {
                calls.append("put " + loader + " " + name + " " + name + ";");
            }
        }
        ModuleLoaders x = new ModuleLoaders();
        Script.run(x, calls.toString());
        for (int loader = 0; loader < 10; loader++) {
            due.is("all names of loader " + loader, x.load(loader, 30), 31 * loader + 30);
        }
        for (int loader = 9; loader >= 0; loader--) {
            due.is("a thing of loader " + loader, x.thing(31 * loader + 30), 9 - loader);
        }
        int used = Script.calls(calls.toString()).length + 20;
        for (int call = used; call < 512 - 2; call++) {
            due.is("order " + (call - used), x.order(call - used), (call - used) % 31);
        }
        due.is("the 511th call", x.count(4), 310);
        due.is("the 512th call", x.held(9), 31);
    }
}
