/** The boundaries that promises 11 to 15 and 17 name: cast, drop, letGo, held, isHeld, aboutThing. */
public final class HoldingBoundaryTest {
    private static final Due due = new Due();
    private static final Twins twins = new Twins(due);
    private static final String ROOM = Room.ALL;
    private static final String LIBRARY = "loader NONE 0;";
    private static final String BOTH = "loader NONE 0; loader 0 0;";
    /** MODULES 0 .. 2, each the PARENT of the next, and a THING of each. */
    private static final String THREE = LIBRARY + "file 5 1 NONE NONE 0; file 6 2 5 NONE 0; file 7 3 6 NONE 0; put 0 5 0;"
        + "put 0 6 1; put 0 7 2; load 0 7; thing 0; thing 1; thing 2;";

    public static void main(String[] args) {
        castThing();
        castModule();
        castDropped();
        castBadAheadOfNo();
        castUp();
        castFails();
        castLetGo();
        dropThing();
        dropFirstAndLast();
        dropDropped();
        letGoLoader();
        letGoFirstAndLast();
        letGoAgain();
        letGoWithProgramsBelow();
        letGoOfWhatIsHeld();
        letGoMakesAllNo();
        heldLoader();
        heldOfEach();
        heldCountsWhatItMade();
        isHeldModule();
        isHeldByThings();
        isHeldByTheLoaderThatGivesIt();
        isHeldByTheLoaderThatHasItAsGiven();
        isHeldAsParent();
        isHeldIsNot();
        aboutThingThing();
        aboutThingWhat();
        aboutThingEach();
        due.end();
    }

    // Promise 11: "1. BAD; NO: the THING is DROPPED; FAILURES."

    private static void castThing() {
        twins.outside("11 no such THING", ROOM, "cast ? 0", 0, Room.LAST_THING, Due.BAD);
        twins.unchanged("11 no THING is there", LIBRARY + "file 5 1 NONE NONE 0; define 0 5 0;", "cast 0 0", Due.BAD);
    }

    private static void castModule() {
        twins.outside("11 no such MODULE", ROOM, "cast 0 ?", 0, Room.LAST_MODULE, Due.BAD);
        twins.outside("11 no such MODULE, of the last THING", ROOM, "cast 2 ?", 0, Room.LAST_MODULE, Due.BAD);
    }

    private static void castDropped() {
        twins.unchanged("11 DROPPED", ROOM, "cast 1 0", Due.NO);
        twins.unchanged("11 NO is ahead of 9", ROOM, "cast 1 2", Due.NO);
    }

    private static void castBadAheadOfNo() {
        twins.outside("11 BAD is ahead of NO", ROOM, "cast 1 ?", 0, Room.LAST_MODULE, Due.BAD);
    }

    private static void castUp() {
        twins.unchanged("11 the THING's", THREE, "cast 2 2", 1);
        twins.unchanged("11 its PARENT", THREE, "cast 2 1", 1);
        twins.unchanged("11 that one's", THREE, "cast 2 0", 1);
        twins.unchanged("11 the first of all", THREE, "cast 0 0", 1);
        String names = LIBRARY + "file 0 0 NONE NONE 0; put 0 0 0;";
        for (int name = 1; name < 31; name++) {
            names += "file " + name + " 0 " + (name - 1) + " NONE 0; put 0 " + name + " " + name + ";";
        }
        twins.answers("11 and on", names + "load 0 30; thing 30;", "cast 0 0", 1);
        twins.answers("11 .. not below", names + "load 0 30; thing 29;", "cast 0 30", Due.NO_CAST);
    }

    private static void castFails() {
        twins.unchanged("11 9, its child", THREE, "cast 0 1", Due.NO_CAST);
        twins.unchanged("11 9, its child's child", THREE, "cast 0 2", Due.NO_CAST);
        twins.unchanged("11 9, its NEED", ROOM, "cast 0 1", Due.NO_CAST);
        twins.unchanged("11 9, one of the same FILE", ROOM, "cast 2 1", Due.NO_CAST);
        twins.unchanged("11 9, its PARENT's of another loader", ROOM, "cast 2 0", Due.NO_CAST);
        twins.unchanged("11 9, its PARENT MADE ANEW", THREE + "anew 0 6 1;", "cast 2 3", Due.NO_CAST);
        twins.unchanged("11 9, one with the same PARENT", THREE + "file 8 1 5 NONE 0; define 0 8 3;", "cast 1 3", Due.NO_CAST);
    }

    private static void castLetGo() {
        twins.unchanged("11 LET GO is of no matter", ROOM, "cast 2 5", 1);
        twins.unchanged("11 .. nor for its PARENT", THREE + "letGo 0;", "cast 2 0", 1);
        twins.unchanged("11 .. nor for 9", THREE + "letGo 0;", "cast 0 2", Due.NO_CAST);
    }

    // Promise 12: "1. BAD; NO: it is."

    private static void dropThing() {
        twins.outside("12 no such THING", ROOM, "drop ?", 0, Room.LAST_THING, Due.BAD);
        twins.unchanged("12 none is there", LIBRARY, "drop 0", Due.BAD);
    }

    private static void dropFirstAndLast() {
        twins.then("12 the first", THREE, "drop 0", 1, "aboutThing 0 1 = 1; aboutThing 1 1 = 0; aboutThing 2 1 = 0; count 3 = 3");
        twins.then("12 the last", THREE, "drop 2", 1, "aboutThing 0 1 = 0; aboutThing 1 1 = 0; aboutThing 2 1 = 1; count 3 = 3");
        twins.then("12 LET GO is of no matter", ROOM, "drop 2", 1, "aboutThing 2 1 = 1; isHeld 5 = 0");
    }

    private static void dropDropped() {
        twins.unchanged("12 it is DROPPED", ROOM, "drop 1", Due.NO);
        twins.unchanged("12 it is DROPPED, LET GO", ROOM + "drop 2;", "drop 2", Due.NO);
    }

    // Promise 13: "1. BAD; NO: it is, or a PROGRAM below it is not."

    private static void letGoLoader() {
        twins.outside("13 no such loader", ROOM, "letGo ?", 0, Room.LAST_LOADER, Due.BAD);
        twins.unchanged("13 none is there", "", "letGo 0", Due.BAD);
    }

    private static void letGoFirstAndLast() {
        String ten = Script.times(10, "loader NONE 0");
        twins.then("13 the first", ten, "letGo 0", 1, "load 0 5 = -3; load 1 5 = -11; load 9 5 = -11");
        twins.then("13 the last", ten, "letGo 9", 1, "load 9 5 = -3; load 8 5 = -11; load 0 5 = -11");
    }

    private static void letGoAgain() {
        twins.unchanged("13 a PROGRAM that is", ROOM, "letGo 4", Due.NO);
        twins.unchanged("13 a LIBRARY that is", ROOM, "letGo 5", Due.NO);
        twins.unchanged("13 a LIBRARY that is, with its PROGRAM", ROOM + "letGo 3;", "letGo 3", Due.NO);
    }

    private static void letGoWithProgramsBelow() {
        twins.unchanged("13 two PROGRAMS below it are not", ROOM, "letGo 0", Due.NO);
        twins.unchanged("13 the last below it is not", ROOM + "letGo 1;", "letGo 0", Due.NO);
        twins.unchanged("13 the first below it is not", ROOM + "letGo 2;", "letGo 0", Due.NO);
        twins.then("13 both are", ROOM + "letGo 1; letGo 2;", "letGo 0", 1, "load 0 5 = -3; load 3 5 = 4");
        twins.then("13 the only one is", ROOM, "letGo 3", 1, "load 3 5 = -3; load 0 5 = 7");
        twins.answers("13 another's PROGRAM is of no matter", "loader NONE 0; loader NONE 0; loader 1 0;", "letGo 0", 1);
        twins.unchanged("13 the 10th is a PROGRAM below it", Script.times(9, "loader NONE 0") + "loader 0 1;", "letGo 0", Due.NO);
    }

    private static void letGoOfWhatIsHeld() {
        twins.then("13 THINGS do not keep it", ROOM, "letGo 1", 1, "isHeld 2 = 1; isHeld 6 = 0; held 1 = 1");
    }

    private static void letGoMakesAllNo() {
        String one = LIBRARY + "file 5 1 NONE NONE 0; put 0 5 0; load 0 5; thing 0;";
        twins.then("13 what is LET GO", one, "letGo 0", 1,
                "put 0 5 0 = -3; load 0 5 = -3; define 0 5 0 = -3; anew 0 5 0 = -3; begin 0 = -3; thing 0 = -3; loader 0 0 = -3;"
                + "letGo 0 = -3; known 0 5 = 0; cast 0 0 = 1; held 0 = 1; isHeld 0 = 1; about 0 0 = 0; aboutThing 0 0 = 0;"
                + "drop 0 = 1; held 0 = 0; isHeld 0 = 0; count 1 = 1");
    }

    // Promise 14: "How many MODULES that a loader MADE are HELD. BAD."

    private static void heldLoader() {
        twins.outside("14 no such loader", ROOM, "held ?", 0, Room.LAST_LOADER, Due.BAD);
        twins.unchanged("14 none is there", "", "held 0", Due.BAD);
    }

    private static void heldOfEach() {
        int[] held = {3, 2, 1, 1, 1, 0};
        for (int loader = 0; loader <= Room.LAST_LOADER; loader++) {
            twins.unchanged("14 held", ROOM, "held " + loader, held[loader]);
        }
    }

    private static void heldCountsWhatItMade() {
        twins.unchanged("14 MADE none", LIBRARY, "held 0", 0);
        twins.then("14 what it was given is the LIBRARY's", BOTH + "file 5 1 NONE NONE 0; put 0 5 0;", "load 1 5", 0,
                "held 0 = 1; held 1 = 0");
        twins.then("14 an old one that nothing holds", LIBRARY + "file 5 1 NONE NONE 0; define 0 5 0;", "anew 0 5 0", 1, "held 0 = 1");
    }

    // Promise 15: "1, 0. BAD."

    private static void isHeldModule() {
        twins.outside("15 no such MODULE", ROOM, "isHeld ?", 0, Room.LAST_MODULE, Due.BAD);
        twins.unchanged("15 none is there", LIBRARY, "isHeld 0", Due.BAD);
        for (int module = 0; module <= Room.LAST_MODULE; module++) {
            twins.unchanged("15 is held", ROOM, "isHeld " + module, 1);
        }
    }

    private static void isHeldByThings() {
        String things = LIBRARY + "file 5 1 NONE NONE 0; define 0 5 0; thing 0; thing 0; letGo 0;";
        twins.unchanged("15 two THINGS", things, "isHeld 0", 1);
        twins.unchanged("15 the first is DROPPED", things + "drop 0;", "isHeld 0", 1);
        twins.unchanged("15 the last is DROPPED", things + "drop 1;", "isHeld 0", 1);
        twins.unchanged("15 both are DROPPED", things + "drop 0; drop 1;", "isHeld 0", 0);
        String sixty = LIBRARY + "file 5 1 NONE NONE 0; file 6 1 NONE NONE 0; define 0 5 0; define 0 6 1;"
            + Script.times(59, "thing 0") + "thing 1; letGo 0;";
        twins.then("15 the 60th THING", sixty, "isHeld 1", 1, "drop 59 = 1; isHeld 1 = 0; isHeld 0 = 1");
    }

    private static void isHeldByTheLoaderThatGivesIt() {
        String two = LIBRARY + "file 5 1 NONE NONE 0; define 0 5 0;";
        twins.unchanged("15 it gives it", two, "isHeld 0", 1);
        twins.unchanged("15 it is LET GO", two + "letGo 0;", "isHeld 0", 0);
        twins.unchanged("15 it gives a later one", two + "anew 0 5 0;", "isHeld 0", 0);
        twins.unchanged("15 .. which is held", two + "anew 0 5 0;", "isHeld 1", 1);
        twins.unchanged("15 .. until it is LET GO", two + "anew 0 5 0; letGo 0;", "isHeld 1", 0);
        twins.unchanged("15 one that FAILED to BEGIN", LIBRARY + "file 5 1 NONE NONE 2; define 0 5 0; begin 0;", "isHeld 0", 1);
        String edges = Script.times(10, "loader NONE 0") + "file 0 1 NONE NONE 0; file 30 2 NONE NONE 0; define 0 0 0;"
            + "define 9 30 1; define 0 30 1; define 9 0 0;";
        for (int module = 0; module < 4; module++) {
            twins.unchanged("15 first and last loaders and names", edges, "isHeld " + module, 1);
            twins.unchanged("15 .. that are LET GO", edges + "letGo 0; letGo 9;", "isHeld " + module, 0);
        }
    }

    private static void isHeldByTheLoaderThatHasItAsGiven() {
        String given = BOTH + "file 5 1 NONE NONE 0; put 0 5 0; load 1 5; anew 0 5 0;";
        twins.unchanged("15 given", given, "isHeld 0", 1);
        twins.unchanged("15 given, and MADE one of that name, too", given + "define 1 5 0;", "isHeld 0", 1);
        twins.unchanged("15 the one with it is LET GO", given + "letGo 1;", "isHeld 0", 0);
        twins.unchanged("15 .. the LIBRARY still gives the new one", given + "letGo 1;", "isHeld 1", 1);
        twins.unchanged("15 never given", BOTH + "file 5 1 NONE NONE 0; put 0 5 0; load 0 5; anew 0 5 0;", "isHeld 0", 0);
        String edges = "loader NONE 0;" + Script.times(9, "loader 0 0") + "file 0 1 NONE NONE 0; file 30 2 NONE NONE 0;"
            + "put 0 0 0; put 0 30 1; load 9 0; load 9 30; anew 0 0 0; anew 0 30 1;";
        for (int module = 0; module < 2; module++) {
            twins.unchanged("15 given the last loader, first and last names", edges, "isHeld " + module, 1);
            twins.unchanged("15 .. that is LET GO", edges + "letGo 9;", "isHeld " + module, 0);
        }
    }

    private static void isHeldAsParent() {
        String things = THREE + "letGo 0; drop 0; drop 1;";
        for (int module = 0; module < 3; module++) {
            twins.unchanged("15 as PARENT, and on", things, "isHeld " + module, 1);
            twins.unchanged("15 none is", things + "drop 2;", "isHeld " + module, 0);
        }
        String middle = THREE + "letGo 0; drop 0; drop 2;";
        twins.unchanged("15 its PARENT is", middle, "isHeld 0", 1);
        twins.unchanged("15 it is", middle, "isHeld 1", 1);
        twins.unchanged("15 a child is not", middle, "isHeld 2", 0);
        String old = LIBRARY + "file 5 1 NONE NONE 0; file 6 2 5 NONE 0; define 0 5 0; define 0 6 1; anew 0 5 0;";
        twins.unchanged("15 an old one that is PARENT of one that is given", old, "isHeld 0", 1);
        twins.unchanged("15 .. which is MADE ANEW, too", old + "anew 0 6 1;", "isHeld 0", 0);
        twins.unchanged("15 .. and so the old child", old + "anew 0 6 1;", "isHeld 1", 0);
    }

    private static void isHeldIsNot() {
        String need = LIBRARY + "file 5 1 NONE 6 0; file 6 2 NONE NONE 0; put 0 6 1; define 0 5 0; thing 0; letGo 0;";
        twins.unchanged("15 a NEED of one that is held", need, "isHeld 1", 0);
        twins.unchanged("15 the one with the NEED", need, "isHeld 0", 1);
    }

    // Promise 17: "BAD."

    private static void aboutThingThing() {
        for (int what = 0; what <= 1; what++) {
            twins.outside("17 no such THING", ROOM, "aboutThing ? " + what, 0, Room.LAST_THING, Due.BAD);
            twins.unchanged("17 none is there", LIBRARY, "aboutThing 0 " + what, Due.BAD);
        }
    }

    private static void aboutThingWhat() {
        for (int thing = 0; thing <= Room.LAST_THING; thing++) {
            twins.outside("17 what", ROOM, "aboutThing " + thing + " ?", 0, 1, Due.BAD);
        }
    }

    private static void aboutThingEach() {
        int[][] all = {{2, 0}, {0, 1}, {5, 0}};
        for (int thing = 0; thing <= Room.LAST_THING; thing++) {
            for (int what = 0; what <= 1; what++) {
                twins.unchanged("17 about", ROOM, "aboutThing " + thing + " " + what, all[thing][what]);
            }
        }
    }
}
