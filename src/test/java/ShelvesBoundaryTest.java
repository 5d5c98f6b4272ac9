/** The boundaries that promises 1 to 4 and 19 name: a new object, file, loader, put, count. */
public final class ShelvesBoundaryTest {
    private static final Due due = new Due();
    private static final Twins twins = new Twins(due);
    private static final String ROOM = Room.ALL;
    private static final String PLAIN = "file 5 1 NONE NONE 0;";
    private static final String LIBRARY = "loader NONE 0;";

    public static void main(String[] args) {
        newNothingIsThere();
        newNoNumberIsThere();
        newNumbersComeFromZero();
        newObjectsAreApart();
        fileInner();
        fileParent();
        fileNeed();
        fileFlags();
        fileFlagsOneByOne();
        fileContentIsAnyInt();
        fileNumbersAfterRefusals();
        fileFull();
        fileBadAheadOfFull();
        loaderAbove();
        loaderAboveIsAProgram();
        loaderAboveIsLetGo();
        loaderOwnOfALibrary();
        loaderOwnOfAProgram();
        loaderFull();
        loaderRefusalsAheadOfFull();
        putLoader();
        putName();
        putFile();
        putLetGo();
        putBadAheadOfNo();
        putFirstAndLast();
        putLatest();
        putTakesAnyFile();
        countWhat();
        countOfEach();
        countIsNotLessenedByDropAndLetGo();
        due.end();
    }

    // Promise 1: "Nothing is there."

    private static void newNothingIsThere() {
        for (int what = 0; what <= 4; what++) {
            twins.unchanged("1 nothing is there", "", "count " + what, 0);
        }
        twins.unchanged("1 nothing is there", "", "order 0", 0);
    }

    private static void newNoNumberIsThere() {
        String[] calls = {"put ? 5 0", "put 0 5 ?", "load ? 5", "define ? 5 0", "define 0 5 ?", "anew ? 5 0",
            "anew 0 5 ?", "known ? 5", "begin ?", "thing ?", "cast ? 0", "cast 0 ?", "drop ?", "letGo ?",
            "held ?", "isHeld ?", "aboutThing ? 0", "aboutThing ? 1"};
        for (String call : calls) {
            twins.unchanged("1 not even the first", "", call.replace("?", "0"), Due.BAD);
            twins.outside("1 no number is there", "", call, 0, 0, Due.BAD);
        }
        twins.unchanged("1 no loader is above", "", "loader 0 0", Due.BAD);
        twins.outside("1 no loader is above", "", "loader ? 1", -1, 0, Due.BAD);
        for (int what = 0; what <= 5; what++) {
            twins.unchanged("1 not even the first", "", "about 0 " + what, 0);
            twins.outside("1 no number is there", "", "about ? " + what, 0, 0, 0);
        }
    }

    private static void newNumbersComeFromZero() {
        twins.answers("1 the first FILE", "", "file 0 0 0 0 0", 0);
        twins.answers("1 the first LIBRARY", "", "loader NONE 0", 0);
        twins.answers("1 the first MODULE", LIBRARY + PLAIN, "define 0 5 0", 0);
        twins.answers("1 the first THING", LIBRARY + PLAIN + "define 0 5 0", "thing 0", 0);
    }

    private static void newObjectsAreApart() {
        ModuleLoaders full = new ModuleLoaders();
        Script.run(full, ROOM);
        for (int what = 0; what <= 4; what++) {
            due.is("1 another object, count " + what, new ModuleLoaders().count(what), 0);
        }
        due.is("1 another object, order 0", new ModuleLoaders().order(0), 0);
        Script.run(new ModuleLoaders(), LIBRARY + PLAIN);
        due.is("1 the full one, count 0", full.count(0), 9);
        due.is("1 the full one, count 1", full.count(1), 6);
    }

    // Promise 2: "parent, need: names, or NONE; flags: 1 .. 2 .. (together 3). BAD; FULL: above 40."

    private static void fileInner() {
        twins.outside("2 inner is no name", ROOM, "file ? 1 NONE NONE 0", 0, 30, Due.BAD);
        twins.then("2 the first name", LIBRARY, "file 0 7 NONE NONE 0", 0,
                "define 0 0 0 = 0; about 0 1 = 0; define 0 1 0 = -13; define 0 30 0 = -13");
        twins.then("2 the last name", LIBRARY, "file 30 7 NONE NONE 0", 0,
                "define 0 30 0 = 0; about 0 1 = 30; define 0 29 0 = -13; define 0 0 0 = -13");
    }

    private static void fileParent() {
        twins.outside("2 parent is no name", ROOM, "file 5 1 ? NONE 0", -1, 30, Due.BAD);
        twins.then("2 parent NONE", LIBRARY, "file 5 1 NONE NONE 0", 0, "define 0 5 0 = 0; about 0 2 = -1");
        String both = LIBRARY + "file 0 1 NONE NONE 0; file 30 1 NONE NONE 0; put 0 0 0; put 0 30 1;";
        twins.then("2 parent is the first name", both, "file 5 1 0 NONE 0", 2,
                "define 0 5 2 = 1; about 1 2 = 0; about 0 1 = 0");
        twins.then("2 parent is the last name", both, "file 5 1 30 NONE 0", 2,
                "define 0 5 2 = 1; about 1 2 = 0; about 0 1 = 30");
    }

    private static void fileNeed() {
        twins.outside("2 need is no name", ROOM, "file 5 1 NONE ? 0", -1, 30, Due.BAD);
        twins.then("2 need NONE", LIBRARY, "file 5 1 NONE NONE 0", 0,
                "define 0 5 0 = 0; begin 0 = 1; count 2 = 1");
        String both = LIBRARY + "file 0 100 NONE NONE 0; file 30 130 NONE NONE 0; put 0 0 0; put 0 30 1;";
        twins.then("2 need is the first name", both, "file 5 1 NONE 0 0", 2,
                "define 0 5 2 = 0; begin 0 = 1; order 0 = 100; order 1 = 1; count 2 = 2");
        twins.then("2 need is the last name", both, "file 5 1 NONE 30 0", 2,
                "define 0 5 2 = 0; begin 0 = 1; order 0 = 130; order 1 = 1; count 2 = 2");
    }

    private static void fileFlags() {
        twins.outside("2 flags", ROOM, "file 5 1 NONE NONE ?", 0, 3, Due.BAD);
        for (int flags = 5; flags <= 8; flags++) {
            twins.unchanged("2 flags", ROOM, "file 5 1 NONE NONE " + flags, Due.BAD);
        }
    }

    private static void fileFlagsOneByOne() {
        twins.then("2 neither", LIBRARY, "file 5 1 NONE NONE 0", 0, "define 0 5 0 = 0; begin 0 = 1");
        twins.then("2 BROKEN", LIBRARY, "file 5 1 NONE NONE 1", 0, "define 0 5 0 = -16; count 2 = 0");
        twins.then("2 its BEGINNING FAILS", LIBRARY, "file 5 1 NONE NONE 2", 0,
                "define 0 5 0 = 0; begin 0 = -17; begin 0 = -18");
        twins.then("2 both", LIBRARY, "file 5 1 NONE NONE 3", 0, "define 0 5 0 = -16; count 2 = 0");
    }

    private static void fileContentIsAnyInt() {
        int[] contents = {Due.LEAST, Due.LEAST + 1, -4, -3, -2, -1, 0, 1, Due.MOST};
        for (int content : contents) {
            twins.then("2 content " + content, LIBRARY, "file 5 " + content + " NONE NONE 0", 0,
                    "define 0 5 0 = 0; about 0 4 = " + content + "; begin 0 = 1; count 4 = 1; order 0 = " + content);
        }
    }

    private static void fileNumbersAfterRefusals() {
        twins.then("2 what is refused takes no number", PLAIN, "file 31 1 NONE NONE 0", Due.BAD,
                "file 5 1 NONE NONE 4 = -2; file 5 1 NONE NONE 0 = 1; count 0 = 2");
    }

    private static void fileFull() {
        String last = LIBRARY + Script.times(39, "file 5 1 NONE NONE 0");
        twins.then("2 the 40th", last, "file 6 2 NONE NONE 0", 39,
                "count 0 = 40; put 0 6 39 = 1; load 0 6 = 0; about 0 5 = 39; about 0 4 = 2");
        String full = last + "file 6 2 NONE NONE 0; put 0 6 39; put 0 5 0;";
        twins.unchanged("2 FULL", full, "file 5 9 NONE NONE 0", Due.FULL);
        twins.unchanged("2 FULL, the least content", full, "file 30 LEAST 30 30 3", Due.FULL);
        twins.then("2 FULL stays", full, "file 5 9 NONE NONE 0", Due.FULL,
                "file 5 9 NONE NONE 0 = -4; count 0 = 40; put 0 5 40 = -2; load 0 6 = 0; about 0 4 = 2");
    }

    private static void fileBadAheadOfFull() {
        String full = LIBRARY + Script.times(40, "file 5 1 NONE NONE 0");
        String[] calls = {"file 31 1 NONE NONE 0", "file NONE 1 NONE NONE 0", "file 5 1 31 NONE 0",
            "file 5 1 -2 NONE 0", "file 5 1 NONE 31 0", "file 5 1 NONE -2 0", "file 5 1 NONE NONE 4",
            "file 5 1 NONE NONE -1"};
        for (String call : calls) {
            twins.unchanged("2 BAD is ahead of FULL", full, call, Due.BAD);
        }
    }

    // Promise 3: "BAD: also above is a PROGRAM; NO: above is LET GO; FULL: above 10."

    private static void loaderAbove() {
        twins.outside("3 above is not there", ROOM, "loader ? 0", -1, Room.LAST_LOADER, Due.BAD);
        twins.outside("3 above is not there", ROOM, "loader ? 1", -1, Room.LAST_LOADER, Due.BAD);
        twins.unchanged("3 above is the one that would come", LIBRARY, "loader 1 0", Due.BAD);
        twins.answers("3 above NONE", ROOM, "loader NONE 0", 6);
        twins.answers("3 above the first", ROOM, "loader 0 0", 6);
        twins.answers("3 above the last there", LIBRARY + LIBRARY, "loader 1 0", 2);
    }

    private static void loaderAboveIsAProgram() {
        for (int program : new int[] {1, 2}) {
            twins.unchanged("3 above is a PROGRAM", ROOM, "loader " + program + " 0", Due.BAD);
            twins.unchanged("3 above is a PROGRAM", ROOM, "loader " + program + " 1", Due.BAD);
        }
        twins.unchanged("3 BAD is ahead of NO: a PROGRAM that is LET GO", ROOM, "loader 4 0", Due.BAD);
    }

    private static void loaderAboveIsLetGo() {
        twins.unchanged("3 above is LET GO", ROOM, "loader 5 0", Due.NO);
        twins.unchanged("3 above is LET GO", ROOM, "loader 5 1", Due.NO);
        twins.unchanged("3 above is LET GO, after its PROGRAM was", LIBRARY + "loader 0 0; letGo 1; letGo 0;",
                "loader 0 0", Due.NO);
        twins.answers("3 a PROGRAM of it is LET GO, it is not", ROOM, "loader 3 0", 6);
    }

    private static void loaderOwnOfALibrary() {
        String rest = "loader 0 0; file 5 1 NONE NONE 0; file 6 2 5 NONE 0; file 5 3 NONE NONE 0; file 3 4 NONE 6 0;"
            + "put 0 5 0; put 0 3 3; put 1 6 1; put 1 5 2; load 1 6; load 0 3;";
        twins.same("3 own of a LIBRARY is of no matter", "loader NONE 0;" + rest, "loader NONE 1;" + rest);
    }

    private static void loaderOwnOfAProgram() {
        String files = LIBRARY + "file 5 1 NONE NONE 0; file 5 2 NONE NONE 0; put 0 5 0;";
        twins.then("3 not OWN FIRST", files, "loader 0 0", 1, "put 1 5 1 = 1; load 1 5 = 0; about 0 0 = 0; about 0 5 = 0");
        twins.then("3 OWN FIRST", files, "loader 0 1", 1, "put 1 5 1 = 1; load 1 5 = 0; about 0 0 = 1; about 0 5 = 1");
    }

    private static void loaderFull() {
        String nine = Script.times(9, "loader NONE 0");
        twins.then("3 the 10th, a LIBRARY", nine, "loader NONE 0", 9,
                "count 1 = 10; file 5 1 NONE NONE 0 = 0; put 9 5 0 = 1; load 9 5 = 0; about 0 0 = 9; held 9 = 1");
        twins.then("3 the 10th, a PROGRAM", nine, "loader 8 1", 9,
                "count 1 = 10; file 5 1 NONE NONE 0 = 0; put 9 5 0 = 1; load 9 5 = 0; about 0 0 = 9; letGo 8 = -3");
        String ten = nine + "loader 8 1; file 5 1 NONE NONE 0; put 9 5 0; put 8 5 0;";
        twins.unchanged("3 FULL, a LIBRARY", ten, "loader NONE 0", Due.FULL);
        twins.unchanged("3 FULL, a PROGRAM", ten, "loader 0 0", Due.FULL);
        twins.unchanged("3 FULL, OWN FIRST", ten, "loader 8 1", Due.FULL);
        twins.then("3 FULL stays", ten, "letGo 9", 1, "loader NONE 0 = -4; loader 0 1 = -4; count 1 = 10; load 10 5 = -2");
    }

    private static void loaderRefusalsAheadOfFull() {
        String ten = Script.times(9, "loader NONE 0") + "loader 8 1; letGo 0;";
        twins.unchanged("3 BAD is ahead of FULL: a PROGRAM", ten, "loader 9 0", Due.BAD);
        twins.unchanged("3 NO is ahead of FULL", ten, "loader 0 0", Due.NO);
        twins.outside("3 BAD is ahead of FULL", ten, "loader ? 0", -1, 9, Due.BAD);
    }

    // Promise 4: "BAD; NO: the loader is LET GO."

    private static void putLoader() {
        twins.outside("4 no such loader", ROOM, "put ? 7 2", 0, Room.LAST_LOADER, Due.BAD);
    }

    private static void putName() {
        twins.outside("4 no name", ROOM, "put 0 ? 2", 0, 30, Due.BAD);
        twins.outside("4 no name, beside one that is there", ROOM, "put 1 ? 7", 0, 30, Due.BAD);
        twins.outside("4 no name, of the last that is not LET GO", ROOM, "put 3 ? 2", 0, 30, Due.BAD);
    }

    private static void putFile() {
        twins.outside("4 no such FILE", ROOM, "put 0 7 ?", 0, Room.LAST_FILE, Due.BAD);
        twins.outside("4 no such FILE, over another one", ROOM, "put 0 3 ?", 0, Room.LAST_FILE, Due.BAD);
    }

    private static void putLetGo() {
        twins.unchanged("4 a PROGRAM that is LET GO", ROOM, "put 4 7 2", Due.NO);
        twins.unchanged("4 a LIBRARY that is LET GO", ROOM, "put 5 7 2", Due.NO);
        twins.answers("4 one whose PROGRAM is LET GO", ROOM, "put 3 7 2", 1);
    }

    private static void putBadAheadOfNo() {
        twins.outside("4 BAD is ahead of NO, name", ROOM, "put 5 ? 2", 0, 30, Due.BAD);
        twins.outside("4 BAD is ahead of NO, FILE", ROOM, "put 5 7 ?", 0, Room.LAST_FILE, Due.BAD);
    }

    private static void putFirstAndLast() {
        String all = Script.times(10, "loader NONE 0") + "file 0 1 NONE NONE 0;"
            + Script.times(38, "file 5 2 NONE NONE 0") + "file 30 3 NONE NONE 0;";
        twins.then("4 the first of all", all, "put 0 0 0", 1, "load 0 0 = 0; about 0 0 = 0; about 0 5 = 0; load 1 0 = -11");
        twins.then("4 the last of all", all, "put 9 30 39", 1, "load 9 30 = 0; about 0 0 = 9; about 0 5 = 39; load 8 30 = -11");
        twins.then("4 the last name is not the next one's first", all, "put 0 30 39", 1,
                "load 1 0 = -11; load 0 29 = -11; load 0 30 = 0; load 1 30 = -11");
        twins.then("4 the first name is not the last one's last", all, "put 1 0 0", 1,
                "load 0 30 = -11; load 0 0 = -11; load 1 1 = -11; load 1 0 = 0");
    }

    private static void putLatest() {
        String two = LIBRARY + "file 5 1 NONE NONE 0; file 5 2 NONE NONE 0;";
        twins.then("4 the latest", two + "put 0 5 0;", "put 0 5 1", 1, "load 0 5 = 0; about 0 5 = 1");
        twins.then("4 the first again", two + "put 0 5 0; put 0 5 1;", "put 0 5 0", 1, "load 0 5 = 0; about 0 5 = 0");
        twins.then("4 the same twice", two + "put 0 5 0;", "put 0 5 0", 1, "load 0 5 = 0; about 0 5 = 0");
        twins.unchanged("4 over one of which a MODULE was MADE", two + "put 0 5 0; load 0 5;", "put 0 5 1", 1);
    }

    private static void putTakesAnyFile() {
        twins.then("4 UNLIKE is told when it is MADE", LIBRARY + PLAIN, "put 0 6 0", 1, "load 0 6 = -13");
        twins.then("4 so is BROKEN", LIBRARY + "file 5 1 NONE NONE 1;", "put 0 5 0", 1, "load 0 5 = -16");
        twins.then("4 so is BARRED", LIBRARY + "loader 0 0; file 3 1 NONE NONE 0;", "put 1 3 0", 1, "load 1 3 = -14");
    }

    // Promise 19: "BAD."

    private static void countWhat() {
        twins.outside("19 what", ROOM, "count ?", 0, 4, Due.BAD);
    }

    private static void countOfEach() {
        int[] counts = {9, 6, 8, 3, 5};
        for (int what = 0; what <= 4; what++) {
            twins.unchanged("19 count", ROOM, "count " + what, counts[what]);
        }
    }

    private static void countIsNotLessenedByDropAndLetGo() {
        twins.then("19 DROPPED and LET GO ones count", ROOM, "drop 0", 1,
                "letGo 1 = 1; letGo 2 = 1; letGo 0 = 1; count 0 = 9; count 1 = 6; count 2 = 8; count 3 = 3; count 4 = 5");
    }
}
