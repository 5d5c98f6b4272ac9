/** The boundaries that promises 5 to 8 and 16 name: load, define, anew, known, about. */
public final class MakingBoundaryTest {
    private static final Due due = new Due();
    private static final Twins twins = new Twins(due);
    private static final String ROOM = Room.ALL;
    private static final String LIBRARY = "loader NONE 0;";
    private static final String BOTH = "loader NONE 0; loader 0 0;";
    private static final String OWN_FIRST = "loader NONE 0; loader 0 1;";

    public static void main(String[] args) {
        loadLoader();
        loadName();
        loadLetGo();
        loadBadAheadOfNo();
        loadFirstAndLast();
        loadWhatIsThere();
        loadNoneFound();
        loadUnlike();
        loadBarred();
        loadBarredIsOfProgramsAlone();
        loadRing();
        loadBroken();
        loadFailsByItsParent();
        loadLibraryWithNone();
        loadLibraryThatFails();
        loadGivenIsKept();
        defineLoader();
        defineName();
        defineFile();
        defineLetGo();
        defineBadAheadOfNo();
        defineTwice();
        defineGivenIsNoTwice();
        defineFailures();
        defineFailuresInTheirOrder();
        defineAfterAFailure();
        anewLoader();
        anewName();
        anewFile();
        anewLetGo();
        anewMadeNone();
        anewBadAheadOfNo();
        anewFailures();
        anewFailuresInTheirOrder();
        anewIsNoTwice();
        anewDidNotBegin();
        anewOldOneStays();
        knownLoader();
        knownName();
        knownNone();
        knownMadeAndGiven();
        aboutModule();
        aboutWhat();
        aboutEach();
        due.end();
    }

    // Promise 5: "BAD; NO: it is LET GO; FAILURES."

    private static void loadLoader() {
        twins.outside("5 no such loader", ROOM, "load ? 5", 0, Room.LAST_LOADER, Due.BAD);
        twins.outside("5 no such loader", ROOM, "load ? 30", 0, Room.LAST_LOADER, Due.BAD);
    }

    private static void loadName() {
        for (int loader = 0; loader <= 3; loader++) {
            twins.outside("5 no name", ROOM, "load " + loader + " ?", 0, 30, Due.BAD);
        }
    }

    private static void loadLetGo() {
        twins.unchanged("5 LET GO, though it MADE one", ROOM, "load 4 6", Due.NO);
        twins.unchanged("5 LET GO, though it was given one", ROOM, "load 4 5", Due.NO);
        twins.unchanged("5 LET GO, NO is ahead of NONE FOUND", ROOM, "load 4 30", Due.NO);
        twins.unchanged("5 LET GO, a LIBRARY", ROOM, "load 5 5", Due.NO);
    }

    private static void loadBadAheadOfNo() {
        twins.outside("5 BAD is ahead of NO", ROOM, "load 5 ?", 0, 30, Due.BAD);
    }

    private static void loadFirstAndLast() {
        String all = Script.times(9, "loader NONE 0") + "loader 8 0; file 0 1 NONE NONE 0; file 30 2 NONE NONE 0;"
            + "put 0 0 0; put 0 30 1; put 8 0 0; put 9 30 1;";
        twins.then("5 the first loader, the first name", all, "load 0 0", 0, "about 0 0 = 0; about 0 1 = 0");
        twins.then("5 the first loader, the last name", all, "load 0 30", 0, "about 0 0 = 0; about 0 1 = 30");
        twins.then("5 the last loader, the first name", all, "load 9 0", 0, "about 0 0 = 8; known 9 0 = 0");
        twins.then("5 the last loader, the last name", all, "load 9 30", 0, "about 0 0 = 9; known 8 30 = -1");
    }

    private static void loadWhatIsThere() {
        twins.unchanged("5 the latest that it MADE", ROOM, "load 0 5", 7);
        twins.unchanged("5 the only one that it MADE", ROOM, "load 0 6", 1);
        twins.unchanged("5 the one it was given", ROOM, "load 1 6", 1);
        twins.unchanged("5 one that FAILED to BEGIN", ROOM, "load 1 9", 6);
    }

    private static void loadNoneFound() {
        twins.unchanged("5 nothing was ever put", LIBRARY, "load 0 5", Due.NONE_FOUND);
        twins.unchanged("5 no LIBRARY and no SHELF has it", BOTH, "load 1 5", Due.NONE_FOUND);
        twins.unchanged("5 .. nor OWN FIRST", OWN_FIRST, "load 1 5", Due.NONE_FOUND);
        twins.unchanged("5 a LIBRARY does not ask its PROGRAM", ROOM, "load 0 7", Due.NONE_FOUND);
        twins.unchanged("5 a PROGRAM does not ask another one", ROOM, "load 2 7", Due.NONE_FOUND);
        twins.unchanged("5 .. nor another LIBRARY", ROOM, "load 3 6", Due.NONE_FOUND);
        twins.unchanged("5 a name beside one that is there", ROOM, "load 0 4", Due.NONE_FOUND);
        twins.unchanged("5 the first name", ROOM, "load 0 0", Due.NONE_FOUND);
        twins.unchanged("5 the last name", ROOM, "load 2 30", Due.NONE_FOUND);
    }

    private static void loadUnlike() {
        String above = LIBRARY + "file 5 1 NONE NONE 0; put 0 6 0; put 0 4 0; put 0 0 0; put 0 30 0;";
        for (int name : new int[] {0, 4, 6, 30}) {
            twins.unchanged("5 UNLIKE", above, "load 0 " + name, Due.UNLIKE);
        }
    }

    private static void loadBarred() {
        for (int name = 0; name < 4; name++) {
            String one = "file " + name + " 1 NONE NONE 0; put 1 " + name + " 0;";
            twins.unchanged("5 BARRED", BOTH + one, "load 1 " + name, Due.BARRED);
            twins.unchanged("5 BARRED, OWN FIRST", OWN_FIRST + one, "load 1 " + name, Due.BARRED);
            twins.unchanged("5 BARRED, though the LIBRARY has one", OWN_FIRST + one + "put 0 " + name + " 0;",
                    "load 1 " + name, Due.BARRED);
        }
        twins.then("5 4 is not BARRED", BOTH + "file 4 1 NONE NONE 0; put 1 4 0;", "load 1 4", 0, "about 0 0 = 1");
        twins.then("5 .. nor OWN FIRST", OWN_FIRST + "file 4 1 NONE NONE 0; put 1 4 0;", "load 1 4", 0, "about 0 0 = 1");
    }

    private static void loadBarredIsOfProgramsAlone() {
        for (int name = 0; name < 4; name++) {
            String one = "file " + name + " 1 NONE NONE 0; put 0 " + name + " 0;";
            twins.answers("5 a LIBRARY is not BARRED", LIBRARY + one, "load 0 " + name, 0);
            twins.then("5 a PROGRAM is given one", BOTH + one + "put 1 " + name + " 0;", "load 1 " + name, 0,
                    "about 0 0 = 0; known 1 " + name + " = 0");
            twins.answers("5 .. OWN FIRST with no FILE, too", OWN_FIRST + one, "load 1 " + name, 0);
        }
    }

    private static void loadRing() {
        twins.unchanged("5 a RING of two", ROOM, "load 1 10", Due.RING);
        twins.unchanged("5 .. from the other one", ROOM, "load 1 11", Due.RING);
        twins.unchanged("5 this one, too", LIBRARY + "file 5 1 5 NONE 0; put 0 5 0;", "load 0 5", Due.RING);
        twins.unchanged("5 a RING above it", LIBRARY + "file 5 1 6 NONE 0; file 6 1 6 NONE 0; put 0 5 0; put 0 6 1;",
                "load 0 5", Due.RING);
        twins.unchanged("5 by the LIBRARY", BOTH + "file 5 1 5 NONE 0; file 5 2 NONE NONE 0; put 0 5 0; put 1 5 1;",
                "load 1 5", Due.RING);
        String names = "";
        for (int name = 0; name < 31; name++) {
            names += "file " + name + " 1 " + (name + 1) % 31 + " NONE 0; put 0 " + name + " " + name + ";";
        }
        twins.unchanged("5 a RING of all names", LIBRARY + names, "load 0 0", Due.RING);
    }

    private static void loadBroken() {
        twins.unchanged("5 BROKEN", ROOM, "load 0 8", Due.BROKEN);
        twins.unchanged("5 BROKEN in the LIBRARY", ROOM, "load 1 8", Due.BROKEN);
        twins.unchanged("5 .. OWN FIRST", ROOM, "load 2 8", Due.BROKEN);
        twins.unchanged("5 both flags", LIBRARY + "file 5 1 NONE NONE 3; put 0 5 0;", "load 0 5", Due.BROKEN);
        twins.answers("5 a BEGINNING that FAILS is not BROKEN", LIBRARY + "file 5 1 NONE NONE 2; put 0 5 0;",
                "load 0 5", 0);
    }

    private static void loadFailsByItsParent() {
        String child = BOTH + "file 6 1 5 NONE 0; put 1 6 0;";
        twins.unchanged("5 no PARENT is found", child, "load 1 6", Due.NONE_FOUND);
        twins.unchanged("5 the PARENT is UNLIKE", child + "put 1 5 0;", "load 1 6", Due.UNLIKE);
        twins.unchanged("5 the PARENT is BROKEN", child + "file 5 2 NONE NONE 1; put 1 5 1;", "load 1 6", Due.BROKEN);
        twins.unchanged("5 .. in the LIBRARY", child + "file 5 2 NONE NONE 1; put 0 5 1;", "load 1 6", Due.BROKEN);
        twins.unchanged("5 the PARENT is a RING", child + "file 5 2 5 NONE 0; put 1 5 1;", "load 1 6", Due.RING);
        twins.unchanged("5 the PARENT is BARRED", BOTH + "file 6 1 3 NONE 0; file 3 2 NONE NONE 0; put 1 6 0; put 1 3 1;",
                "load 1 6", Due.BARRED);
        twins.then("5 PARENT 3 of the LIBRARY", BOTH + "file 6 1 3 NONE 0; file 3 2 NONE NONE 0; put 1 6 0; put 0 3 1;",
                "load 1 6", 1, "about 1 2 = 0; known 1 3 = 0");
    }

    private static void loadLibraryWithNone() {
        String both = BOTH + "file 5 1 9 NONE 0; file 5 2 NONE NONE 0; put 0 5 0; put 1 5 1;";
        twins.then("5 the LIBRARY finds no PARENT: the next way", both, "load 1 5", 0, "about 0 0 = 1; about 0 5 = 1");
        twins.unchanged("5 .. and there is no next", BOTH + "file 5 1 9 NONE 0; put 0 5 0;", "load 1 5", Due.NONE_FOUND);
        twins.unchanged("5 .. nor OWN FIRST", OWN_FIRST + "file 5 1 9 NONE 0; put 0 5 0;", "load 1 5", Due.NONE_FOUND);
    }

    private static void loadLibraryThatFails() {
        String own = "file 5 2 NONE NONE 0; put 1 5 0;";
        twins.unchanged("5 BROKEN in the LIBRARY: no next way", BOTH + own + "file 5 1 NONE NONE 1; put 0 5 1;",
                "load 1 5", Due.BROKEN);
        twins.unchanged("5 UNLIKE in the LIBRARY: no next way", BOTH + own + "file 6 1 NONE NONE 0; put 0 5 1;",
                "load 1 5", Due.UNLIKE);
        twins.answers("5 OWN FIRST does not come to it", OWN_FIRST + own + "file 5 1 NONE NONE 1; put 0 5 1;",
                "load 1 5", 0);
    }

    private static void loadGivenIsKept() {
        twins.then("5 given", ROOM, "load 1 5", 7, "known 1 5 = 7; anew 0 5 0 = 8; load 1 5 = 7; known 1 5 = 7; load 0 5 = 8");
        twins.then("5 OWN FIRST, given", ROOM, "load 2 6", 1, "known 2 6 = 1; put 2 6 1 = 1; load 2 6 = 1; count 2 = 8");
        twins.then("5 given one, a FILE put later is of no matter", ROOM + "put 1 6 1;", "load 1 6", 1, "count 2 = 8");
    }

    // Promise 6: "BAD; NO: it is LET GO; FAILURES."

    private static void defineLoader() {
        twins.outside("6 no such loader", ROOM, "define ? 7 2", 0, Room.LAST_LOADER, Due.BAD);
    }

    private static void defineName() {
        twins.outside("6 no name", ROOM, "define 0 ? 2", 0, 30, Due.BAD);
        String all = Script.times(10, "loader NONE 0") + "file 0 1 NONE NONE 0; file 30 2 NONE NONE 0;";
        twins.then("6 the first name", all, "define 0 0 0", 0, "about 0 1 = 0; known 0 0 = 0; known 1 0 = -1");
        twins.then("6 the last name", all, "define 9 30 1", 0, "about 0 1 = 30; known 9 30 = 0; known 8 30 = -1");
    }

    private static void defineFile() {
        twins.outside("6 no such FILE", ROOM, "define 0 7 ?", 0, Room.LAST_FILE, Due.BAD);
        twins.outside("6 no such FILE, BAD is ahead of TWICE", ROOM, "define 0 5 ?", 0, Room.LAST_FILE, Due.BAD);
        String forty = LIBRARY + "file 5 1 NONE NONE 0;" + Script.times(38, "file 6 1 NONE NONE 0") + "file 7 2 NONE NONE 0;";
        twins.then("6 the first FILE", forty, "define 0 5 0", 0, "about 0 5 = 0");
        twins.then("6 the last FILE", forty, "define 0 7 39", 0, "about 0 5 = 39");
        twins.unchanged("6 one above the last FILE", forty, "define 0 7 40", Due.BAD);
    }

    private static void defineLetGo() {
        twins.unchanged("6 LET GO", ROOM, "define 4 7 2", Due.NO);
        twins.unchanged("6 LET GO, a LIBRARY", ROOM, "define 5 5 0", Due.NO);
        twins.unchanged("6 NO is ahead of TWICE", ROOM, "define 4 6 1", Due.NO);
        twins.unchanged("6 NO is ahead of UNLIKE", ROOM, "define 5 7 0", Due.NO);
        twins.unchanged("6 NO is ahead of BARRED", ROOM, "define 4 3 5", Due.NO);
        twins.unchanged("6 NO is ahead of BROKEN", ROOM, "define 5 8 3", Due.NO);
        twins.unchanged("6 NO is ahead of NONE FOUND", ROOM, "define 5 6 1", Due.NO);
    }

    private static void defineBadAheadOfNo() {
        twins.outside("6 BAD is ahead of NO, name", ROOM, "define 5 ? 0", 0, 30, Due.BAD);
        twins.outside("6 BAD is ahead of NO, FILE", ROOM, "define 5 5 ?", 0, Room.LAST_FILE, Due.BAD);
    }

    private static void defineTwice() {
        twins.unchanged("6 TWICE, one that was loaded", ROOM, "define 0 6 1", Due.TWICE);
        twins.unchanged("6 TWICE, one that was defined", ROOM, "define 1 9 4", Due.TWICE);
        twins.unchanged("6 TWICE, one that was MADE ANEW", ROOM, "define 0 5 0", Due.TWICE);
        twins.answers("6 another loader MADE one", ROOM, "define 1 5 0", 8);
        twins.answers("6 one is on the SHELF, but not MADE", ROOM, "define 0 3 5", 8);
    }

    private static void defineGivenIsNoTwice() {
        twins.then("6 a given one is no TWICE", ROOM, "define 1 6 1", 8,
                "known 1 6 = 8; load 1 6 = 8; about 8 0 = 1; define 1 6 1 = -12; isHeld 1 = 1");
    }

    private static void defineFailures() {
        twins.unchanged("6 UNLIKE", ROOM, "define 0 7 0", Due.UNLIKE);
        twins.unchanged("6 UNLIKE, the first name", ROOM, "define 0 0 0", Due.UNLIKE);
        twins.unchanged("6 UNLIKE, the last name", ROOM, "define 0 30 0", Due.UNLIKE);
        twins.unchanged("6 BARRED", ROOM, "define 1 3 5", Due.BARRED);
        twins.unchanged("6 BARRED, OWN FIRST", ROOM, "define 2 3 5", Due.BARRED);
        twins.unchanged("6 BARRED, the first name", ROOM + "file 0 1 NONE NONE 0;", "define 1 0 9", Due.BARRED);
        twins.answers("6 4 is not BARRED", ROOM + "file 4 1 NONE NONE 0;", "define 1 4 9", 8);
        twins.answers("6 a LIBRARY is not BARRED", ROOM, "define 3 3 5", 8);
        twins.unchanged("6 BROKEN", ROOM, "define 0 8 3", Due.BROKEN);
        twins.unchanged("6 RING, this one", ROOM + "file 4 1 4 NONE 0;", "define 1 4 9", Due.RING);
        twins.unchanged("6 RING, of a SHELF", ROOM, "define 1 10 7", Due.RING);
        twins.unchanged("6 NONE FOUND of a PARENT", ROOM, "define 0 10 7", Due.NONE_FOUND);
    }

    private static void defineFailuresInTheirOrder() {
        String more = ROOM + "file 5 1 NONE NONE 1; file 5 1 5 NONE 0; file 3 1 3 NONE 1; file 3 1 3 NONE 0;"
            + "file 4 1 4 NONE 1; file 4 1 30 NONE 1; file 4 1 4 NONE 0; file 4 1 30 NONE 0;";
        twins.unchanged("6 TWICE is ahead of UNLIKE", more, "define 0 5 1", Due.TWICE);
        twins.unchanged("6 TWICE is ahead of BROKEN", more, "define 0 5 9", Due.TWICE);
        twins.unchanged("6 TWICE is ahead of RING", more, "define 0 5 10", Due.TWICE);
        twins.unchanged("6 UNLIKE is ahead of BARRED", more, "define 1 3 0", Due.UNLIKE);
        twins.unchanged("6 UNLIKE is ahead of BROKEN", more, "define 0 7 3", Due.UNLIKE);
        twins.unchanged("6 UNLIKE is ahead of RING", more, "define 0 4 11", Due.UNLIKE);
        twins.unchanged("6 UNLIKE is ahead of NONE FOUND", more, "define 0 7 16", Due.UNLIKE);
        twins.unchanged("6 BARRED is ahead of BROKEN", more, "define 1 3 11", Due.BARRED);
        twins.unchanged("6 BARRED is ahead of RING", more, "define 1 3 12", Due.BARRED);
        twins.unchanged("6 BROKEN is ahead of RING", more, "define 1 4 13", Due.BROKEN);
        twins.unchanged("6 BROKEN is ahead of NONE FOUND", more, "define 1 4 14", Due.BROKEN);
        twins.unchanged("6 RING is ahead of NONE FOUND", more, "define 1 4 15", Due.RING);
    }

    private static void defineAfterAFailure() {
        twins.then("6 a RING that is cut", ROOM, "define 1 10 7", Due.RING,
                "file 11 1 NONE NONE 0 = 9; put 1 11 9 = 1; define 1 10 7 = 9; about 9 2 = 8; define 1 10 7 = -12");
        twins.then("6 a PARENT that comes later", ROOM, "define 0 10 7", Due.NONE_FOUND,
                "file 11 1 NONE NONE 0 = 9; put 0 11 9 = 1; define 0 10 7 = 9; about 9 2 = 8");
        twins.then("6 UNLIKE is not kept", ROOM, "define 0 7 0", Due.UNLIKE, "define 0 7 2 = 8");
    }

    // Promise 7: "BAD; NO: the loader is LET GO, or MADE none of that name; FAILURES."

    private static void anewLoader() {
        twins.outside("7 no such loader", ROOM, "anew ? 5 0", 0, Room.LAST_LOADER, Due.BAD);
    }

    private static void anewName() {
        twins.outside("7 no name", ROOM, "anew 0 ? 0", 0, 30, Due.BAD);
        String all = Script.times(10, "loader NONE 0") + "file 0 1 NONE NONE 0; file 30 2 NONE NONE 0; define 0 0 0;"
            + "define 9 30 1;";
        twins.then("7 the first name", all, "anew 0 0 0", 2, "known 0 0 = 2; known 9 30 = 1");
        twins.then("7 the last name", all, "anew 9 30 1", 2, "known 0 0 = 0; known 9 30 = 2");
        twins.unchanged("7 another's first name", all, "anew 9 0 0", Due.NO);
        twins.unchanged("7 another's last name", all, "anew 0 30 1", Due.NO);
    }

    private static void anewFile() {
        twins.outside("7 no such FILE", ROOM, "anew 0 5 ?", 0, Room.LAST_FILE, Due.BAD);
        twins.answers("7 the first FILE", ROOM, "anew 0 5 0", 8);
        twins.answers("7 the last FILE", ROOM + "file 5 1 NONE NONE 0;", "anew 0 5 9", 8);
    }

    private static void anewLetGo() {
        twins.unchanged("7 LET GO", ROOM, "anew 4 6 1", Due.NO);
        twins.unchanged("7 LET GO, a LIBRARY that MADE one", LIBRARY + "file 5 1 NONE NONE 0; define 0 5 0; letGo 0;",
                "anew 0 5 0", Due.NO);
        twins.unchanged("7 NO is ahead of UNLIKE", ROOM, "anew 4 6 0", Due.NO);
    }

    private static void anewMadeNone() {
        twins.unchanged("7 on the SHELF, but MADE none", ROOM, "anew 0 3 5", Due.NO);
        twins.unchanged("7 on no SHELF", ROOM, "anew 0 7 2", Due.NO);
        twins.unchanged("7 given, but MADE none", ROOM, "anew 1 6 1", Due.NO);
        twins.unchanged("7 its PROGRAM MADE one", ROOM, "anew 0 9 4", Due.NO);
        twins.unchanged("7 NO is ahead of UNLIKE", ROOM, "anew 0 7 0", Due.NO);
        twins.unchanged("7 NO is ahead of BARRED", ROOM, "anew 1 3 5", Due.NO);
        twins.unchanged("7 NO is ahead of BROKEN", ROOM, "anew 0 8 3", Due.NO);
        twins.unchanged("7 NO is ahead of RING", ROOM, "anew 1 10 7", Due.NO);
        twins.unchanged("7 MAKING one FAILED", LIBRARY + "file 5 1 NONE NONE 1; define 0 5 0;", "anew 0 5 0", Due.NO);
    }

    private static void anewBadAheadOfNo() {
        twins.outside("7 BAD is ahead of NO, LET GO, name", ROOM, "anew 5 ? 0", 0, 30, Due.BAD);
        twins.outside("7 BAD is ahead of NO, LET GO, FILE", ROOM, "anew 5 5 ?", 0, Room.LAST_FILE, Due.BAD);
        twins.outside("7 BAD is ahead of NO, MADE none", ROOM, "anew 0 7 ?", 0, Room.LAST_FILE, Due.BAD);
    }

    private static void anewFailures() {
        String more = ROOM + "file 5 1 NONE NONE 1; file 5 1 5 NONE 0; file 5 1 30 NONE 0; file 5 1 4 NONE 0;"
            + "file 4 1 5 NONE 0; put 0 4 13; file 5 1 8 NONE 0; file 9 1 3 NONE 0; put 1 3 5;";
        twins.unchanged("7 UNLIKE", more, "anew 0 5 1", Due.UNLIKE);
        twins.unchanged("7 BROKEN", more, "anew 0 5 9", Due.BROKEN);
        twins.unchanged("7 RING, this one, though one was MADE", more, "anew 0 5 10", Due.RING);
        twins.unchanged("7 NONE FOUND of a PARENT", more, "anew 0 5 11", Due.NONE_FOUND);
        twins.unchanged("7 RING of a PARENT that is just MADE", more, "anew 0 5 12", Due.RING);
        twins.unchanged("7 BROKEN of a PARENT", more, "anew 0 5 14", Due.BROKEN);
        twins.then("7 PARENT 3 of the LIBRARY is not BARRED", more, "anew 1 9 15", 9, "about 9 2 = 8; about 8 0 = 0");
        twins.then("7 a FAILURE is not kept", more, "anew 0 5 9", Due.BROKEN, "load 0 5 = 7; anew 0 5 0 = 8");
    }

    private static void anewFailuresInTheirOrder() {
        String more = ROOM + "file 5 1 5 NONE 1; file 5 1 30 NONE 1; file 6 1 5 NONE 1;";
        twins.unchanged("7 UNLIKE is ahead of BROKEN and RING", more, "anew 0 5 11", Due.UNLIKE);
        twins.unchanged("7 BROKEN is ahead of RING", more, "anew 0 5 9", Due.BROKEN);
        twins.unchanged("7 BROKEN is ahead of NONE FOUND", more, "anew 0 5 10", Due.BROKEN);
    }

    private static void anewIsNoTwice() {
        twins.then("7 no TWICE", ROOM, "anew 0 6 1", 8, "anew 0 6 1 = 9; anew 0 6 1 = 10; load 0 6 = 10; define 0 6 1 = -12");
        twins.then("7 a LIBRARY's name below 4", ROOM + "load 0 3;", "anew 0 3 5", 9, "known 0 3 = 9");
        twins.then("7 a PROGRAM's name 4", ROOM + "file 4 1 NONE NONE 0; define 1 4 9;", "anew 1 4 9", 9, "known 1 4 = 9");
    }

    private static void anewDidNotBegin() {
        twins.then("7 it did not BEGIN, though the old one did", ROOM, "anew 1 7 2", 8,
                "about 8 3 = 0; about 2 3 = 1; begin 8 = 1; order 5 = 70; count 4 = 6");
        twins.then("7 it did not FAIL, though the old one did", ROOM, "anew 1 9 4", 8,
                "about 8 3 = 0; about 6 3 = 2; begin 8 = -17; begin 6 = -18");
    }

    private static void anewOldOneStays() {
        twins.then("7 its THINGS go on with it", ROOM, "anew 1 7 2", 8, "aboutThing 0 0 = 2; cast 0 2 = 1; cast 0 8 = -19");
        twins.then("7 its children go on with it", ROOM, "anew 0 5 0", 8, "about 1 2 = 0; load 0 6 = 1");
        twins.then("7 those to which it was given go on with it", ROOM, "anew 0 6 1", 8,
                "known 1 6 = 1; load 1 6 = 1; known 0 6 = 8; load 2 6 = 8; isHeld 1 = 1");
    }

    // Promise 8: "it is not ASKED. NONE. BAD."

    private static void knownLoader() {
        twins.outside("8 no such loader", ROOM, "known ? 5", 0, Room.LAST_LOADER, Due.BAD);
    }

    private static void knownName() {
        for (int loader = 0; loader <= Room.LAST_LOADER; loader++) {
            twins.outside("8 no name", ROOM, "known " + loader + " ?", 0, 30, Due.BAD);
        }
        String all = Script.times(10, "loader NONE 0") + "file 0 1 NONE NONE 0; file 30 2 NONE NONE 0; define 0 0 0;"
            + "define 9 30 1;";
        twins.unchanged("8 the first loader, the first name", all, "known 0 0", 0);
        twins.unchanged("8 the last loader, the last name", all, "known 9 30", 1);
        twins.unchanged("8 the first loader, the last name", all, "known 0 30", Due.NONE);
        twins.unchanged("8 the last loader, the first name", all, "known 9 0", Due.NONE);
    }

    private static void knownNone() {
        twins.unchanged("8 on the SHELF, it is not ASKED", ROOM, "known 0 3", Due.NONE);
        twins.unchanged("8 the LIBRARY is not ASKED", ROOM, "known 1 5", Due.NONE);
        twins.unchanged("8 the LIBRARY is not ASKED, OWN FIRST", ROOM, "known 2 6", Due.NONE);
        twins.unchanged("8 a PROGRAM's is not the LIBRARY's", ROOM, "known 0 7", Due.NONE);
        twins.unchanged("8 MAKING FAILS, it is not ASKED", ROOM, "known 0 8", Due.NONE);
        twins.unchanged("8 MAKING FAILED", ROOM + "load 0 8;", "known 0 8", Due.NONE);
        twins.unchanged("8 LET GO, NONE", ROOM, "known 5 5", Due.NONE);
    }

    private static void knownMadeAndGiven() {
        twins.unchanged("8 the latest that it MADE", ROOM, "known 0 5", 7);
        twins.unchanged("8 given", ROOM, "known 1 6", 1);
        twins.unchanged("8 LET GO, MADE", ROOM, "known 4 6", 5);
        twins.unchanged("8 LET GO, given", ROOM, "known 4 5", 4);
        twins.unchanged("8 FAILED to BEGIN", ROOM, "known 1 9", 6);
        twins.unchanged("8 MADE is ahead of given", ROOM + "define 1 6 1;", "known 1 6", 8);
    }

    // Promise 16: "BAD: 0 (of CONTENT, too)."

    private static void aboutModule() {
        for (int what = 0; what <= 5; what++) {
            twins.outside("16 no such MODULE", ROOM, "about ? " + what, 0, Room.LAST_MODULE, 0);
        }
    }

    private static void aboutWhat() {
        twins.outside("16 what", ROOM, "about 1 ?", 0, 5, 0);
        twins.outside("16 what, of the last", ROOM, "about 7 ?", 0, 5, 0);
        twins.unchanged("16 neither", ROOM, "about 8 6", 0);
    }

    private static void aboutEach() {
        int[][] all = {{0, 5, -1, 1, 50, 0}, {0, 6, 0, 1, 60, 1}, {1, 7, -1, 1, 70, 2}, {2, 5, -1, 0, 55, 6},
            {3, 5, -1, 1, 50, 0}, {4, 6, 4, 1, 60, 1}, {1, 9, -1, 2, 90, 4}, {0, 5, -1, 0, 55, 6}};
        for (int module = 0; module <= Room.LAST_MODULE; module++) {
            for (int what = 0; what <= 5; what++) {
                twins.unchanged("16 about", ROOM, "about " + module + " " + what, all[module][what]);
            }
        }
    }
}
