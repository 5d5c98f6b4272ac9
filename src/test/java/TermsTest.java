/** "What it is" and Terms 1 to 5, sentence by sentence as they stand in the document. */
public final class TermsTest {
    private static final Due due = new Due();
    private static final Twins twins = new Twins(due);
    private static final String LIBRARY = "loader NONE 0;";
    private static final String BOTH = "loader NONE 0; loader 0 0;";
    private static final String OWN_FIRST = "loader NONE 0; loader 0 1;";

    public static void main(String[] args) {
        answersByTheirNumbers();
        answersTheFirstThatFits();
        answersWhatFailsChangesNothing();
        filesAreNumberedAsTheyCome();
        filesHaveWhatTheyWereToldWith();
        loadersAreNumberedAsTheyCome();
        shelvesHaveTheLatest();
        askedLibraryFirst();
        askedOwnFirst();
        askedALibraryWithNone();
        askedALibraryThatFails();
        askedWhatIsGivenIsKept();
        makingFailsInThisOrder();
        makingARing();
        makingTheParentIsAskedOfTheLoader();
        makingModulesAreNumberedAsTheyStand();
        beginsOnceInThisOrder();
        beginsAnewWhatIsNeededNow();
        justBeginningCountsAsBegun();
        failsByWhatTheOthersFailBy();
        failedIsGone();
        thingsBeginAhead();
        castsUpwards();
        castsBetweenPrograms();
        anewIsGivenFromThenOn();
        anewTheOldOneStays();
        anewIsToldAsMaking();
        letGoIsForGood();
        heldByEachAlone();
        heldAsParentOfOneThatIsHeld();
        sameCallsSameAnswers();
        due.end();
    }

    // Answers: "BAD -2 .., NO -3 .., FULL -4 ..; then FAILURES by their numbers: -10 less it."

    private static void answersByTheirNumbers() {
        String files = "file 5 1 NONE NONE 0 = 0; file 6 2 6 NONE 0 = 1; file 7 3 NONE NONE 1 = 2; file 8 4 NONE NONE 2 = 3;"
            + "file 3 5 NONE NONE 0 = 4;";
        twins.run("answers", "loader NONE 0 = 0; loader 0 0 = 1;" + files + "load 2 5 = -2; letGo 0 = -3;"
                + "load 1 5 = -11; define 1 5 0 = 0; define 1 5 0 = -12; define 1 4 0 = -13; define 1 3 4 = -14;"
                + "define 1 6 1 = -15; define 1 7 2 = -16; define 1 8 3 = 1; begin 1 = -17; begin 1 = -18;"
                + "thing 0 = 0; cast 0 1 = -19; known 1 9 = -1");
        twins.answers("answers: FULL", Script.times(10, "loader NONE 0"), "loader NONE 0", -4);
    }

    private static void answersTheFirstThatFits() {
        String ten = Script.times(8, "loader NONE 0") + "loader 0 0; loader 0 0; letGo 8; letGo 7;";
        twins.unchanged("BAD, NO and FULL fit", ten, "loader 8 0", Due.BAD);
        twins.unchanged("NO and FULL fit", ten, "loader 7 0", Due.NO);
        twins.unchanged("FULL fits", ten, "loader 6 0", Due.FULL);
        String sixty = BOTH + "file 5 1 NONE NONE 0; file 6 2 NONE NONE 2; define 0 5 0; define 1 6 1; define 0 6 1;"
            + Script.times(60, "thing 0") + "letGo 1;";
        twins.unchanged("BAD and FULL fit", sixty, "thing 3", Due.BAD);
        twins.unchanged("NO, FULL and FAILED fit", sixty, "thing 1", Due.NO);
        twins.unchanged("FULL and FAILED fit", sixty, "thing 2", Due.FULL);
        twins.then("FAILED fits", sixty, "begin 2", Due.FAILED, "thing 2 = -4");
    }

    private static void answersWhatFailsChangesNothing() {
        String[] calls = {"load 1 4 = -11", "define 0 6 1 = -12", "define 0 7 0 = -13", "define 1 3 5 = -14",
            "load 1 10 = -15", "load 1 8 = -16", "begin 6 = -18", "thing 6 = -18", "cast 0 7 = -19", "anew 0 5 1 = -13",
            "anew 1 7 3 = -13"};
        for (String line : calls) {
            String[] both = line.split(" = ");
            twins.unchanged("what FAILS changes nothing", Room.ALL, both[0], Integer.parseInt(both[1]));
        }
    }

    // Terms 1: "FILES are numbered as they come, from 0. A FILE has an INNER name .., a CONTENT .., perhaps .."

    private static void filesAreNumberedAsTheyCome() {
        twins.run("1 numbers", "file 0 1 NONE NONE 0 = 0; file 0 1 NONE NONE 0 = 1; file 31 1 NONE NONE 0 = -2;"
                + "loader NONE 0 = 0; file 30 1 0 0 3 = 2; count 0 = 3");
    }

    private static void filesHaveWhatTheyWereToldWith() {
        String told = LIBRARY + "file 4 10 NONE NONE 0; file 7 20 NONE NONE 0; file 9 -30 4 7 0; put 0 4 0; put 0 7 1;";
        twins.then("1 all of it", told, "define 0 9 2", 1, "about 1 0 = 0; about 1 1 = 9; about 1 2 = 0; about 1 3 = 0;"
                + "about 1 4 = -30; about 1 5 = 2; about 0 1 = 4; begin 1 = 1; order 0 = 10; order 1 = 20; order 2 = -30;"
                + "about 2 1 = 7; about 1 3 = 1");
    }

    // Terms 2: "LOADERS are numbered as they come .. Each has a SHELF: a FILE for a name, the one put there latest."

    private static void loadersAreNumberedAsTheyCome() {
        twins.run("2 numbers", "loader NONE 0 = 0; loader 0 1 = 1; loader NONE 1 = 2; loader 2 0 = 3; loader 1 0 = -2;"
                + "loader 3 0 = -2; loader 0 0 = 4; count 1 = 5");
    }

    private static void shelvesHaveTheLatest() {
        String files = BOTH + "loader NONE 0; file 5 1 NONE NONE 0; file 5 2 NONE NONE 0; file 6 3 NONE NONE 0;";
        twins.then("2 the latest, of this name and this loader", files + "put 0 5 0; put 0 5 1; put 0 6 2; put 2 5 0;",
                "load 0 5", 0, "about 0 5 = 1; load 2 5 = 1; about 1 5 = 0; load 0 6 = 2; about 2 5 = 2; load 2 6 = -11");
        twins.then("2 a FILE on many SHELVES", files + "put 0 5 0; put 2 5 0;", "load 0 5", 0,
                "load 2 5 = 1; about 0 5 = 0; about 1 5 = 0; about 0 0 = 0; about 1 0 = 2");
    }

    // "A loader that is ASKED for a name gives, the first of these: .."

    private static void askedLibraryFirst() {
        String files = BOTH + "file 5 1 NONE NONE 0; file 5 2 NONE NONE 0; file 5 3 NONE NONE 0;";
        twins.then("2 none of them", files, "load 1 5", Due.NONE_FOUND, "known 1 5 = -1; count 2 = 0");
        twins.then("2 its SHELF", files + "put 1 5 1;", "load 1 5", 0, "about 0 0 = 1; about 0 5 = 1; known 0 5 = -1");
        twins.then("2 its LIBRARY is ahead of that", files + "put 1 5 1; put 0 5 0;", "load 1 5", 0,
                "about 0 0 = 0; about 0 5 = 0; known 0 5 = 0; known 1 5 = 0; count 2 = 1");
        twins.then("2 the one that it was given is ahead", files + "put 0 5 0; load 1 5; put 1 5 1; anew 0 5 2;", "load 1 5", 0,
                "load 0 5 = 1; count 2 = 2");
        twins.then("2 the one that it MADE is ahead", files + "put 0 5 0; load 1 5; define 1 5 2;", "load 1 5", 1,
                "about 1 0 = 1; load 0 5 = 0; anew 1 5 2 = 2; load 1 5 = 2; known 1 5 = 2");
    }

    private static void askedOwnFirst() {
        String files = OWN_FIRST + "file 5 1 NONE NONE 0; file 5 2 NONE NONE 0; file 5 3 NONE NONE 0;";
        twins.then("2 none of them", files, "load 1 5", Due.NONE_FOUND, "known 1 5 = -1; count 2 = 0");
        twins.then("2 its LIBRARY", files + "put 0 5 0;", "load 1 5", 0, "about 0 0 = 0; known 0 5 = 0; known 1 5 = 0");
        twins.then("2 its SHELF is ahead of that", files + "put 1 5 1; put 0 5 0;", "load 1 5", 0,
                "about 0 0 = 1; about 0 5 = 1; known 0 5 = -1; count 2 = 1");
        twins.then("2 the one that it was given is ahead", files + "put 0 5 0; load 1 5; put 1 5 1; anew 0 5 2;", "load 1 5", 0,
                "load 0 5 = 1; count 2 = 2");
        twins.then("2 the one that it MADE is ahead", files + "put 0 5 0; load 1 5; define 1 5 2;", "load 1 5", 1,
                "about 1 0 = 1; load 0 5 = 0; anew 1 5 2 = 2; load 1 5 = 2; known 1 5 = 2");
    }

    // "(A LIBRARY that FAILS by NONE FOUND, for whatever reason, gives none, and the next way is gone; ..)"

    private static void askedALibraryWithNone() {
        String own = BOTH + "file 5 1 NONE NONE 0; put 1 5 0; file 5 2 6 NONE 0; file 6 3 7 NONE 0;";
        String after = "about 0 0 = 1; about 0 5 = 0; known 0 5 = -1; known 0 6 = -1; count 2 = 1";
        twins.then("2 it has no FILE", own, "load 1 5", 0, after);
        twins.then("2 it finds no PARENT", own + "put 0 5 1;", "load 1 5", 0, after);
        twins.then("2 .. nor that one's", own + "put 0 5 1; put 0 6 2;", "load 1 5", 0, after);
        twins.then("2 the LIBRARY does not ask its PROGRAM", own + "put 0 5 1; put 1 6 2; file 7 4 NONE NONE 0; put 1 7 3;",
                "load 1 5", 0, after);
    }

    private static void askedALibraryThatFails() {
        String own = BOTH + "file 5 1 NONE NONE 0; put 1 5 0; file 5 2 6 NONE 0; put 0 5 1;";
        twins.unchanged("2 UNLIKE", own + "put 0 6 0;", "load 1 5", Due.UNLIKE);
        twins.unchanged("2 BROKEN", own + "file 6 3 NONE NONE 1; put 0 6 2;", "load 1 5", Due.BROKEN);
        twins.unchanged("2 RING", own + "file 6 3 5 NONE 0; put 0 6 2;", "load 1 5", Due.RING);
        String none = OWN_FIRST + "file 5 1 NONE NONE 1; put 0 5 0;";
        twins.unchanged("2 OWN FIRST, BROKEN", none, "load 1 5", Due.BROKEN);
        twins.unchanged("2 a PARENT of the LIBRARY, BROKEN", none + "file 6 2 5 NONE 0; put 1 6 1;", "load 1 6", Due.BROKEN);
    }

    // "What a LIBRARY gives a PROGRAM keeps as given."

    private static void askedWhatIsGivenIsKept() {
        for (String both : new String[] {BOTH, OWN_FIRST}) {
            String files = both + "file 5 1 NONE NONE 0; file 6 2 5 NONE 0; file 7 3 NONE 5 0; put 0 5 0;";
            twins.then("2 by load", files, "load 1 5", 0, "known 1 5 = 0; anew 0 5 0 = 1; load 1 5 = 0");
            twins.then("2 as PARENT", files, "define 1 6 1", 1, "known 1 5 = 0; anew 0 5 0 = 2; load 1 5 = 0");
            twins.then("2 as NEED", files + "define 1 7 2;", "begin 0", 1, "known 1 5 = 1; anew 0 5 0 = 2; load 1 5 = 1");
            twins.then("2 not what the LIBRARY asks for itself", files + "put 0 6 1;", "load 1 6", 1,
                    "known 1 6 = 1; known 1 5 = -1; known 0 5 = 0");
        }
    }

    // "To MAKE a MODULE of a name of a FILE FAILS, the first of: .."

    private static void makingFailsInThisOrder() {
        String files = BOTH + "file 6 1 6 NONE 1; file 3 1 3 NONE 1; file 4 1 4 NONE 1; file 4 1 4 NONE 0; file 4 1 9 NONE 0;"
            + "file 4 1 NONE NONE 0; file 3 1 NONE NONE 0; define 0 3 6;";
        twins.unchanged("2 TWICE ahead of all", files, "define 0 3 0", Due.TWICE);
        twins.unchanged("3 UNLIKE ahead of the rest", files, "define 1 3 0", Due.UNLIKE);
        twins.unchanged("4 BARRED ahead of the rest", files, "define 1 3 1", Due.BARRED);
        twins.unchanged("6 BROKEN ahead of 5 RING", files, "define 1 4 2", Due.BROKEN);
        twins.unchanged("5 RING", files, "define 1 4 3", Due.RING);
        twins.unchanged("by what its PARENT FAILS", files, "define 1 4 4", Due.NONE_FOUND);
        twins.answers("by none", files, "define 1 4 5", 1);
    }

    private static void makingARing() {
        String own = OWN_FIRST + "file 5 1 6 NONE 0; file 6 2 5 NONE 0; file 5 3 5 NONE 0; file 5 4 NONE NONE 0;";
        twins.unchanged("2 a RING in one loader", own + "put 1 5 0; put 1 6 1; put 0 5 3;", "load 1 5", Due.RING);
        twins.unchanged("2 this one, too, though the LIBRARY has it", own + "put 1 5 2; put 0 5 3;", "load 1 5", Due.RING);
        twins.then("2 two loaders are no RING", own + "put 1 5 0; put 0 6 1; put 0 5 3;", "load 1 5", 2,
                "about 2 0 = 1; about 2 2 = 1; about 1 0 = 0; about 1 2 = 0; about 0 0 = 0; about 0 1 = 5");
        twins.then("2 one that is MADE, not just MAKING, is no RING", own + "define 1 5 3; put 1 6 1;", "anew 1 5 0", Due.RING,
                "load 1 6 = 1; anew 1 5 0 = 2; about 2 2 = 1; about 1 2 = 0");
    }

    private static void makingTheParentIsAskedOfTheLoader() {
        String files = "file 5 1 NONE NONE 0; file 5 2 NONE NONE 0; file 6 3 5 NONE 0; put 0 5 0; put 1 5 1; put 0 6 2;";
        twins.then("2 of the LIBRARY, which MAKES", OWN_FIRST + files, "load 1 6", 1, "about 1 0 = 0; about 1 2 = 0; about 0 0 = 0");
        twins.then("2 of the PROGRAM, OWN FIRST", OWN_FIRST + files + "put 1 6 2;", "load 1 6", 1,
                "about 1 0 = 1; about 1 2 = 0; about 0 0 = 1; about 0 5 = 1");
        twins.then("2 of the PROGRAM, LIBRARY first", BOTH + files, "define 1 6 2", 1,
                "about 1 0 = 1; about 1 2 = 0; about 0 0 = 0; about 0 5 = 0");
    }

    private static void makingModulesAreNumberedAsTheyStand() {
        twins.then("2 PARENTS ahead", LIBRARY + "file 5 1 6 NONE 0; file 6 2 7 NONE 0; file 7 3 NONE NONE 0; put 0 6 1;"
                + "put 0 7 2;", "define 0 5 0", 2, "known 0 7 = 0; known 0 6 = 1; about 2 2 = 1; about 1 2 = 0; about 0 2 = -1");
        twins.then("2 what FAILED has no number", LIBRARY + "file 5 1 6 NONE 0; file 7 2 NONE NONE 0;", "define 0 5 0",
                Due.NONE_FOUND, "define 0 7 1 = 0; count 2 = 1");
        twins.then("2 those that stood before something FAILED stay",
                LIBRARY + "file 5 1 NONE 6 0; file 6 2 7 8 0; file 7 3 NONE NONE 0; put 0 6 1; put 0 7 2; define 0 5 0;",
                "begin 0", Due.NONE_FOUND, "count 2 = 3; known 0 7 = 1; known 0 6 = 2; about 1 3 = 1; about 2 3 = 2");
    }

    // Terms 3: "A MODULE BEGINS once: first its PARENT does; then .. a NEED ..; then it itself .."

    private static void beginsOnceInThisOrder() {
        twins.then("3 PARENT, NEED, itself", LIBRARY + "file 5 1 6 7 0; file 6 2 8 9 0; file 7 3 10 11 0; file 8 4 NONE NONE 0;"
                + "file 9 5 NONE NONE 0; file 10 6 NONE NONE 0; file 11 7 NONE NONE 0; put 0 6 1; put 0 7 2; put 0 8 3;"
                + "put 0 9 4; put 0 10 5; put 0 11 6; define 0 5 0;", "begin 2", 1,
                "count 4 = 7; order 0 = 4; order 1 = 5; order 2 = 2; order 3 = 6; order 4 = 7; order 5 = 3; order 6 = 1;"
                + "begin 2 = 1; begin 0 = 1; count 4 = 7");
    }

    /** The NEED is ASKED for when the MODULE BEGINS, its PARENT was ASKED for when it was MADE. */
    private static void beginsAnewWhatIsNeededNow() {
        String files = LIBRARY + "file 5 1 NONE NONE 0; file 6 2 5 NONE 0; file 7 3 NONE 5 0; define 0 5 0; define 0 6 1;"
            + "define 0 7 2; file 5 4 NONE NONE 0; anew 0 5 3;";
        twins.then("3 the old PARENT", files, "begin 1", 1, "order 0 = 1; order 1 = 2; about 0 3 = 1; about 3 3 = 0");
        twins.then("3 the new NEED", files, "begin 2", 1, "order 0 = 4; order 1 = 3; about 0 3 = 0; about 3 3 = 1");
    }

    // "One that is just BEGINNING counts as one that did for all that it comes to."

    private static void justBeginningCountsAsBegun() {
        twins.then("3 a ring of three", LIBRARY + "file 5 1 NONE 6 0; file 6 2 NONE 7 0; file 7 3 5 6 0; put 0 6 1; put 0 7 2;"
                + "define 0 5 0;", "begin 0", 1, "order 0 = 3; order 1 = 2; order 2 = 1; count 4 = 3; about 2 2 = 0");
        twins.then("3 .. from another one", LIBRARY + "file 5 1 NONE 6 0; file 6 2 NONE 7 0; file 7 3 5 6 0; put 0 5 0;"
                + "put 0 6 1; define 0 7 2;", "begin 1", 1, "order 0 = 2; order 1 = 1; order 2 = 3; count 4 = 3");
    }

    // "What its PARENT, the NEED, what was given FAIL by, it FAILS by."

    private static void failsByWhatTheOthersFailBy() {
        String need = BOTH + "file 5 1 NONE 6 0; define 1 5 0;";
        String after = "about 0 3 = 2; begin 0 = -18; thing 0 = -18; count 4 = 0";
        twins.then("3 the NEED: NONE FOUND", need, "begin 0", Due.NONE_FOUND, after);
        twins.then("3 the NEED: BROKEN", need + "file 6 2 NONE NONE 1; put 0 6 1;", "begin 0", Due.BROKEN, after);
        twins.then("3 what was given: FAILED", need + "file 6 2 NONE NONE 2; put 0 6 1;", "begin 0", Due.FAILED, after);
        twins.then("3 what was given: GONE", need + "file 6 2 NONE NONE 2; define 0 6 1; begin 1;", "begin 0", Due.GONE, after);
        twins.then("3 its PARENT: FAILED", BOTH + "file 6 2 NONE NONE 2; define 0 6 0; file 5 1 6 NONE 0; define 1 5 1;", "begin 1",
                Due.FAILED, "about 0 3 = 2; about 1 3 = 2; begin 1 = -18; begin 0 = -18; count 4 = 0");
    }

    // "One that FAILED to BEGIN (by whatever) FAILS from then on by 8 GONE."

    private static void failedIsGone() {
        twins.then("3 the one it FAILED by comes to stand", LIBRARY + "file 5 1 NONE 6 0; file 6 2 NONE NONE 0; define 0 5 0;",
                "begin 0", Due.NONE_FOUND, "put 0 6 1 = 1; load 0 6 = 1; begin 1 = 1; begin 0 = -18; thing 0 = -18;"
                + "about 0 3 = 2; anew 0 5 0 = 2; begin 2 = 1; begin 0 = -18");
        twins.then("3 one that comes to it FAILS by GONE, not by what that one FAILED by",
                LIBRARY + "file 5 1 NONE 9 0; file 6 2 5 NONE 0; define 0 5 0; define 0 6 1;", "begin 0", Due.NONE_FOUND,
                "begin 1 = -18; about 1 3 = 2");
    }

    // Terms 4: "THINGS are of a MODULE, which BEGINS ahead; numbered from 0."

    private static void thingsBeginAhead() {
        twins.run("4 things", "loader NONE 0 = 0; file 5 1 NONE NONE 0 = 0; file 6 2 NONE NONE 2 = 1; define 0 5 0 = 0;"
                + "define 0 6 1 = 1; thing 1 = -17; count 3 = 0; thing 0 = 0; count 4 = 1; thing 1 = -18; thing 0 = 1;"
                + "count 4 = 1; aboutThing 1 0 = 0; drop 1 = 1; thing 0 = 2; count 3 = 3");
    }

    // "CAST: 9, if the MODULE is neither the THING's, nor its PARENT, nor that one's, and on."

    private static void castsUpwards() {
        twins.run("4 casts", "loader NONE 0 = 0; file 5 1 NONE NONE 0 = 0; file 6 2 5 NONE 0 = 1; file 7 3 6 NONE 0 = 2;"
                + "file 8 4 6 7 0 = 3; define 0 5 0 = 0; define 0 6 1 = 1; define 0 7 2 = 2; define 0 8 3 = 3; thing 2 = 0;"
                + "thing 1 = 1; thing 3 = 2; cast 0 2 = 1; cast 0 1 = 1; cast 0 0 = 1; cast 0 3 = -19; cast 1 1 = 1;"
                + "cast 1 0 = 1; cast 1 2 = -19; cast 2 2 = -19; cast 2 1 = 1; cast 2 4 = -2");
    }

    private static void castsBetweenPrograms() {
        twins.run("4 one FILE, three loaders", "loader NONE 0 = 0; loader 0 1 = 1; loader 0 1 = 2; file 5 1 NONE NONE 0 = 0;"
                + "put 0 5 0 = 1; put 1 5 0 = 1; load 0 5 = 0; load 1 5 = 1; load 2 5 = 0; thing 0 = 0; thing 1 = 1;"
                + "cast 0 0 = 1; cast 0 1 = -19; cast 1 0 = -19; cast 1 1 = 1; letGo 1 = 1; cast 1 1 = 1");
    }

    // "MADE ANEW: .. it is the one it gives from then on, and did not BEGIN. The old one stays: .."

    private static void anewIsGivenFromThenOn() {
        String made = BOTH + "file 5 1 NONE NONE 0; file 5 2 NONE NONE 0; define 0 5 0; begin 0;";
        twins.then("4 anew", made, "anew 0 5 1", 1, "load 0 5 = 1; known 0 5 = 1; load 1 5 = 1; about 1 3 = 0; about 0 3 = 1;"
                + "about 1 5 = 1; about 1 1 = 5; count 4 = 1; thing 1 = 0; count 4 = 2; order 1 = 2");
        twins.then("4 .. of the same FILE, and again", made, "anew 0 5 0", 1, "anew 0 5 0 = 2; load 0 5 = 2; begin 2 = 1; count 4 = 2;"
                + "about 1 3 = 0");
    }

    private static void anewTheOldOneStays() {
        String made = BOTH + "file 5 1 NONE NONE 0; file 6 2 5 NONE 0; define 0 5 0; load 1 5; define 1 6 1; thing 1; thing 0;";
        twins.then("4 its THINGS, its children, PROGRAMS to which it was given go on with it", made, "anew 0 5 0", 2,
                "aboutThing 1 0 = 0; cast 1 0 = 1; cast 1 2 = -19; about 1 2 = 0; cast 0 0 = 1; cast 0 2 = -19; load 1 5 = 0;"
                + "known 1 5 = 0; thing 0 = 2; anew 1 6 1 = 3; about 3 2 = 0; load 0 5 = 2");
    }

    // ".. (told as for MAKING, but for TWICE)"

    private static void anewIsToldAsMaking() {
        String made = BOTH + "file 4 1 NONE NONE 0; file 5 2 NONE NONE 0; file 4 3 4 NONE 1; file 4 4 4 NONE 0; file 4 5 9 NONE 0;"
            + "define 1 4 0;";
        twins.unchanged("4 UNLIKE", made, "anew 1 4 1", Due.UNLIKE);
        twins.unchanged("4 BROKEN ahead of RING", made, "anew 1 4 2", Due.BROKEN);
        twins.unchanged("4 RING", made, "anew 1 4 3", Due.RING);
        twins.unchanged("4 NONE FOUND", made, "anew 1 4 4", Due.NONE_FOUND);
        twins.unchanged("4 TWICE is of define", made, "define 1 4 0", Due.TWICE);
        twins.unchanged("4 of a name of which it MADE none", made, "anew 0 4 0", Due.NO);
        twins.answers("4 by none", made, "anew 1 4 0", 1);
    }

    // Terms 5: "A loader may be LET GO."

    private static void letGoIsForGood() {
        twins.run("5 let go", "loader NONE 0 = 0; loader 0 0 = 1; file 5 1 NONE NONE 0 = 0; put 0 5 0 = 1; load 1 5 = 0;"
                + "define 1 5 0 = 1; thing 1 = 0; letGo 0 = -3; letGo 1 = 1; letGo 1 = -3; load 1 5 = -3; put 1 5 0 = -3;"
                + "define 1 6 0 = -3; anew 1 5 0 = -3; begin 1 = -3; thing 1 = -3; known 1 5 = 1; about 1 3 = 1; cast 0 1 = 1;"
                + "load 0 5 = 0; thing 0 = 1; loader 0 0 = 2; letGo 0 = -3; letGo 2 = 1; letGo 0 = 1; loader 0 0 = -3;"
                + "drop 0 = 1; count 1 = 3");
    }

    // "A MODULE is HELD, if a THING of it is not DROPPED; or if a loader that is not LET GO gives it .. or has it as given; .."

    private static void heldByEachAlone() {
        String old = BOTH + "file 5 1 NONE NONE 0; define 0 5 0;";
        twins.then("5 by none", old, "anew 0 5 0", 1, "isHeld 0 = 0; isHeld 1 = 1; held 0 = 1");
        twins.then("5 by a THING", old + "thing 0;", "anew 0 5 0", 1, "isHeld 0 = 1; held 0 = 2; drop 0 = 1; isHeld 0 = 0; held 0 = 1");
        twins.then("5 by the loader that gives it", old, "isHeld 0", 1, "letGo 1 = 1; isHeld 0 = 1; letGo 0 = 1; isHeld 0 = 0;"
                + "held 0 = 0");
        twins.then("5 by the PROGRAM that has it as given", old + "load 1 5;", "anew 0 5 0", 1,
                "isHeld 0 = 1; held 0 = 2; held 1 = 0; letGo 1 = 1; isHeld 0 = 0; isHeld 1 = 1; held 0 = 1");
        twins.then("5 as given, though the PROGRAM MADE its own", old + "load 1 5; define 1 5 0;", "anew 0 5 0", 2,
                "isHeld 0 = 1; isHeld 1 = 1; isHeld 2 = 1; letGo 1 = 1; isHeld 0 = 0; isHeld 1 = 0; isHeld 2 = 1");
    }

    // ".. or if it is the PARENT of one that is HELD."

    private static void heldAsParentOfOneThatIsHeld() {
        String row = BOTH + "file 5 1 NONE 8 0; file 6 2 5 NONE 0; file 7 3 6 NONE 0; file 8 4 NONE NONE 0; put 0 8 3; define 0 5 0;"
            + "define 0 6 1; define 1 7 2; anew 0 6 1; anew 0 5 0;";
        twins.then("5 a row of PARENTS", row, "thing 2", 0, "letGo 1 = 1; letGo 0 = 1; isHeld 0 = 1; isHeld 1 = 1; isHeld 2 = 1;"
                + "isHeld 3 = 0; isHeld 4 = 0; isHeld 5 = 0; held 0 = 2; held 1 = 1; drop 0 = 1; isHeld 0 = 0; isHeld 1 = 0;"
                + "isHeld 2 = 0; held 0 = 0; held 1 = 0");
        twins.then("5 a child does not hold by its PARENT", row, "letGo 1", 1, "isHeld 2 = 0; isHeld 1 = 0; isHeld 3 = 1;"
                + "isHeld 0 = 1; isHeld 4 = 1; held 0 = 3; held 1 = 0");
    }

    // "What it is": objects are apart, and the same calls give the same answers.

    private static void sameCallsSameAnswers() {
        twins.same("the same calls", Room.ALL, Room.ALL);
        ModuleLoaders one = new ModuleLoaders();
        ModuleLoaders other = new ModuleLoaders();
        for (String call : Script.calls(Room.ALL)) {
            due.is("in turns: " + call, Script.call(one, call), Script.call(other, call));
        }
    }
}
