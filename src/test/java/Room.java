/** An object in which there is some of everything, for the tests of the boundaries. */
final class Room {
    /** Loaders 0 .. 5: 0 and 3 LIBRARIES; 1 and 2 (OWN FIRST) below 0; 4 below 3, LET GO; 5 a LIBRARY, LET GO. */
    private static final String LOADERS =
        "loader NONE 0; loader 0 0; loader 0 1; loader NONE 1; loader 3 0; loader NONE 0;";
    /** FILES 0 .. 8; 3 is BROKEN, the BEGINNING of 4 FAILS, 7 and 8 are a RING. */
    private static final String FILES =
        "file 5 50 NONE NONE 0; file 6 60 5 NONE 0; file 7 70 NONE 6 0; file 8 80 NONE NONE 1;"
        + "file 9 90 NONE NONE 2; file 3 30 NONE NONE 0; file 5 55 NONE NONE 0; file 10 100 11 NONE 0;"
        + "file 11 110 10 NONE 0;";
    private static final String SHELVES =
        "put 0 5 0; put 0 6 1; put 0 3 5; put 0 8 3; put 1 7 2; put 1 9 4; put 1 10 7; put 1 11 8;"
        + "put 2 5 6; put 3 5 0; put 4 6 1;";
    /**
     * MODULES 0 .. 7: 0 and 1 (names 5, 6) of loader 0, 1 is given to loader 1; 2 (7) of loader 1;
     * 3 (5) of loader 2; 4 (5) of loader 3, given to loader 4; 5 (6) of loader 4; 6 (9) of loader 1,
     * FAILED; 7 (5) of loader 0, MADE ANEW. THINGS 0 .. 2 of 2, 0 (DROPPED) and 5.
     * THE ORDER: 50 60 70 50 60.
     */
    private static final String MODULES =
        "load 1 6; load 1 7; load 2 5; load 4 6; define 1 9 4; begin 6;"
        + "thing 2; thing 0; thing 5; drop 1; anew 0 5 6; letGo 4; letGo 5;";

    static final String ALL = LOADERS + FILES + SHELVES + MODULES;
    static final int LAST_LOADER = 5, LAST_FILE = 8, LAST_MODULE = 7, LAST_THING = 2;

    private Room() {
    }
}
