/** Promises 19 to 23, and the words on fronts, at their edges. */
public final class Edges4FrontsTest {
    private static final int MOST = Integer.MAX_VALUE, LEAST = Integer.MIN_VALUE;
    private static final int UNKNOWN = -1, OUTSIDE = -2, STATE = -3, FULL = -4, NONE = -9;
    private static final int NULL = -11, CAST = -12, INDEX = -13, SIZE = -14;

    public static void main(String[] args) throws ReflectiveOperationException {
        Edges.run(Edges4FrontsTest.class);
    }

    /** A room with sheet 0: two gates in bytes, both 0, 0, 0. */
    private static ChartRoom room() {
        ChartRoom room = new ChartRoom();
        room.sheet(0, 0, 6);
        return room;
    }

    /** A FRONT without gates. */
    private static int free(ChartRoom room, int day, int kind, int a, int b) {
        return room.draw(day, kind, a, b, 0, 0, 0, 0);
    }

    /** A FRONT of kind 0 at one y all along. */
    private static int level(ChartRoom room, int day, int a, int b, int y) {
        return Rooms.draw(room, day, 0, a, b, a, y, y, b, y, y);
    }

    private static void goes(Due due, int bends, int a, int b, int[] gates, int... ys) {
        ChartRoom room = new ChartRoom();
        due.same("it is drawn", Rooms.draw(room, 0, 0, a, b, gates), 0);
        for (int i = 0; i < ys.length; i++) {
            due.same("its y at " + (a + i), room.yOf(0, 0, a + i), ys[i]);
        }
        due.same("its bends", room.front(0, 0, 3), bends);
        due.same("its end", a + ys.length - 1, b);
    }

    private static int[] gates(int... cells) {
        return cells;
    }

    // ---- 19: "UNKNOWN; OUTSIDE: lane, day, kind, a, b; CAST; NULL; SIZE; INDEX; OUTSIDE: a cell, low above high; STATE; FULL."

    static void promise19_unknownSheet(Due due) {
        ChartRoom room = room();
        room.sheet(3, 0, 0);
        due.same("the first", room.draw(0, 0, 0, 1, 0, 0, 0, 0), 0);
        due.same("the last", room.draw(0, 0, 0, 1, 3, 0, 0, 0), 1);
        due.same("above", room.draw(0, 0, 0, 1, 4, 0, 0, 0), UNKNOWN);
        due.same("below", room.draw(0, 0, 0, 1, -1, 0, 0, 0), UNKNOWN);
        due.same("far above", room.draw(0, 0, 0, 1, MOST, 0, 0, 0), UNKNOWN);
    }

    static void promise19_laneIs0To2(Due due) {
        ChartRoom room = room();
        due.same("above", room.draw(0, 0, 0, 1, 0, 3, 0, 0), OUTSIDE);
        due.same("below", room.draw(0, 0, 0, 1, 0, -1, 0, 0), OUTSIDE);
        due.same("above, of nothing", room.draw(0, 0, 0, 1, 1, 3, 0, 0), OUTSIDE);
        for (int lane = 0; lane < 3; lane++) {
            room.sheet(0, lane, 0);
            due.same("lane " + lane, room.draw(0, 0, 0, 1, 0, lane, 0, 0), lane);
        }
    }

    static void promise19_dayIs0Or1(Due due) {
        ChartRoom room = room();
        due.same("yesterday", free(room, 0, 0, 0, 1), 0);
        due.same("today", free(room, 1, 0, 0, 1), 0);
        due.same("above", free(room, 2, 0, 0, 1), OUTSIDE);
        due.same("below", free(room, -1, 0, 0, 1), OUTSIDE);
        due.same("far below", free(room, LEAST, 0, 0, 1), OUTSIDE);
    }

    /** "of a kind (0 COLD, 1 WARM, 2 STILL)" */
    static void promise19_words4_kindIs0To2(Due due) {
        ChartRoom room = room();
        due.same("0", free(room, 0, 0, 0, 1), 0);
        due.same("2", free(room, 0, 2, 0, 1), 1);
        due.same("above", free(room, 0, 3, 0, 1), OUTSIDE);
        due.same("below", free(room, 0, -1, 0, 1), OUTSIDE);
        due.same("far above", free(room, 0, MOST, 0, 1), OUTSIDE);
    }

    /** "for each x from a to b (a below b) a y" */
    static void promise19_words4_aIsBelowB(Due due) {
        ChartRoom room = room();
        due.same("a above b", free(room, 0, 0, 6, 5), OUTSIDE);
        due.same("a is b", free(room, 0, 0, 5, 5), OUTSIDE);
        due.same("a is b at 0", free(room, 0, 0, 0, 0), OUTSIDE);
        due.same("a is b at 11", free(room, 0, 0, 11, 11), OUTSIDE);
        due.same("a one below b", free(room, 0, 0, 4, 5), 0);
    }

    static void promise19_words1_aAndBAre0To11(Due due) {
        ChartRoom room = room();
        due.same("0 to 11", free(room, 0, 0, 0, 11), 0);
        due.same("a below", free(room, 0, 0, -1, 5), OUTSIDE);
        due.same("b above", free(room, 0, 0, 5, 12), OUTSIDE);
        due.same("both above", free(room, 0, 0, 12, 13), OUTSIDE);
        due.same("both below", free(room, 0, 0, -2, -1), OUTSIDE);
        due.same("far off", free(room, 0, 0, LEAST, MOST), OUTSIDE);
        due.same("10 to 11", free(room, 0, 0, 10, 11), 1);
        due.same("0 to 1", free(room, 0, 0, 0, 1), 2);
    }

    static void promise19_anotherLaneIsCast(Due due) {
        ChartRoom room = room();
        due.same("bytes as shorts", room.draw(0, 0, 0, 1, 0, 1, 0, 0), CAST);
        due.same("its fault", room.fault(), 2);
        room.sheet(0, 2, 6);
        due.same("ints as bytes", room.draw(0, 0, 0, 1, 0, 0, 0, 0), CAST);
        due.same("ints as ints", room.draw(0, 0, 0, 1, 0, 2, 0, 0), 0);
        due.same("its fault", room.fault(), 0);
    }

    /** "CAST (nothing is no CAST); NULL" */
    static void promise19_nothingIsNullInEachLane(Due due) {
        ChartRoom room = room();
        for (int lane = 0; lane < 3; lane++) {
            due.same("lane " + lane, room.draw(0, 0, 0, 1, 2, lane, 0, 0), NULL);
            due.same("its fault", room.fault(), 1);
        }
    }

    static void promise19_nBelow0IsSize(Due due) {
        ChartRoom room = room();
        due.same("-1", room.draw(0, 0, 0, 1, 0, 0, 0, -1), SIZE);
        due.same("its fault", room.fault(), 4);
        due.same("three times it would wrap to one above 0", room.draw(0, 0, 0, 1, 0, 0, 0, -1431655765), SIZE);
        due.same("the least", room.draw(0, 0, 0, 1, 0, 0, 0, LEAST), SIZE);
    }

    static void promise19_indexWhereTheGatesGoBeyond(Due due) {
        ChartRoom room = room();
        due.same("both", room.draw(0, 0, 0, 1, 0, 0, 0, 2), 0);
        due.same("the second", room.draw(0, 0, 0, 1, 0, 0, 3, 1), 1);
        due.same("three", room.draw(0, 0, 0, 1, 0, 0, 0, 3), INDEX);
        due.same("its fault", room.fault(), 3);
        due.same("one, one cell beyond", room.draw(0, 0, 0, 1, 0, 0, 4, 1), INDEX);
        due.same("both, one cell beyond", room.draw(0, 0, 0, 1, 0, 0, 1, 2), INDEX);
        due.same("i below", room.draw(0, 0, 0, 1, 0, 0, -1, 1), INDEX);
        due.same("n far above", room.draw(0, 0, 0, 1, 0, 0, 0, MOST), INDEX);
        due.same("three times n would wrap to 2", room.draw(0, 0, 0, 1, 0, 0, 0, 1431655766), INDEX);
        due.same("i far above", room.draw(0, 0, 0, 1, 0, 0, MOST, 1), INDEX);
    }

    /** "INDEX (of cells from i on also where i is not 0 .. how many there are, if none of them is taken, too)" */
    static void promise19_words_indexThoughNoneIsTaken(Due due) {
        ChartRoom room = room();
        due.same("at 0", room.draw(0, 0, 0, 1, 0, 0, 0, 0), 0);
        due.same("at the end", room.draw(0, 0, 0, 1, 0, 0, 6, 0), 1);
        due.same("one beyond", room.draw(0, 0, 0, 1, 0, 0, 7, 0), INDEX);
        due.same("one ahead", room.draw(0, 0, 0, 1, 0, 0, -1, 0), INDEX);
        room.sheet(0, 0, 0);
        due.same("of no cells at 0", room.draw(0, 0, 0, 1, 0, 0, 0, 0), 2);
        due.same("of no cells at 1", room.draw(0, 0, 0, 1, 0, 0, 1, 0), INDEX);
    }

    /** "rows x, low, high (0 .. 11 each, low not above high)" */
    static void promise19_words4_cellsAre0To11(Due due) {
        ChartRoom room = new ChartRoom();
        due.same("x 0", Rooms.draw(room, 0, 0, 0, 11, 0, 0, 11), 0);
        due.same("x 11", Rooms.draw(room, 0, 0, 0, 11, 11, 0, 11), 1);
        due.same("x below", Rooms.draw(room, 0, 0, 0, 11, -1, 0, 11), OUTSIDE);
        due.same("x above", Rooms.draw(room, 0, 0, 0, 11, 12, 0, 11), OUTSIDE);
        due.same("low below", Rooms.draw(room, 0, 0, 0, 11, 5, -1, 11), OUTSIDE);
        due.same("high above", Rooms.draw(room, 0, 0, 0, 11, 5, 0, 12), OUTSIDE);
        due.same("both below", Rooms.draw(room, 0, 0, 0, 11, 5, -1, -1), OUTSIDE);
        due.same("both above", Rooms.draw(room, 0, 0, 0, 11, 5, 12, 12), OUTSIDE);
        due.same("no fault", room.fault(), 0);
        due.same("in the second gate", Rooms.draw(room, 0, 0, 0, 11, 5, 0, 0, 6, 0, 12), OUTSIDE);
    }

    static void promise19_words4_lowIsNotAboveHigh(Due due) {
        ChartRoom room = new ChartRoom();
        due.same("as high", Rooms.draw(room, 0, 0, 0, 11, 5, 4, 4), 0);
        due.same("one above", Rooms.draw(room, 0, 0, 0, 11, 5, 5, 4), OUTSIDE);
        due.same("one above, at an x that counts for nothing", Rooms.draw(room, 0, 0, 0, 4, 5, 5, 4), OUTSIDE);
    }

    /** "those at an x beyond a .. b count for nothing" */
    static void promise19_words4_gatesBeyondCountForNothing(Due due) {
        goes(due, 0, 4, 6, gates(3, 9, 9, 7, 9, 9), 0, 0, 0);
        goes(due, 0, 4, 6, gates(4, 9, 9, 6, 9, 9), 9, 9, 9);
        goes(due, 0, 0, 1, gates(2, 9, 9, 11, 3, 4), 0, 0);
    }

    /** "(of all GATES there ..)" */
    static void promise19_words4_allGatesAtOneX(Due due) {
        goes(due, 0, 4, 5, gates(4, 2, 7, 4, 7, 9, 5, 7, 7), 7, 7);
        ChartRoom room = new ChartRoom();
        due.same("gates that share no y", Rooms.draw(room, 0, 0, 4, 5, 4, 2, 6, 4, 7, 9), STATE);
        due.same("the later is the wider", Rooms.draw(room, 0, 0, 4, 5, 4, 5, 5, 4, 0, 11), 0);
        due.same("it is at 5", room.yOf(0, 0, 4), 5);
    }

    /** "from one x to the next y changes by 2 at most" */
    static void promise19_words4_yChangesBy2AtMost(Due due) {
        goes(due, 0, 0, 1, gates(0, 0, 0, 1, 2, 2), 0, 2);
        goes(due, 0, 0, 1, gates(0, 11, 11, 1, 9, 9), 11, 9);
        ChartRoom room = new ChartRoom();
        due.same("3 up", Rooms.draw(room, 0, 0, 0, 1, 0, 0, 0, 1, 3, 3), STATE);
        due.same("no fault", room.fault(), 0);
        due.same("3 down", Rooms.draw(room, 0, 0, 0, 1, 0, 11, 11, 1, 8, 8), STATE);
        due.same("5 in two", Rooms.draw(room, 0, 0, 0, 2, 0, 0, 0, 2, 5, 5), STATE);
        due.same("5 down in two", Rooms.draw(room, 0, 0, 0, 2, 0, 9, 9, 2, 4, 4), STATE);
        due.same("4 in two", Rooms.draw(room, 0, 0, 0, 2, 0, 0, 0, 2, 4, 4), 0);
    }

    static void promise19_words4_onlyOneWayThrough(Due due) {
        goes(due, 4, 0, 3, gates(0, 9, 9, 2, 5, 5, 3, 7, 7), 9, 7, 5, 7);
        goes(due, 4, 0, 3, gates(0, 2, 2, 2, 6, 6, 3, 4, 4), 2, 4, 6, 4);
    }

    /** "y is 0 .. 11": it can't go on beyond an edge for fewer BENDS. */
    static void promise19_words4_yIs0To11(Due due) {
        goes(due, 0, 0, 2, gates(0, 7, 7, 1, 9, 9), 7, 9, 11);
        goes(due, 1, 0, 2, gates(0, 8, 8, 1, 10, 10), 8, 10, 11);
        goes(due, 0, 0, 2, gates(0, 4, 4, 1, 2, 2), 4, 2, 0);
        goes(due, 1, 0, 2, gates(0, 3, 3, 1, 1, 1), 3, 1, 0);
    }

    /** "The one with the least BENDS; of several the first as a row of ys." */
    static void promise19_words4_ofSeveralTheFirstAsARow(Due due) {
        goes(due, 0, 0, 11, gates(), 0, 0, 0, 0, 0, 0, 0, 0, 0, 0, 0, 0);
        goes(due, 0, 0, 2, gates(1, 1, 11), 0, 1, 2);
        goes(due, 1, 0, 3, gates(0, 0, 0, 3, 1, 1), 0, 0, 0, 1);
        goes(due, 0, 0, 1, gates(0, 3, 3), 3, 1);
    }

    static void promise19_words4_theLeastBendsThoughALaterRow(Due due) {
        goes(due, 0, 0, 2, gates(0, 0, 5, 1, 3, 3, 2, 3, 3), 3, 3, 3);
    }

    /** "FRONTS, 5 of YESTERDAY (day 0), 5 of TODAY (1), numbered as they come on each" */
    static void promise19_words4_theSixthOfADayIsFull(Due due) {
        ChartRoom room = room();
        for (int f = 0; f < 5; f++) {
            due.same("yesterday's " + f, free(room, 0, 0, 0, 1), f);
        }
        due.same("yesterday's sixth", free(room, 0, 0, 0, 1), FULL);
        due.same("no fault", room.fault(), 0);
        for (int f = 0; f < 5; f++) {
            due.same("today's " + f, free(room, 1, 0, 0, 1), f);
        }
        due.same("today's sixth", free(room, 1, 0, 0, 1), FULL);
        due.same("five", room.many(3), 5);
        due.same("and five", room.many(4), 5);
    }

    static void promise19_aRefusedOneTakesNoNumber(Due due) {
        ChartRoom room = room();
        due.same("the first", free(room, 0, 0, 0, 1), 0);
        due.same("refused", free(room, 0, 3, 0, 1), OUTSIDE);
        due.same("a fault", room.draw(0, 0, 0, 1, 0, 0, 0, 3), INDEX);
        due.same("none goes through", Rooms.draw(room, 0, 0, 0, 1, 0, 0, 0, 1, 9, 9), STATE);
        due.same("the second", Rooms.draw(room, 0, 0, 0, 1), 1);
    }

    static void promise19_eachRefusalInItsOrder(Due due) {
        ChartRoom room = room();
        room.sheet(2, 0, 2);
        room.put(2, 0, 99);
        due.same("sheet ahead of lane", room.draw(0, 0, 0, 1, 4, 3, 0, 0), UNKNOWN);
        due.same("sheet ahead of day", room.draw(2, 0, 0, 1, -1, 0, 0, 0), UNKNOWN);
        due.same("lane ahead of null", room.draw(0, 0, 0, 1, 1, 3, 0, 0), OUTSIDE);
        due.same("day ahead of cast", room.draw(2, 0, 0, 1, 0, 1, 0, 0), OUTSIDE);
        due.same("kind ahead of null", room.draw(0, 3, 0, 1, 1, 0, 0, 0), OUTSIDE);
        due.same("a ahead of size", room.draw(0, 0, 1, 1, 0, 0, 0, -1), OUTSIDE);
        due.same("b ahead of index", room.draw(0, 0, 0, 12, 0, 0, 9, 0), OUTSIDE);
        due.same("cast ahead of size", room.draw(0, 0, 0, 1, 0, 1, 0, -1), CAST);
        due.same("cast ahead of index", room.draw(0, 0, 0, 1, 0, 1, 9, 0), CAST);
        due.same("null ahead of size", room.draw(0, 0, 0, 1, 1, 1, 0, -1), NULL);
        due.same("null ahead of index", room.draw(0, 0, 0, 1, 1, 1, -1, 0), NULL);
        due.same("size ahead of index", room.draw(0, 0, 0, 1, 0, 0, -1, -1), SIZE);
        due.same("index ahead of a cell", room.draw(0, 0, 0, 1, 2, 0, 0, 1), INDEX);
        due.same("a cell ahead of no way", Rooms.draw(room, 0, 0, 0, 1, 0, 0, 0, 1, 9, 9, 12, 0, 0), OUTSIDE);
        for (int f = 0; f < 5; f++) {
            free(room, 0, 0, 0, 1);
        }
        due.same("no way ahead of full", Rooms.draw(room, 0, 0, 0, 1, 0, 0, 0, 1, 9, 9), STATE);
        due.same("a cell ahead of full", Rooms.draw(room, 0, 0, 0, 1, 0, 0, 12), OUTSIDE);
        due.same("index ahead of full", room.draw(0, 0, 0, 1, 0, 0, 7, 0), INDEX);
        due.same("full", free(room, 0, 0, 0, 1), FULL);
    }

    // ---- 20: "Of a FRONT: 0 kind, 1 a, 2 b, 3 BENDS, 4 what it is joined to. OUTSIDE: day; UNKNOWN; OUTSIDE."

    static void promise20_dayIs0Or1(Due due) {
        ChartRoom room = room();
        free(room, 0, 1, 0, 1);
        free(room, 1, 2, 0, 1);
        due.same("yesterday's", room.front(0, 0, 0), 1);
        due.same("today's", room.front(1, 0, 0), 2);
        due.same("above", room.front(2, 0, 0), OUTSIDE);
        due.same("below", room.front(-1, 0, 0), OUTSIDE);
        due.same("far above", room.front(MOST, 0, 0), OUTSIDE);
    }

    static void promise20_unknownFronts(Due due) {
        ChartRoom room = room();
        due.same("there is none", room.front(0, 0, 0), UNKNOWN);
        free(room, 0, 0, 0, 1);
        due.same("the first", room.front(0, 0, 0), 0);
        due.same("one too many", room.front(0, 1, 0), UNKNOWN);
        due.same("below", room.front(0, -1, 0), UNKNOWN);
        due.same("the other day has none", room.front(1, 0, 0), UNKNOWN);
        due.same("far below", room.front(0, LEAST, 0), UNKNOWN);
    }

    static void promise20_whatIs0To4(Due due) {
        ChartRoom room = room();
        free(room, 0, 2, 3, 4);
        due.same("0", room.front(0, 0, 0), 2);
        due.same("4", room.front(0, 0, 4), NONE);
        due.same("above", room.front(0, 0, 5), OUTSIDE);
        due.same("below", room.front(0, 0, -1), OUTSIDE);
        due.same("far above", room.front(0, 0, MOST), OUTSIDE);
    }

    static void promise20_eachRefusalInItsOrder(Due due) {
        ChartRoom room = room();
        due.same("day ahead of unknown", room.front(2, 0, 0), OUTSIDE);
        due.same("unknown ahead of what", room.front(0, 0, 5), UNKNOWN);
    }

    /** "BENDS: the sum of sizes of differences of one change and the next": with one change there is none. */
    static void promise20_words4_aFrontOfTwoXsHasNoBends(Due due) {
        goes(due, 0, 10, 11, gates(10, 0, 0, 11, 2, 2), 0, 2);
    }

    static void promise20_words4_theMostBends(Due due) {
        int[] gates = new int[36];
        for (int x = 0; x < 12; x++) {
            gates[3 * x] = x;
            gates[3 * x + 1] = x % 2 * 2;
            gates[3 * x + 2] = x % 2 * 2;
        }
        goes(due, 40, 0, 11, gates, 0, 2, 0, 2, 0, 2, 0, 2, 0, 2, 0, 2);
    }

    /** "(of YESTERDAY's TODAY's, of TODAY's YESTERDAY's; NONE: died, born)" */
    static void promise20_noneDiedNoneBorn(Due due) {
        ChartRoom room = new ChartRoom();
        level(room, 0, 0, 1, 3);
        due.same("died", room.front(0, 0, 4), NONE);
        Rooms.draw(room, 1, 1, 0, 1);
        due.same("born", room.front(1, 0, 4), NONE);
        level(room, 1, 0, 1, 3);
        due.same("joined to today's 1", room.front(0, 0, 4), 1);
        due.same("joined to yesterday's 0", room.front(1, 1, 4), 0);
        due.same("still born", room.front(1, 0, 4), NONE);
    }

    // ---- 21: "The y of a FRONT at x. OUTSIDE: day; UNKNOWN: FRONT, x is not a .. b."

    static void promise21_dayIs0Or1(Due due) {
        ChartRoom room = room();
        free(room, 0, 0, 0, 1);
        free(room, 1, 0, 0, 1);
        due.same("yesterday's", room.yOf(0, 0, 0), 0);
        due.same("today's", room.yOf(1, 0, 0), 0);
        due.same("above", room.yOf(2, 0, 0), OUTSIDE);
        due.same("below", room.yOf(-1, 0, 0), OUTSIDE);
        due.same("day ahead of unknown", room.yOf(2, 9, 99), OUTSIDE);
    }

    static void promise21_unknownFronts(Due due) {
        ChartRoom room = room();
        due.same("there is none", room.yOf(0, 0, 0), UNKNOWN);
        free(room, 0, 0, 0, 1);
        due.same("one too many", room.yOf(0, 1, 0), UNKNOWN);
        due.same("below", room.yOf(0, -1, 0), UNKNOWN);
        due.same("the other day has none", room.yOf(1, 0, 0), UNKNOWN);
    }

    static void promise21_xIsAToB(Due due) {
        ChartRoom room = new ChartRoom();
        level(room, 0, 3, 5, 7);
        due.same("at a", room.yOf(0, 0, 3), 7);
        due.same("at b", room.yOf(0, 0, 5), 7);
        due.same("one ahead of a", room.yOf(0, 0, 2), UNKNOWN);
        due.same("one behind b", room.yOf(0, 0, 6), UNKNOWN);
        due.same("below the chart", room.yOf(0, 0, -1), UNKNOWN);
        due.same("above the chart", room.yOf(0, 0, 12), UNKNOWN);
        due.same("far above", room.yOf(0, 0, MOST), UNKNOWN);
        due.same("far below", room.yOf(0, 0, LEAST), UNKNOWN);
        level(room, 1, 0, 11, 11);
        due.same("at 0", room.yOf(1, 0, 0), 11);
        due.same("at 11", room.yOf(1, 0, 11), 11);
        due.same("at 12", room.yOf(1, 0, 12), UNKNOWN);
    }

    // ---- 22: "The COST of JOINING."

    static void promise22_oneDayOrBothAreEmpty(Due due) {
        ChartRoom room = new ChartRoom();
        due.same("none", room.joining(), 0);
        level(room, 1, 0, 1, 0);
        due.same("one born", room.joining(), 15);
        room.night();
        due.same("one died", room.joining(), 15);
        for (int f = 0; f < 4; f++) {
            level(room, 0, 0, 1, f);
        }
        due.same("five died", room.joining(), 75);
    }

    /** "that shares an x at least" */
    static void promise22_words4_oneSharedXIsEnough(Due due) {
        ChartRoom room = new ChartRoom();
        level(room, 0, 2, 4, 5);
        level(room, 1, 4, 6, 5);
        due.same("4 is shared", room.joining(), 0);
        room = new ChartRoom();
        level(room, 0, 2, 4, 5);
        level(room, 1, 5, 6, 5);
        due.same("none behind it", room.joining(), 30);
        room = new ChartRoom();
        level(room, 0, 5, 6, 5);
        level(room, 1, 2, 4, 5);
        due.same("none ahead of it", room.joining(), 30);
        room = new ChartRoom();
        level(room, 0, 4, 6, 5);
        level(room, 1, 2, 4, 5);
        due.same("4 is shared, the other way round", room.joining(), 0);
    }

    /** "of the same kind" */
    static void promise22_words4_otherKindsAreNotJoined(Due due) {
        ChartRoom room = new ChartRoom();
        for (int kind = 0; kind < 3; kind++) {
            Rooms.draw(room, 0, kind, 0, 1);
            Rooms.draw(room, 1, (kind + 1) % 3, 0, 1);
        }
        due.same("each to its kind", room.joining(), 0);
        due.same("0 to today's third", room.front(0, 0, 4), 2);
        room = new ChartRoom();
        Rooms.draw(room, 0, 0, 0, 1);
        Rooms.draw(room, 1, 2, 0, 1);
        due.same("cold and still", room.joining(), 30);
    }

    /** "15 for each other one of both days": what costs as much joined as not is joined, as none is behind all. */
    static void promise22_words4_justAsDearIsJoined(Due due) {
        ChartRoom room = new ChartRoom();
        level(room, 0, 0, 1, 0);
        Rooms.draw(room, 1, 0, 0, 1, 0, 7, 7, 1, 7, 7);
        due.same("14", room.joining(), 14);
        due.same("14, joined", room.front(0, 0, 4), 0);
        room = new ChartRoom();
        level(room, 0, 0, 2, 0);
        level(room, 1, 0, 2, 10);
        due.same("30", room.joining(), 30);
        due.same("30, joined", room.front(0, 0, 4), 0);
        due.same("30, joined back", room.front(1, 0, 4), 0);
        room = new ChartRoom();
        Rooms.draw(room, 0, 0, 0, 2, 0, 0, 0, 2, 0, 0);
        Rooms.draw(room, 1, 0, 0, 2, 0, 10, 10, 1, 10, 10, 2, 11, 11);
        due.same("31 would be 30", room.joining(), 30);
        due.same("31, not joined", room.front(0, 0, 4), NONE);
        due.same("31, born", room.front(1, 0, 4), NONE);
    }

    /** "no two to one" */
    static void promise22_words4_noTwoToOne(Due due) {
        ChartRoom room = new ChartRoom();
        level(room, 0, 0, 1, 4);
        level(room, 0, 0, 1, 4);
        level(room, 1, 0, 1, 4);
        due.same("one of two", room.joining(), 15);
        due.same("the first", room.front(0, 0, 4), 0);
        due.same("not the second", room.front(0, 1, 4), NONE);
        due.same("back to the first", room.front(1, 0, 4), 0);
    }

    /** "of several the first as a row, by YESTERDAY's numbers, of TODAY's" */
    static void promise22_words4_ofSeveralTheFirstAsARow(Due due) {
        ChartRoom room = new ChartRoom();
        for (int f = 0; f < 5; f++) {
            level(room, 0, 0, 1, 4);
            level(room, 1, 0, 1, 4);
        }
        due.same("all are alike", room.joining(), 0);
        for (int f = 0; f < 5; f++) {
            due.same("yesterday's " + f, room.front(0, f, 4), f);
            due.same("today's " + f, room.front(1, f, 4), f);
        }
        room = new ChartRoom();
        level(room, 0, 0, 1, 3);
        level(room, 1, 0, 1, 4);
        level(room, 1, 0, 1, 2);
        due.same("as near to both", room.joining(), 2 + 15);
        due.same("the first", room.front(0, 0, 4), 0);
    }

    static void promise22_words4_allFiveOfBothDaysAcross(Due due) {
        ChartRoom room = new ChartRoom();
        for (int f = 0; f < 5; f++) {
            level(room, 0, 0, 11, 2 * f);
            level(room, 1, 0, 11, 8 - 2 * f);
        }
        due.same("each has its own", room.joining(), 0);
        due.same("the first to the last", room.front(0, 0, 4), 4);
        due.same("the last to the first", room.front(0, 4, 4), 0);
    }

    static void promise22_words4_allFiveOfBothDaysAlone(Due due) {
        ChartRoom room = room();
        for (int f = 0; f < 5; f++) {
            free(room, 0, 0, 0, 11);
            free(room, 1, 1, 0, 11);
        }
        due.same("ten are alone", room.joining(), 150);
        for (int f = 0; f < 5; f++) {
            due.same("yesterday's " + f + " died", room.front(0, f, 4), NONE);
            due.same("today's " + f + " was born", room.front(1, f, 4), NONE);
        }
    }

    // ---- 23: "TODAY's FRONTS are YESTERDAY's, TODAY has none: how many there are of YESTERDAY."

    static void promise23_withoutFronts(Due due) {
        ChartRoom room = room();
        due.same("none", room.night(), 0);
        free(room, 0, 0, 0, 1);
        due.same("yesterday's are gone, today had none", room.night(), 0);
        due.same("none of yesterday", room.many(3), 0);
        due.same("unknown", room.front(0, 0, 0), UNKNOWN);
    }

    static void promise23_bothDaysFull(Due due) {
        ChartRoom room = room();
        for (int f = 0; f < 5; f++) {
            free(room, 0, 0, 0, 1);
            free(room, 1, f % 3, f, 11);
        }
        due.same("five", room.night(), 5);
        due.same("yesterday's last", room.front(0, 4, 1), 4);
        due.same("yesterday is full", free(room, 0, 0, 0, 1), FULL);
        due.same("today has none", room.many(4), 0);
        for (int f = 0; f < 5; f++) {
            due.same("today's again " + f, free(room, 1, 0, 0, 1), f);
        }
        due.same("today is full again", free(room, 1, 0, 0, 1), FULL);
        due.same("five again", room.night(), 5);
        due.same("then none", room.night(), 0);
    }
}
