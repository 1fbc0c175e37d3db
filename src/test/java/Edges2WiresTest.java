/** Promises 5 to 13, and the words on wires, at their edges. */
public final class Edges2WiresTest {
    private static final int MOST = Integer.MAX_VALUE, LEAST = Integer.MIN_VALUE;
    private static final int UNKNOWN = -1, OUTSIDE = -2, STATE = -3, FULL = -4, NONE = -9;
    private static final int NULL = -11, CAST = -12, INDEX = -13;

    public static void main(String[] args) throws ReflectiveOperationException {
        Edges.run(Edges2WiresTest.class);
    }

    /** A post, and sheet 0 with that many bytes, all 0. */
    private static ChartRoom room(int cells) {
        ChartRoom room = new ChartRoom();
        room.post(0, 2, 3, 0, 0, 0);
        room.sheet(0, 0, cells);
        return room;
    }

    /** A room with one post and one wire of these digits. */
    private static ChartRoom roomOf(String groups) {
        ChartRoom room = new ChartRoom();
        room.post(0, 5, 5, 0, 0, 0);
        Rooms.wire(room, 0, 0, 0, groups);
        return room;
    }

    // ---- 5: "UNKNOWN: POST, SHEET; OUTSIDE: lane, hour, came; CAST (nothing is no CAST); NULL; INDEX; OUTSIDE: a cell; FULL."

    static void promise05_unknownPost(Due due) {
        ChartRoom room = room(15);
        due.same("the first", room.wire(0, 0, 0, 0, 0, 0), 0);
        due.same("one too many", room.wire(1, 0, 0, 0, 0, 0), UNKNOWN);
        due.same("below", room.wire(-1, 0, 0, 0, 0, 0), UNKNOWN);
        due.same("far above", room.wire(MOST, 0, 0, 0, 0, 0), UNKNOWN);
    }

    static void promise05_unknownSheet(Due due) {
        ChartRoom room = room(15);
        room.sheet(3, 0, 15);
        due.same("the last", room.wire(0, 0, 0, 3, 0, 0), 0);
        due.same("above", room.wire(0, 0, 0, 4, 0, 0), UNKNOWN);
        due.same("below", room.wire(0, 0, 0, -1, 0, 0), UNKNOWN);
        due.same("far below", room.wire(0, 0, 0, LEAST, 0, 0), UNKNOWN);
    }

    static void promise05_laneIs0To2(Due due) {
        ChartRoom room = room(15);
        due.same("0", room.wire(0, 0, 0, 0, 0, 0), 0);
        room.sheet(0, 2, 15);
        due.same("2", room.wire(0, 0, 0, 0, 2, 0), 1);
        due.same("above", room.wire(0, 0, 0, 0, 3, 0), OUTSIDE);
        due.same("below", room.wire(0, 0, 0, 0, -1, 0), OUTSIDE);
    }

    static void promise05_words1_hourIs0To99(Due due) {
        ChartRoom room = room(15);
        due.same("0", room.wire(0, 0, 0, 0, 0, 0), 0);
        due.same("99", room.wire(0, 99, 0, 0, 0, 0), 1);
        due.same("above", room.wire(0, 100, 0, 0, 0, 0), OUTSIDE);
        due.same("below", room.wire(0, -1, 0, 0, 0, 0), OUTSIDE);
        due.same("far below", room.wire(0, LEAST, 0, 0, 0, 0), OUTSIDE);
    }

    /** "CAME at a time (0 .. 99)" */
    static void promise05_words2_cameIs0To99(Due due) {
        ChartRoom room = room(15);
        due.same("0", room.wire(0, 0, 0, 0, 0, 0), 0);
        due.same("99", room.wire(0, 0, 99, 0, 0, 0), 1);
        due.same("above", room.wire(0, 0, 100, 0, 0, 0), OUTSIDE);
        due.same("below", room.wire(0, 0, -1, 0, 0, 0), OUTSIDE);
        due.same("far above", room.wire(0, 0, MOST, 0, 0, 0), OUTSIDE);
    }

    static void promise05_anotherLaneIsCast(Due due) {
        for (int lane = 0; lane < 3; lane++) {
            for (int as = 0; as < 3; as++) {
                ChartRoom room = room(0);
                room.sheet(1, lane, 15);
                due.same("lane " + lane + " as " + as, room.wire(0, 0, 0, 1, as, 0), lane == as ? 0 : CAST);
                due.same("its fault", room.fault(), lane == as ? 0 : 2);
            }
        }
    }

    /** "CAST (nothing is no CAST); NULL" */
    static void promise05_nothingIsNullInEachLane(Due due) {
        ChartRoom room = room(15);
        for (int lane = 0; lane < 3; lane++) {
            due.same("lane " + lane, room.wire(0, 0, 0, 1, lane, 0), NULL);
            due.same("its fault", room.fault(), 1);
        }
        room.lose(0);
        due.same("lost", room.wire(0, 0, 0, 0, 0, 0), NULL);
    }

    /** "INDEX": fifteen cells from i on. */
    static void promise05_indexWhereTheFifteenGoBeyond(Due due) {
        ChartRoom room = room(16);
        due.same("from 0", room.wire(0, 0, 0, 0, 0, 0), 0);
        due.same("the last fifteen", room.wire(0, 0, 0, 0, 0, 1), 1);
        due.same("its fault", room.fault(), 0);
        due.same("one beyond", room.wire(0, 0, 0, 0, 0, 2), INDEX);
        due.same("its fault", room.fault(), 3);
        due.same("at the end", room.wire(0, 0, 0, 0, 0, 16), INDEX);
        due.same("below", room.wire(0, 0, 0, 0, 0, -1), INDEX);
        due.same("far below", room.wire(0, 0, 0, 0, 0, LEAST), INDEX);
        due.same("i and 15 would wrap", room.wire(0, 0, 0, 0, 0, MOST), INDEX);
        due.same("i and 15 would just not wrap", room.wire(0, 0, 0, 0, 0, MOST - 15), INDEX);
    }

    static void promise05_indexOfShortRows(Due due) {
        due.same("fifteen", room(15).wire(0, 0, 0, 0, 0, 0), 0);
        due.same("fourteen", room(14).wire(0, 0, 0, 0, 0, 0), INDEX);
        due.same("one", room(1).wire(0, 0, 0, 0, 0, 0), INDEX);
        due.same("none", room(0).wire(0, 0, 0, 0, 0, 0), INDEX);
    }

    static void promise05_indexAtTheEndOfTheLongestRow(Due due) {
        due.same("from 45", room(60).wire(0, 0, 0, 0, 0, 45), 0);
        due.same("from 46", room(60).wire(0, 0, 0, 0, 0, 46), INDEX);
    }

    /** "OUTSIDE: a cell is not -1 .. 9" */
    static void promise05_cellsAreMinus1To9(Due due) {
        int[] cells = {-1, 0, 9, -2, 10, 127, -128};
        for (int at = 0; at < 15; at += 7) {
            for (int cell : cells) {
                ChartRoom room = room(15);
                room.put(0, at, cell);
                boolean isTold = cell >= -1 && cell <= 9;
                due.same("cell " + at + " is " + cell, room.wire(0, 0, 0, 0, 0, 0), isTold ? 0 : OUTSIDE);
                due.same("no fault", room.fault(), 0);
            }
        }
        ChartRoom room = room(0);
        room.sheet(1, 2, 15);
        room.put(1, 3, MOST);
        due.same("a great int", room.wire(0, 0, 0, 1, 2, 0), OUTSIDE);
        room.put(1, 3, 256);
        due.same("an int that would be 0 as a byte", room.wire(0, 0, 0, 1, 2, 0), OUTSIDE);
    }

    static void promise05_cellsBesideTheFifteenAreNoMatter(Due due) {
        ChartRoom room = room(17);
        room.put(0, 0, 99);
        room.put(0, 16, -99);
        due.same("between both", room.wire(0, 0, 0, 0, 0, 1), 0);
        due.same("with the first", room.wire(0, 0, 0, 0, 0, 0), OUTSIDE);
        due.same("with the last", room.wire(0, 0, 0, 0, 0, 2), OUTSIDE);
    }

    /** "WIRES, 30 ever" */
    static void promise05_words2_theThirtyFirstIsFull(Due due) {
        ChartRoom room = room(15);
        for (int w = 0; w < 30; w++) {
            due.same("the " + w, room.wire(0, 0, 0, 0, 0, 0), w);
        }
        due.same("one more", room.wire(0, 0, 0, 0, 0, 0), FULL);
        due.same("no fault", room.fault(), 0);
        due.same("thirty", room.many(1), 30);
        due.same("the last stands", room.told(29, 0), 0);
        due.same("there is no further one", room.told(30, 0), UNKNOWN);
    }

    /** "numbered as they come" */
    static void promise05_words2_aRefusedOneTakesNoNumber(Due due) {
        ChartRoom room = room(15);
        due.same("the first", room.wire(0, 0, 0, 0, 0, 0), 0);
        due.same("refused", room.wire(0, 100, 0, 0, 0, 0), OUTSIDE);
        due.same("a fault", room.wire(0, 0, 0, 0, 0, 1), INDEX);
        due.same("the second", room.wire(0, 0, 0, 0, 0, 0), 1);
    }

    static void promise05_eachRefusalInItsOrder(Due due) {
        ChartRoom room = room(15);
        room.sheet(1, 0, 14);
        room.put(1, 0, 77);
        due.same("sheet ahead of lane", room.wire(0, 0, 0, 4, 3, 0), UNKNOWN);
        due.same("post ahead of hour", room.wire(1, 100, 0, 0, 0, 0), UNKNOWN);
        due.same("lane ahead of null", room.wire(0, 0, 0, 2, 3, 0), OUTSIDE);
        due.same("hour ahead of cast", room.wire(0, 100, 0, 0, 1, 0), OUTSIDE);
        due.same("came ahead of index", room.wire(0, 0, 100, 0, 0, 1), OUTSIDE);
        due.same("cast ahead of index", room.wire(0, 0, 0, 0, 1, 1), CAST);
        due.same("null ahead of index", room.wire(0, 0, 0, 2, 1, -1), NULL);
        due.same("index ahead of a cell", room.wire(0, 0, 0, 1, 0, 0), INDEX);
        due.same("cast ahead of a cell", room.wire(0, 0, 0, 1, 2, 0), CAST);
        for (int w = 0; w < 30; w++) {
            room.wire(0, 0, 0, 0, 0, 0);
        }
        due.same("index ahead of full", room.wire(0, 0, 0, 0, 0, 1), INDEX);
        due.same("null ahead of full", room.wire(0, 0, 0, 2, 0, 0), NULL);
        due.same("hour ahead of full", room.wire(0, -1, 0, 0, 0, 0), OUTSIDE);
        due.same("post ahead of full", room.wire(-1, 0, 0, 0, 0, 0), UNKNOWN);
        room.put(0, 14, 10);
        due.same("a cell ahead of full", room.wire(0, 0, 0, 0, 0, 0), OUTSIDE);
    }

    // ---- 6: "Of a WIRE: 0 POST, 1 HOUR, 2 CAME, 3 whether it is IN VIEW (1, 0). UNKNOWN; OUTSIDE."

    static void promise06_unknownWires(Due due) {
        ChartRoom room = room(15);
        due.same("there is none", room.told(0, 0), UNKNOWN);
        room.wire(0, 0, 0, 0, 0, 0);
        due.same("the first", room.told(0, 0), 0);
        due.same("one too many", room.told(1, 0), UNKNOWN);
        due.same("below", room.told(-1, 0), UNKNOWN);
        due.same("far above", room.told(MOST, 0), UNKNOWN);
    }

    static void promise06_whatIs0To3(Due due) {
        ChartRoom room = roomOf(Rooms.RIGHT);
        due.same("0", room.told(0, 0), 0);
        due.same("3", room.told(0, 3), 1);
        due.same("above", room.told(0, 4), OUTSIDE);
        due.same("below", room.told(0, -1), OUTSIDE);
        due.same("far below", room.told(0, LEAST), OUTSIDE);
    }

    static void promise06_unknownIsAheadOfOutside(Due due) {
        due.same("both", room(0).told(0, 4), UNKNOWN);
    }

    static void promise06_onlyOneOfAPostsWiresIsInView(Due due) {
        ChartRoom room = roomOf(Rooms.RIGHT);
        Rooms.press(room, 0, "02530");
        due.same("the earlier", room.told(0, 3), 0);
        due.same("the later", room.told(1, 3), 1);
    }

    // ---- 7: "A digit of a WIRE (-1: garbled; told as NONE). UNKNOWN: WIRE; OUTSIDE: group, digit (0 .. 4)."

    static void promise07_unknownWires(Due due) {
        ChartRoom room = roomOf(Rooms.RIGHT);
        due.same("one too many", room.digit(1, 0, 0), UNKNOWN);
        due.same("below", room.digit(-1, 0, 0), UNKNOWN);
        due.same("far below", room.digit(LEAST, 0, 0), UNKNOWN);
    }

    static void promise07_groupIs0To2(Due due) {
        ChartRoom room = roomOf("091240253012342");
        due.same("0", room.digit(0, 0, 1), 9);
        due.same("2", room.digit(0, 2, 4), 2);
        due.same("above", room.digit(0, 3, 0), OUTSIDE);
        due.same("below", room.digit(0, -1, 0), OUTSIDE);
        due.same("below, though a digit would be there", room.digit(0, -1, 4), OUTSIDE);
        due.same("far above", room.digit(0, MOST, 0), OUTSIDE);
    }

    static void promise07_digitIs0To4(Due due) {
        ChartRoom room = roomOf("191240253012342");
        due.same("0", room.digit(0, 0, 0), 1);
        due.same("4", room.digit(0, 0, 4), 4);
        due.same("above", room.digit(0, 0, 5), OUTSIDE);
        due.same("below", room.digit(0, 1, -1), OUTSIDE);
        due.same("far below", room.digit(0, 0, LEAST), OUTSIDE);
    }

    static void promise07_unknownIsAheadOfOutside(Due due) {
        due.same("group", room(0).digit(0, 3, 0), UNKNOWN);
        due.same("digit", room(0).digit(0, 0, 5), UNKNOWN);
    }

    static void promise07_aGarbledDigitIsNone(Due due) {
        ChartRoom room = roomOf(".9124 0253. 90000");
        due.same("the first", room.digit(0, 0, 0), NONE);
        due.same("one in the middle", room.digit(0, 1, 4), NONE);
        due.same("a nine is a nine", room.digit(0, 2, 0), 9);
        due.same("a zero is a zero", room.digit(0, 2, 4), 0);
    }

    // ---- 8: "How many READINGS a GROUP has. UNKNOWN; OUTSIDE."

    static void promise08_unknownWires(Due due) {
        ChartRoom room = roomOf(Rooms.RIGHT);
        due.same("the first", room.readings(0, 0), 1);
        due.same("one too many", room.readings(1, 0), UNKNOWN);
        due.same("below", room.readings(-1, 0), UNKNOWN);
    }

    static void promise08_groupIs0To2(Due due) {
        ChartRoom room = roomOf(Rooms.RIGHT);
        due.same("2", room.readings(0, 2), 1);
        due.same("above", room.readings(0, 3), OUTSIDE);
        due.same("below", room.readings(0, -1), OUTSIDE);
        due.same("far above", room.readings(0, MOST), OUTSIDE);
        due.same("unknown is ahead of it", room.readings(1, 3), UNKNOWN);
    }

    /** "c is the rest by 10 of the first, three times the second, the third, three times the fourth" */
    static void promise08_words2_theCheckIsARestBy10(Due due) {
        due.same("sum 0", roomOf("00000 00000 00000").readings(0, 1), 1);
        due.same("sum 9", roomOf("00000 90009 00000").readings(0, 1), 1);
        due.same("sum 10 is 0", roomOf("00000 13000 00000").readings(0, 1), 1);
        due.same("sum 72 is 2", roomOf("00000 99992 00000").readings(0, 1), 1);
        due.same("one above", roomOf("00000 99993 00000").readings(0, 1), 0);
        due.same("one below", roomOf("00000 99991 00000").readings(0, 1), 0);
        due.same("the first counts once", roomOf("00000 10001 00000").readings(0, 1), 1);
        due.same("the second three times", roomOf("00000 01003 00000").readings(0, 1), 1);
        due.same("the third once", roomOf("00000 00101 00000").readings(0, 1), 1);
        due.same("the fourth three times", roomOf("00000 00013 00000").readings(0, 1), 1);
    }

    /** "of WIND d d is 36 at most" */
    static void promise08_words2_windIs36AtMost(Due due) {
        due.same("36", roomOf("36992 00000 00000").readings(0, 0), 0);
        due.same("36 with its check", roomOf("36997 00000 00000").readings(0, 0), 1);
        due.same("37 with its check", roomOf("37004 00000 00000").readings(0, 0), 0);
        due.same("99 with its check", roomOf("99006 00000 00000").readings(0, 0), 0);
        due.same("37 of a PRESS", roomOf("00000 37004 00000").readings(0, 1), 1);
        due.same("99 of a HEAT", roomOf("00000 00000 99006").readings(0, 2), 1);
        due.same("3., garbled", roomOf("3.00. 00000 00000").readings(0, 0), 7);
        due.same(".7, garbled", roomOf(".700. 00000 00000").readings(0, 0), 3);
        due.same("4., garbled", roomOf("4.00. 00000 00000").readings(0, 0), 0);
    }

    /** "READINGS of a GROUP: all RIGHT ones that have its digits where it has any": it has none. */
    static void promise08_words2_allDigitsGarbled(Due due) {
        ChartRoom room = roomOf("..... ..... .....");
        due.same("WIND", room.readings(0, 0), 3700);
        due.same("PRESS", room.readings(0, 1), 10000);
        due.same("HEAT", room.readings(0, 2), 10000);
    }

    /** It has all: one READING, or none. */
    static void promise08_words2_noDigitGarbled(Due due) {
        ChartRoom room = roomOf("09124 02531 12342");
        due.same("right", room.readings(0, 0), 1);
        due.same("not right", room.readings(0, 1), 0);
    }

    static void promise08_words2_oneDigitGarbled(Due due) {
        due.same("the first", roomOf("00000 .2530 00000").readings(0, 1), 1);
        due.same("the second", roomOf("00000 0.530 00000").readings(0, 1), 1);
        due.same("the third", roomOf("00000 02.30 00000").readings(0, 1), 1);
        due.same("the fourth", roomOf("00000 025.0 00000").readings(0, 1), 1);
        due.same("the check", roomOf("00000 0253. 00000").readings(0, 1), 1);
        due.same("all but the check", roomOf("00000 ....0 00000").readings(0, 1), 1000);
    }

    // ---- 9: "The i-th READING. UNKNOWN: WIRE, i below 0; OUTSIDE: group; UNKNOWN: i (the group has not so many)."

    static void promise09_unknownWires(Due due) {
        ChartRoom room = roomOf(Rooms.RIGHT);
        due.same("the first", room.reading(0, 0, 0), 9124);
        due.same("one too many", room.reading(1, 0, 0), UNKNOWN);
        due.same("below", room.reading(-1, 0, 0), UNKNOWN);
    }

    static void promise09_iBelow0IsUnknown(Due due) {
        ChartRoom room = roomOf(Rooms.RIGHT);
        due.same("-1", room.reading(0, 0, -1), UNKNOWN);
        due.same("far below", room.reading(0, 0, LEAST), UNKNOWN);
    }

    static void promise09_groupIs0To2(Due due) {
        ChartRoom room = roomOf(Rooms.RIGHT);
        due.same("2", room.reading(0, 2, 0), 12342);
        due.same("above", room.reading(0, 3, 0), OUTSIDE);
        due.same("below", room.reading(0, -1, 0), OUTSIDE);
        due.same("far below", room.reading(0, LEAST, 0), OUTSIDE);
    }

    static void promise09_theGroupHasNotSoMany(Due due) {
        ChartRoom room = roomOf("09124 ..530 12343");
        due.same("the last of ten", room.reading(0, 1, 9), 99530);
        due.same("the eleventh", room.reading(0, 1, 10), UNKNOWN);
        due.same("of one the second", room.reading(0, 0, 1), UNKNOWN);
        due.same("of none the first", room.reading(0, 2, 0), UNKNOWN);
        due.same("far above", room.reading(0, 1, MOST), UNKNOWN);
    }

    static void promise09_theLastOfAllReadings(Due due) {
        ChartRoom room = roomOf("..... ..... .....");
        due.same("WIND", room.reading(0, 0, 3699), 36997);
        due.same("one more", room.reading(0, 0, 3700), UNKNOWN);
        due.same("PRESS", room.reading(0, 1, 9999), 99992);
        due.same("one more", room.reading(0, 1, 10000), UNKNOWN);
        due.same("the first of all", room.reading(0, 2, 0), 0);
    }

    static void promise09_eachRefusalInItsOrder(Due due) {
        ChartRoom room = roomOf(Rooms.RIGHT);
        due.same("wire ahead of group", room.reading(1, 3, 0), UNKNOWN);
        due.same("i below 0 ahead of group", room.reading(0, 3, -1), UNKNOWN);
        due.same("group ahead of too great an i", room.reading(0, 3, 1), OUTSIDE);
    }

    /** "in order as numbers of five digits" */
    static void promise09_words2_inOrder(Due due) {
        ChartRoom room = roomOf("00000 .2.3. 00000");
        int last = -1;
        for (int i = 0; i < 100; i++) {
            int reading = room.reading(0, 1, i);
            due.holds("the " + i + ", " + reading + ", is above " + last, reading > last);
            last = reading;
        }
        due.same("there are no more", room.reading(0, 1, 100), UNKNOWN);
    }

    // ---- 10: "THE VIEW becomes h, k: how many WIRES are IN VIEW. OUTSIDE."

    static void promise10_words2_hIs0To99(Due due) {
        ChartRoom room = new ChartRoom();
        due.same("99", room.view(99, 0), 0);
        due.same("it is 99", room.many(6), 99);
        due.same("above", room.view(100, 0), OUTSIDE);
        due.same("below", room.view(-1, 0), OUTSIDE);
        due.same("far below", room.view(LEAST, 0), OUTSIDE);
        due.same("it stays", room.many(6), 99);
        due.same("0", room.view(0, 0), 0);
        due.same("it is 0", room.many(6), 0);
    }

    static void promise10_words2_kIs0To99(Due due) {
        ChartRoom room = new ChartRoom();
        due.same("0", room.view(0, 0), 0);
        due.same("it is 0", room.many(7), 0);
        due.same("above", room.view(0, 100), OUTSIDE);
        due.same("below", room.view(0, -1), OUTSIDE);
        due.same("far above", room.view(0, MOST), OUTSIDE);
        due.same("it stays", room.many(7), 0);
        due.same("99", room.view(0, 99), 0);
        due.same("it is 99", room.many(7), 99);
    }

    static void promise10_refusedByOneNeitherChanges(Due due) {
        ChartRoom room = new ChartRoom();
        room.view(5, 6);
        room.view(7, 100);
        room.view(100, 8);
        due.same("h", room.many(6), 5);
        due.same("k", room.many(7), 6);
    }

    /** "that CAME at k or ahead" */
    static void promise10_words2_whatCameAtKCounts(Due due) {
        ChartRoom room = new ChartRoom();
        room.post(0, 0, 0, 0, 0, 0);
        Rooms.wire(room, 0, 3, 7, Rooms.RIGHT);
        due.same("known at 7", room.view(3, 7), 1);
        due.same("known at 6", room.view(3, 6), 0);
        due.same("known at 8", room.view(3, 8), 1);
        due.same("of another hour", room.view(2, 99), 0);
    }

    /** "the one that CAME last (of several the greatest number)" */
    static void promise10_words2_ofSeveralTheGreatestNumber(Due due) {
        ChartRoom room = new ChartRoom();
        room.post(0, 0, 0, 0, 0, 0);
        Rooms.wire(room, 0, 0, 5, Rooms.RIGHT);
        Rooms.wire(room, 0, 0, 5, Rooms.RIGHT);
        Rooms.wire(room, 0, 0, 4, Rooms.RIGHT);
        due.same("the second of both that came at 5", room.about(0, 5), 1);
        room.view(0, 4);
        due.same("known at 4", room.about(0, 5), 2);
    }

    /** "if its PRESS has a READING": it is not asked whether another's has. */
    static void promise10_words2_anUnreadableLastOneLeavesNone(Due due) {
        ChartRoom room = new ChartRoom();
        room.post(0, 0, 0, 0, 0, 0);
        Rooms.wire(room, 0, 0, 1, Rooms.RIGHT);
        due.same("one", room.view(0, 99), 1);
        Rooms.wire(room, 0, 0, 1, "091240253112342");
        due.same("as late, of the greater number, without a reading", room.view(0, 99), 0);
        Rooms.wire(room, 0, 0, 2, "990060253012340");
        due.same("only PRESS is asked for", room.view(0, 99), 1);
    }

    /** "of each POST that is on THE CHART at h" */
    static void promise10_words2_offTheChartNoneIsInView(Due due) {
        ChartRoom room = new ChartRoom();
        room.post(1, 11, 11, 0, 1, 0);
        room.sheet(0, 0, 15);
        room.wire(0, 9, 0, 0, 0, 0);
        room.wire(0, 10, 0, 0, 0, 0);
        due.same("at 9 it is on the edge", room.view(9, 99), 1);
        due.same("at 10 it is beyond", room.view(10, 99), 0);
    }

    static void promise10_allTwelvePostsInView(Due due) {
        ChartRoom room = new ChartRoom();
        room.sheet(0, 0, 15);
        for (int p = 0; p < 12; p++) {
            room.post(p % 3, p, p, 0, 0, 0);
            room.wire(p, 99, 99, 0, 0, 0);
        }
        due.same("known at 99", room.view(99, 99), 12);
        due.same("known at 98", room.view(99, 98), 0);
    }

    // ---- 11: "GUESS for a WIRE. UNKNOWN; STATE: its POST is not on THE CHART at h."

    static void promise11_unknownWires(Due due) {
        ChartRoom room = roomOf(Rooms.RIGHT);
        due.same("the first", room.guess(0), 10000);
        due.same("one too many", room.guess(1), UNKNOWN);
        due.same("below", room.guess(-1), UNKNOWN);
        due.same("far above", room.guess(MOST), UNKNOWN);
    }

    /** A ship that is on the chart at 0 and off it at 1, with a wire for each hour. */
    private static ChartRoom roomOfShip() {
        ChartRoom room = new ChartRoom();
        room.post(1, 0, 0, 0, -1, 0);
        Rooms.wire(room, 0, 0, 0, Rooms.RIGHT);
        Rooms.wire(room, 0, 1, 0, Rooms.RIGHT);
        return room;
    }

    static void promise11_offTheChartIsState(Due due) {
        ChartRoom room = roomOfShip();
        due.same("at 0", room.guess(0), 10000);
        due.same("at 0, of the wire for 1", room.guess(1), 10000);
        room.view(1, 99);
        due.same("at 1, of the wire for 0", room.guess(0), STATE);
        due.same("at 1", room.guess(1), STATE);
        due.same("unknown is ahead of it", room.guess(2), UNKNOWN);
    }

    static void promise11_aWireWithoutReadingHasAGuess(Due due) {
        due.same("of a wrong check", roomOf("09124 02531 12342").guess(0), 10000);
    }

    /** "none: 10000" */
    static void promise11_words2_noneIs10000(Due due) {
        ChartRoom room = roomOf(Rooms.RIGHT);
        due.same("its own does not count", room.guess(0), 10000);
        room.post(0, 5, 6, 0, 0, 0);
        Rooms.wire(room, 1, 1, 0, Rooms.RIGHT);
        due.same("one that is not in view does not count", room.guess(0), 10000);
        Rooms.press(room, 1, "..530");
        due.same("one with more than one reading does not count", room.guess(0), 10000);
    }

    static void promise11_words2_whatIsNoMoreInViewDoesNotCount(Due due) {
        ChartRoom room = new ChartRoom();
        Rooms.postAt(room, 5, 5, 9900);
        Rooms.postAt(room, 5, 6, 9950);
        due.same("of the second, both in view", room.guess(1), 9900);
        due.same("of the first, both in view", room.guess(0), 9950);
        room.view(1, 99);
        due.same("of the second, at another hour", room.guess(1), 10000);
        due.same("of the first, at another hour", room.guess(0), 10000);
        room.view(0, 99);
        Rooms.press(room, 0, "02531");
        due.same("of the second, the first put wrong by a later one", room.guess(1), 10000);
    }

    /** "the three nearest to it (.. fewer, if there are no three)" */
    static void promise11_words2_fewerThanThree(Due due) {
        ChartRoom room = roomOf(Rooms.RIGHT);
        Rooms.postAt(room, 6, 5, 9900);
        due.same("one", room.guess(0), 9900);
        Rooms.postAt(room, 11, 11, 10000);
        due.same("two", room.guess(0), 9950);
    }

    static void promise11_words2_moreThanThree(Due due) {
        ChartRoom room = roomOf(Rooms.RIGHT);
        Rooms.postAt(room, 11, 11, 9500);
        Rooms.postAt(room, 6, 5, 10003);
        Rooms.postAt(room, 5, 6, 10006);
        due.same("three", room.guess(0), 9836);
        Rooms.postAt(room, 5, 4, 10009);
        due.same("of four the farthest is left out", room.guess(0), 10006);
    }

    /** "(by FAR at h; then the least POST ..)" */
    static void promise11_words2_ofSeveralAsFarTheLeastPost(Due due) {
        ChartRoom room = roomOf(Rooms.RIGHT);
        Rooms.postAt(room, 5, 6, 10010);
        Rooms.postAt(room, 6, 5, 10020);
        Rooms.postAt(room, 4, 5, 10030);
        Rooms.postAt(room, 5, 4, 10400);
        due.same("the fourth is left out", room.guess(0), 10020);
    }

    static void promise11_words2_farIsTheSumOfSquares(Due due) {
        ChartRoom room = roomOf(Rooms.RIGHT);
        Rooms.postAt(room, 7, 7, 10400);
        Rooms.postAt(room, 5, 7, 10010);
        Rooms.postAt(room, 7, 5, 10020);
        Rooms.postAt(room, 5, 3, 10030);
        due.same("two steps aslant are farther than two along", room.guess(0), 10020);
    }

    /** "Quotients are cut down" */
    static void promise11_words_theQuotientIsCutDown(Due due) {
        ChartRoom room = roomOf(Rooms.RIGHT);
        Rooms.postAt(room, 5, 6, 10000);
        Rooms.postAt(room, 6, 5, 10001);
        due.same("20001 by 2", room.guess(0), 10000);
        Rooms.postAt(room, 4, 5, 10001);
        due.same("30002 by 3", room.guess(0), 10000);
    }

    // ---- 12: "PRESS of a WIRE as MENDED, as a number of five digits. UNKNOWN; STATE: as guess(), or it has no READING."

    static void promise12_unknownWires(Due due) {
        ChartRoom room = roomOf(Rooms.RIGHT);
        due.same("the first", room.mended(0), 2530);
        due.same("one too many", room.mended(1), UNKNOWN);
        due.same("below", room.mended(-1), UNKNOWN);
    }

    static void promise12_offTheChartIsState(Due due) {
        ChartRoom room = roomOfShip();
        due.same("at 0", room.mended(1), 2530);
        room.view(1, 99);
        due.same("at 1", room.mended(1), STATE);
    }

    static void promise12_noReadingIsState(Due due) {
        due.same("a wrong check", roomOf("09124 02531 12342").mended(0), STATE);
        due.same("a wrong wind is no matter", roomOf("99006 02530 12343").mended(0), 2530);
    }

    static void promise12_oneReadingStaysHoweverFarFromTheGuess(Due due) {
        ChartRoom room = roomOf("09124 49900 00000");
        room.post(0, 5, 5, 0, 0, 0);
        Rooms.press(room, 1, Rooms.pressOf(9500));
        due.same("the guess", room.guess(1), 10499);
        due.same("it is as it came", room.mended(1), Integer.parseInt(Rooms.pressOf(9500)));
    }

    /** "the one whose LEVEL is nearest to GUESS; of several the least" */
    static void promise12_words2_ofSeveralAsNearTheLeast(Due due) {
        due.same("9995 and 10005 to 10000", roomOf("00000 ..5.. 00000").mended(0), 505);
        due.same("of one LEVEL", roomOf("00000 025.. 00000").mended(0), 2501);
        due.same("all garbled", roomOf("00000 ..... 00000").mended(0), 0);
    }

    static void promise12_words2_nearestIsOnePointNearer(Due due) {
        ChartRoom room = roomOf("00000 ..5.. 00000");
        Rooms.postAt(room, 5, 6, 9999);
        due.same("9995 is nearer to 9999 than 10005", room.mended(0), 99501);
    }

    // ---- 13: "LEVEL of a WIRE as MENDED. UNKNOWN; STATE: as mended()."

    static void promise13_unknownWires(Due due) {
        ChartRoom room = roomOf(Rooms.RIGHT);
        due.same("the first", room.level(0), 10025);
        due.same("one too many", room.level(1), UNKNOWN);
        due.same("below", room.level(-1), UNKNOWN);
    }

    static void promise13_offTheChartIsState(Due due) {
        ChartRoom room = roomOfShip();
        due.same("at 0", room.level(1), 10025);
        room.view(1, 99);
        due.same("at 1", room.level(1), STATE);
    }

    static void promise13_noReadingIsState(Due due) {
        due.same("a wrong check", roomOf("09124 02531 12342").level(0), STATE);
    }

    private static int levelOf(int height, String press) {
        ChartRoom room = new ChartRoom();
        room.post(0, 0, 0, height, 0, 0);
        Rooms.press(room, 0, press);
        return room.level(0);
    }

    /** "p p p and 10000, if it is below 500, else p p p and 9000" */
    static void promise13_words2_below500Is10000More(Due due) {
        due.same("000", levelOf(0, Rooms.pressOf(0)), 10000);
        due.same("499", levelOf(0, Rooms.pressOf(499)), 10499);
        due.same("500", levelOf(0, Rooms.pressOf(500)), 9500);
        due.same("999", levelOf(0, Rooms.pressOf(999)), 9999);
    }

    /** "LEVEL: PRESSURE and HEIGHT times 12 by 100" */
    static void promise13_words2_heightTimes12By100IsCutDown(Due due) {
        String press = Rooms.pressOf(10000);
        int[][] heights = {{0, 0}, {8, 0}, {9, 1}, {16, 1}, {17, 2}, {25, 3}, {2999, 359}, {3000, 360}};
        for (int[] height : heights) {
            due.same("height " + height[0], levelOf(height[0], press), 10000 + height[1]);
        }
    }
}
