/** Promises 30 to 40, and the words on sheets, faults and bodies, at their edges. */
public final class Edges6SheetsTest {
    private static final int MOST = Integer.MAX_VALUE, LEAST = Integer.MIN_VALUE;
    private static final int UNKNOWN = -1, OUTSIDE = -2;
    private static final int NULL = -11, CAST = -12, INDEX = -13, SIZE = -14;
    private static final long LOST = Long.MIN_VALUE;

    public static void main(String[] args) throws ReflectiveOperationException {
        Edges.run(Edges6SheetsTest.class);
    }

    // ---- 30: "A SHEET gets a new row: 1. UNKNOWN; OUTSIDE: lane, n above 60; SIZE."

    /** "SHEETS 0 .. 3" */
    static void promise30_words6_sheetsAre0To3(Due due) {
        ChartRoom room = new ChartRoom();
        due.same("0", room.sheet(0, 0, 1), 1);
        due.same("3", room.sheet(3, 0, 1), 1);
        due.same("above", room.sheet(4, 0, 1), UNKNOWN);
        due.same("below", room.sheet(-1, 0, 1), UNKNOWN);
        due.same("far above", room.sheet(MOST, 0, 1), UNKNOWN);
    }

    /** "of a LANE: 0 bytes, 1 shorts, 2 ints" */
    static void promise30_words6_lanesAre0To2(Due due) {
        ChartRoom room = new ChartRoom();
        due.same("0", room.sheet(0, 0, 1), 1);
        due.same("2", room.sheet(0, 2, 1), 1);
        due.same("above", room.sheet(0, 3, 1), OUTSIDE);
        due.same("below", room.sheet(0, -1, 1), OUTSIDE);
        due.same("it has its ints still", room.cell(0, 0, 2), 0);
    }

    /** "a row of 0 .. 60 numbers" */
    static void promise30_words6_aRowHas60AtMost(Due due) {
        ChartRoom room = new ChartRoom();
        due.same("60", room.sheet(0, 2, 60), 1);
        due.same("its last", room.put(0, 59, 7), 1);
        due.same("61", room.sheet(0, 2, 61), OUTSIDE);
        due.same("far above", room.sheet(0, 2, MOST), OUTSIDE);
        due.same("refused, it stays", room.cell(0, 59, 2), 7);
        due.same("no fault", room.fault(), 0);
    }

    static void promise30_words6_aRowOfNoCells(Due due) {
        ChartRoom room = new ChartRoom();
        due.same("0", room.sheet(0, 2, 0), 1);
        due.same("no cell can be put", room.put(0, 0, 1), INDEX);
        due.same("none can be told", room.cell(0, 0, 2), LOST);
        due.same("for its index", room.fault(), 3);
        due.same("another lane is a cast", room.cell(0, 0, 1), LOST);
        due.same("as of any row", room.fault(), 2);
        due.same("it is a row", room.lose(0), 1);
    }

    /** "SIZE (a length below 0)" */
    static void promise30_nBelow0IsSize(Due due) {
        ChartRoom room = new ChartRoom();
        room.sheet(0, 1, 2);
        room.put(0, 1, 5);
        due.same("-1", room.sheet(0, 2, -1), SIZE);
        due.same("its fault", room.fault(), 4);
        due.same("the least", room.sheet(0, 2, LEAST), SIZE);
        due.same("it has its row still", room.cell(0, 1, 1), 5);
        due.same("a sheet that had nothing", room.sheet(1, 0, -1), SIZE);
        due.same("has nothing still", room.lose(1), 0);
    }

    static void promise30_eachRefusalInItsOrder(Due due) {
        ChartRoom room = new ChartRoom();
        due.same("unknown ahead of lane", room.sheet(4, 3, 1), UNKNOWN);
        due.same("unknown ahead of n", room.sheet(-1, 0, 61), UNKNOWN);
        due.same("unknown ahead of size", room.sheet(4, 0, -1), UNKNOWN);
        due.same("lane ahead of size", room.sheet(0, 3, -1), OUTSIDE);
        due.same("no fault", room.fault(), 0);
    }

    /** "(0 at first)": a new row has nothing of the one before it. */
    static void promise30_words6_aNewRowIs0Again(Due due) {
        ChartRoom room = new ChartRoom();
        Rooms.fill(room, 0, 2, 7, 8, 9);
        room.sheet(0, 2, 1);
        due.same("shorter: its cell", room.cell(0, 0, 2), 0);
        due.same("shorter: no second one", room.cell(0, 1, 2), LOST);
        room.sheet(0, 2, 3);
        for (int i = 0; i < 3; i++) {
            due.same("as long again: cell " + i, room.cell(0, i, 2), 0);
        }
        room.put(0, 2, 9);
        room.lose(0);
        room.sheet(0, 2, 3);
        due.same("after it was lost", room.cell(0, 2, 2), 0);
    }

    // ---- 31: "A SHEET has nothing: 1; 0: it had nothing. UNKNOWN."

    static void promise31_unknownSheets(Due due) {
        ChartRoom room = new ChartRoom();
        due.same("above", room.lose(4), UNKNOWN);
        due.same("below", room.lose(-1), UNKNOWN);
        due.same("far below", room.lose(LEAST), UNKNOWN);
        due.same("the last", room.lose(3), 0);
    }

    static void promise31_itHadNothingIs0(Due due) {
        ChartRoom room = new ChartRoom();
        due.same("at first", room.lose(0), 0);
        room.sheet(0, 0, 0);
        due.same("a row of no cells is not nothing", room.lose(0), 1);
        due.same("lost already", room.lose(0), 0);
        due.same("nothing has no cells", room.put(0, 0, 0), NULL);
    }

    // ---- 32: "Cell i of a SHEET becomes v: 1. UNKNOWN; NULL; INDEX."

    static void promise32_unknownSheets(Due due) {
        ChartRoom room = new ChartRoom();
        room.sheet(3, 0, 1);
        due.same("the last", room.put(3, 0, 1), 1);
        due.same("above", room.put(4, 0, 1), UNKNOWN);
        due.same("below", room.put(-1, 0, 1), UNKNOWN);
        due.same("far above", room.put(MOST, 0, 1), UNKNOWN);
        due.same("no fault", room.fault(), 0);
    }

    static void promise32_nothingIsNull(Due due) {
        ChartRoom room = new ChartRoom();
        due.same("nothing", room.put(0, 0, 1), NULL);
        due.same("its fault", room.fault(), 1);
        due.same("ahead of index", room.put(0, -1, 1), NULL);
        due.same("unknown is ahead of it", room.put(4, 0, 1), UNKNOWN);
    }

    static void promise32_indexBelow0OrBeyond(Due due) {
        ChartRoom room = new ChartRoom();
        room.sheet(0, 0, 3);
        due.same("the first", room.put(0, 0, 1), 1);
        due.same("the last", room.put(0, 2, 1), 1);
        due.same("beyond", room.put(0, 3, 1), INDEX);
        due.same("its fault", room.fault(), 3);
        due.same("below", room.put(0, -1, 1), INDEX);
        due.same("beyond, though a longer row had it", room.put(0, 59, 1), INDEX);
        due.same("far above", room.put(0, MOST, 1), INDEX);
        due.same("far below", room.put(0, LEAST, 1), INDEX);
    }

    private static long cut(int lane, int v) {
        ChartRoom room = new ChartRoom();
        room.sheet(0, lane, 1);
        room.put(0, 0, v);
        return room.cell(0, 0, lane);
    }

    /** "what comes to a cell of it is cut to its LANE" */
    static void promise32_words6_bytesAreCut(Due due) {
        int[][] cuts = {{127, 127}, {128, -128}, {-128, -128}, {-129, 127}, {255, -1}, {256, 0}, {-256, 0}, {MOST, -1}, {LEAST, 0}};
        for (int[] one : cuts) {
            due.same("a byte of " + one[0], cut(0, one[0]), one[1]);
        }
    }

    static void promise32_words6_shortsAreCut(Due due) {
        int[][] cuts = {{32767, 32767}, {32768, -32768}, {-32768, -32768}, {-32769, 32767}, {65535, -1}, {65536, 0}, {MOST, -1}, {LEAST, 0}};
        for (int[] one : cuts) {
            due.same("a short of " + one[0], cut(1, one[0]), one[1]);
        }
    }

    static void promise32_words6_intsStay(Due due) {
        int[] all = {0, -1, 32768, -32769, MOST, LEAST};
        for (int v : all) {
            due.same("an int of " + v, cut(2, v), v);
        }
    }

    // ---- 33: "Cell i of what a SHEET has, taken as a row of a LANE. LOST: UNKNOWN, OUTSIDE: lane; FAULTS CAST, NULL, INDEX."

    private static void lost(Due due, String what, ChartRoom room, long answer, int fault) {
        due.same(what, answer, LOST);
        due.same(what + ": its fault", room.fault(), fault);
    }

    static void promise33_unknownSheets(Due due) {
        ChartRoom room = new ChartRoom();
        room.sheet(3, 0, 1);
        due.same("the last", room.cell(3, 0, 0), 0);
        room.cell(0, 0, 0);
        lost(due, "above", room, room.cell(4, 0, 0), 0);
        room.cell(0, 0, 0);
        lost(due, "below", room, room.cell(-1, 0, 0), 0);
    }

    static void promise33_laneIs0To2(Due due) {
        ChartRoom room = new ChartRoom();
        room.sheet(0, 2, 1);
        due.same("2", room.cell(0, 0, 2), 0);
        room.cell(1, 0, 0);
        lost(due, "above", room, room.cell(0, 0, 3), 0);
        room.cell(1, 0, 0);
        lost(due, "below", room, room.cell(0, 0, -1), 0);
        room.cell(1, 0, 0);
        lost(due, "above, of nothing", room, room.cell(1, 0, 3), 0);
    }

    static void promise33_castAheadOfIndex(Due due) {
        ChartRoom room = new ChartRoom();
        room.sheet(0, 1, 2);
        lost(due, "cast", room, room.cell(0, 0, 0), 2);
        lost(due, "cast, beyond the row, too", room, room.cell(0, 2, 2), 2);
        due.same("as it is", room.cell(0, 0, 1), 0);
        due.same("no fault then", room.fault(), 0);
    }

    static void promise33_nothingIsNullAheadOfIndex(Due due) {
        ChartRoom room = new ChartRoom();
        for (int lane = 0; lane < 3; lane++) {
            lost(due, "as " + lane, room, room.cell(0, 0, lane), 1);
            lost(due, "below, as " + lane, room, room.cell(0, -1, lane), 1);
        }
    }

    static void promise33_indexBelow0OrBeyond(Due due) {
        ChartRoom room = new ChartRoom();
        Rooms.fill(room, 0, 0, 5, 6, 7);
        due.same("the first", room.cell(0, 0, 0), 5);
        due.same("the last", room.cell(0, 2, 0), 7);
        lost(due, "beyond", room, room.cell(0, 3, 0), 3);
        lost(due, "below", room, room.cell(0, -1, 0), 3);
        lost(due, "far above", room, room.cell(0, MOST, 0), 3);
        lost(due, "far below", room, room.cell(0, LEAST, 0), 3);
    }

    // ---- 34: "n cells of a SHEET from i on go to another one. UNKNOWN; FAULTS NULL (the first, the other), CAST, INDEX."

    /** Sheets 0 and 1: five and three bytes; 2: five shorts; 3: nothing. */
    private static ChartRoom roomOfRows() {
        ChartRoom room = new ChartRoom();
        Rooms.fill(room, 0, 0, 1, 2, 3, 4, 5);
        Rooms.fill(room, 1, 0, 6, 7, 8);
        Rooms.fill(room, 2, 1, 9, 9, 9, 9, 9);
        return room;
    }

    private static void row(Due due, String what, ChartRoom room, int k, int... cells) {
        for (int i = 0; i < cells.length; i++) {
            due.same(what + ", cell " + i, room.cell(k, i, 0), cells[i]);
        }
    }

    static void promise34_unknownSheets(Due due) {
        ChartRoom room = roomOfRows();
        due.same("the first above", room.copy(4, 0, 0, 0, 1), UNKNOWN);
        due.same("the first below", room.copy(-1, 0, 0, 0, 1), UNKNOWN);
        due.same("the other above", room.copy(0, 0, 4, 0, 1), UNKNOWN);
        due.same("the other below", room.copy(0, 0, -1, 0, 1), UNKNOWN);
        due.same("no fault", room.fault(), 0);
        due.same("the other ahead of null", room.copy(3, 0, 4, 0, 1), UNKNOWN);
        due.same("ahead of index", room.copy(0, -1, 4, 0, 1), UNKNOWN);
    }

    static void promise34_nothingIsNull(Due due) {
        ChartRoom room = roomOfRows();
        due.same("the first", room.copy(3, 0, 0, 0, 0), NULL);
        due.same("its fault", room.fault(), 1);
        due.same("the other", room.copy(0, 0, 3, 0, 0), NULL);
        due.same("both", room.copy(3, 0, 3, 0, 0), NULL);
        due.same("ahead of index", room.copy(0, -1, 3, 9, -1), NULL);
    }

    static void promise34_unlikeLanesAreCast(Due due) {
        ChartRoom room = roomOfRows();
        due.same("bytes to shorts", room.copy(0, 0, 2, 0, 1), CAST);
        due.same("its fault", room.fault(), 2);
        due.same("shorts to bytes, of no cells", room.copy(2, 0, 0, 0, 0), CAST);
        due.same("ahead of index", room.copy(2, -1, 0, 9, -1), CAST);
        row(due, "nothing came", room, 0, 1, 2, 3, 4, 5);
    }

    /** "INDEX: i, j, n below 0 or beyond" */
    static void promise34_indexBelow0OrBeyond(Due due) {
        int[][] beyond = {{-1, 0, 1}, {0, -1, 1}, {0, 0, -1}, {5, 0, 1}, {0, 3, 1}, {3, 0, 3}, {0, 1, 3}, {0, 0, 4}, {LEAST, 0, 0},
            {0, LEAST, 0}, {0, 0, LEAST}, {MOST, 0, 1}, {0, MOST, 1}, {0, 0, MOST}, {1, 0, MOST}, {0, 1, MOST}, {2, 2, MOST - 1}};
        ChartRoom room = roomOfRows();
        for (int[] a : beyond) {
            due.same(a[0] + ", " + a[1] + ", " + a[2], room.copy(0, a[0], 1, a[1], a[2]), INDEX);
            due.same("its fault", room.fault(), 3);
        }
        row(due, "nothing came", room, 1, 6, 7, 8);
    }

    static void promise34_allThatFits(Due due) {
        ChartRoom room = roomOfRows();
        due.same("three from the first on", room.copy(0, 0, 1, 0, 3), 3);
        row(due, "three came", room, 1, 1, 2, 3);
        due.same("the last three", room.copy(0, 2, 1, 0, 3), 3);
        row(due, "the last came", room, 1, 3, 4, 5);
        due.same("one to the end", room.copy(0, 0, 1, 2, 1), 1);
        row(due, "one came", room, 1, 3, 4, 1);
    }

    /** "INDEX (of cells from i on also where i is not 0 .. how many there are, if none of them is taken, too)" */
    static void promise34_words_noCells(Due due) {
        ChartRoom room = roomOfRows();
        due.same("none", room.copy(0, 0, 1, 0, 0), 0);
        due.same("none, at both ends", room.copy(0, 5, 1, 3, 0), 0);
        due.same("no fault", room.fault(), 0);
        due.same("i one beyond", room.copy(0, 6, 1, 0, 0), INDEX);
        due.same("j one beyond", room.copy(0, 0, 1, 4, 0), INDEX);
        due.same("i one ahead", room.copy(0, -1, 1, 0, 0), INDEX);
        due.same("j one ahead", room.copy(0, 0, 1, -1, 0), INDEX);
        row(due, "nothing came", room, 1, 6, 7, 8);
    }

    /** "(perhaps the same) .. as they were" */
    static void promise34_ontoItself(Due due) {
        ChartRoom room = roomOfRows();
        due.same("one on", room.copy(0, 0, 0, 1, 4), 4);
        row(due, "one on", room, 0, 1, 1, 2, 3, 4);
        room = roomOfRows();
        due.same("one back", room.copy(0, 1, 0, 0, 4), 4);
        row(due, "one back", room, 0, 2, 3, 4, 5, 5);
        due.same("all where they are", room.copy(0, 0, 0, 0, 5), 5);
        row(due, "as they were", room, 0, 2, 3, 4, 5, 5);
    }

    // ---- 35 to 38: "TELLING of a POST. UNKNOWN.", "How it is HAILED. UNKNOWN.", "A POST, taken as one of a kind: 1.", "TRACE."

    private static ChartRoom roomOfKinds() {
        ChartRoom room = new ChartRoom();
        room.post(0, 0, 0, 3000, 20, 9);
        room.post(1, 0, 0, 0, -20, 9);
        room.post(2, 0, 0, 3000, 20, 9);
        return room;
    }

    static void promise35_unknownPosts(Due due) {
        ChartRoom room = roomOfKinds();
        due.same("one too many", room.tell(3), UNKNOWN);
        due.same("below", room.tell(-1), UNKNOWN);
        due.same("far above", room.tell(MOST), UNKNOWN);
        due.same("they leave nothing in TRACE", room.trace(), 0);
    }

    static void promise35_words6_theLeastAndTheGreatest(Due due) {
        ChartRoom room = roomOfKinds();
        due.same("a POST's HEIGHT alone", room.tell(0), 3000);
        due.same("a SHIP below 0, as if it were no refusal", room.tell(1), -20);
        due.same("a BUOY", room.tell(2), 6020);
        room.post(1, 0, 0, 0, -1, 0);
        due.same("a SHIP's -1 is no refusal", room.tell(3), -1);
        due.same("for its bodies began", room.trace(), traceOf(1, 2, 1, 3, 2, 1, 1, 2, 1));
    }

    private static int traceOf(int... bodies) {
        int trace = 0;
        for (int body : bodies) {
            trace = 31 * trace + body;
        }
        return trace;
    }

    static void promise36_unknownPosts(Due due) {
        ChartRoom room = roomOfKinds();
        due.same("one too many", room.hail(3), UNKNOWN);
        due.same("below", room.hail(-1), UNKNOWN);
        due.same("far below", room.hail(LEAST), UNKNOWN);
        due.same("they leave nothing in TRACE", room.trace(), 0);
    }

    static void promise36_words6_theFirstAndTheLastPost(Due due) {
        ChartRoom room = new ChartRoom();
        for (int p = 0; p < 12; p++) {
            room.post(p == 10 ? 2 : p % 2, 0, 0, 0, 0, 0);
        }
        due.same("the first", room.hail(0), 0);
        due.same("the last", room.hail(11), 11);
        due.same("a BUOY, of its own", room.hail(10), 80);
        due.same("their bodies", room.trace(), traceOf(4, 4, 5));
    }

    static void promise37_unknownPosts(Due due) {
        ChartRoom room = roomOfKinds();
        due.same("one too many", room.as(3, 0), UNKNOWN);
        due.same("below", room.as(-1, 0), UNKNOWN);
        due.same("unknown ahead of outside", room.as(3, 3), UNKNOWN);
        due.same("no fault", room.fault(), 0);
    }

    static void promise37_kindIs0To2(Due due) {
        ChartRoom room = roomOfKinds();
        due.same("0", room.as(2, 0), 1);
        due.same("2", room.as(2, 2), 1);
        due.same("above", room.as(2, 3), OUTSIDE);
        due.same("below", room.as(2, -1), OUTSIDE);
        due.same("far above", room.as(0, MOST), OUTSIDE);
        due.same("no fault", room.fault(), 0);
    }

    /** "CAST: it is none (a BUOY is a SHIP, each is a POST)" */
    static void promise37_itIsNoneOfThatKind(Due due) {
        ChartRoom room = roomOfKinds();
        for (int p = 0; p < 3; p++) {
            for (int kind = 0; kind < 3; kind++) {
                due.same(p + " as " + kind, room.as(p, kind), kind <= p ? 1 : CAST);
                due.same(p + " as " + kind + ": its fault", room.fault(), kind <= p ? 0 : 2);
            }
        }
        due.same("none begins a body", room.trace(), 0);
    }

    /** "an int that wraps" */
    static void promise38_words6_traceWraps(Due due) {
        ChartRoom room = roomOfKinds();
        int[] bodies = new int[100];
        boolean wasBelow0 = false;
        for (int i = 0; i < 100; i++) {
            room.hail(i % 3);
            bodies[i] = i % 3 == 2 ? 5 : 4;
            wasBelow0 = wasBelow0 || room.trace() < 0;
        }
        due.same("it wraps", room.trace(), traceOf(bodies));
        due.holds("it was below 0", wasBelow0);
    }

    static void promise38_askingLeavesNothing(Due due) {
        ChartRoom room = roomOfKinds();
        room.tell(2);
        int trace = traceOf(3, 2, 1, 1);
        due.same("a BUOY's bodies", room.trace(), trace);
        due.same("again", room.trace(), trace);
    }

    // ---- 39: "The FAULT of the latest call that names one: 0: it came to none, or was refused (0 ahead of any)."

    static void promise39_0AheadOfAny(Due due) {
        ChartRoom room = new ChartRoom();
        due.same("a new room", room.fault(), 0);
        room.lose(9);
        room.about(9, 9);
        due.same("refusals that name none", room.fault(), 0);
    }

    /** A room whose latest fault is NULL, with a post, five bytes on sheet 0 and nothing on the others. */
    private static ChartRoom roomOfFault() {
        ChartRoom room = new ChartRoom();
        room.post(0, 0, 0, 0, 0, 0);
        room.sheet(0, 0, 5);
        room.put(1, 0, 0);
        return room;
    }

    static void promise39_aRefusedCallThatNamesFaultsIs0(Due due) {
        String[] calls = {"wire", "draw", "forecast", "sheet", "put", "cell", "copy", "as"};
        for (int c = 0; c < calls.length; c++) {
            ChartRoom room = roomOfFault();
            due.same("NULL at first", room.fault(), 1);
            switch (c) {
                case 0: room.wire(9, 0, 0, 0, 0, 0); break;
                case 1: room.draw(9, 0, 0, 1, 0, 0, 0, 0); break;
                case 2: room.forecast(0, 9, 0, 0); break;
                case 3: room.sheet(0, 0, 61); break;
                case 4: room.put(9, 0, 0); break;
                case 5: room.cell(0, 0, 9); break;
                case 6: room.copy(0, 0, 9, 0, 0); break;
                default: room.as(0, 9);
            }
            due.same(calls[c] + ", refused", room.fault(), 0);
        }
    }

    static void promise39_aCallThatComesToNoneIs0(Due due) {
        String[] calls = {"draw", "forecast", "sheet", "put", "cell", "copy", "as"};
        for (int c = 0; c < calls.length; c++) {
            ChartRoom room = roomOfFault();
            switch (c) {
                case 0: room.draw(0, 0, 0, 1, 0, 0, 0, 0); break;
                case 1: room.forecast(0, 0, 0, 1); break;
                case 2: room.sheet(0, 0, 5); break;
                case 3: room.put(0, 4, 0); break;
                case 4: room.cell(0, 4, 0); break;
                case 5: room.copy(0, 0, 0, 0, 5); break;
                default: room.as(0, 0);
            }
            due.same(calls[c] + ", without a fault", room.fault(), 0);
        }
        ChartRoom room = roomOfFault();
        room.sheet(2, 0, 15);
        room.put(1, 0, 0);
        room.wire(0, 0, 0, 2, 0, 0);
        due.same("wire, without a fault", room.fault(), 0);
    }

    static void promise39_callsThatNameNoneLeaveIt(Due due) {
        ChartRoom room = roomOfFault();
        room.post(9, 0, 0, 0, 0, 0);
        room.about(0, 0);
        room.place(0, 0);
        room.told(0, 0);
        room.digit(0, 0, 0);
        room.readings(0, 0);
        room.reading(0, 0, 0);
        room.view(0, 0);
        room.guess(0);
        room.mended(0);
        room.level(0);
        room.steep(0);
        room.quarrel(0, 0);
        room.doubted();
        room.value(0, 0);
        room.line(0, 0);
        room.front(0, 0, 0);
        room.yOf(0, 0, 0);
        room.joining();
        room.night();
        room.prognosis(0, 0, 0, 0);
        room.keep(0);
        room.beside(0, 0, 0, 0);
        room.drift(0, 0);
        room.verified(0, 0);
        room.lose(0);
        room.tell(0);
        room.hail(0);
        room.trace();
        room.many(0);
        due.same("NULL still", room.fault(), 1);
        due.same("asked again", room.fault(), 1);
    }

    static void promise39_anotherFaultTakesItsPlace(Due due) {
        ChartRoom room = roomOfFault();
        room.put(0, 5, 0);
        due.same("INDEX", room.fault(), 3);
        room.sheet(0, 0, -1);
        due.same("SIZE", room.fault(), 4);
        room.as(0, 1);
        due.same("CAST", room.fault(), 2);
        room.copy(1, 0, 0, 0, 0);
        due.same("NULL", room.fault(), 1);
    }

    // ---- 40: "How many: 0 POSTS, 1 WIRES, 2 IN VIEW, 3, 4 FRONTS, 5 FORECASTS, 6, 7 h, k of THE VIEW, 8 KEPT CHARTS. OUTSIDE."

    static void promise40_whatIs0To8(Due due) {
        ChartRoom room = new ChartRoom();
        due.same("0", room.many(0), 0);
        due.same("8", room.many(8), 0);
        due.same("below", room.many(-1), OUTSIDE);
        due.same("above", room.many(9), OUTSIDE);
        due.same("far below", room.many(LEAST), OUTSIDE);
        due.same("far above", room.many(MOST), OUTSIDE);
    }

    static void promise40_allThatIsFull(Due due) {
        ChartRoom room = new ChartRoom();
        room.sheet(0, 0, 15);
        Rooms.fill(room, 1, 0, 'n', '<', '1');
        for (int p = 0; p < 13; p++) {
            room.post(0, 0, 0, 0, 0, 0);
        }
        for (int w = 0; w < 31; w++) {
            room.wire(w % 12, 99, 99, 0, 0, 0);
        }
        for (int f = 0; f < 9; f++) {
            room.draw(0, 0, 0, 1, 0, 0, 0, 0);
            room.draw(1, 0, 0, 1, 0, 0, 0, 0);
            room.forecast(1, 0, 0, 3);
            room.keep(f);
        }
        room.view(99, 99);
        int[] counts = {12, 30, 12, 5, 5, 8, 99, 99, 4};
        for (int what = 0; what < 9; what++) {
            due.same("what " + what, room.many(what), counts[what]);
        }
    }
}
