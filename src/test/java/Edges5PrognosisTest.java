/** Promises 24 to 29, and the words on prognoses and forecasts, at their edges. */
public final class Edges5PrognosisTest {
    private static final int MOST = Integer.MAX_VALUE, LEAST = Integer.MIN_VALUE;
    private static final int UNKNOWN = -1, OUTSIDE = -2, STATE = -3, FULL = -4, NONE = -9;
    private static final int NULL = -11, CAST = -12, INDEX = -13, SIZE = -14;
    private static final long LOST = Long.MIN_VALUE;

    public static void main(String[] args) throws ReflectiveOperationException {
        Edges.run(Edges5PrognosisTest.class);
    }

    /** Four posts at the corners: each quarter of the chart has a LEVEL of its own. */
    private static ChartRoom quarters() {
        ChartRoom room = new ChartRoom();
        Rooms.postAt(room, 0, 0, 10000);
        Rooms.postAt(room, 11, 0, 10010);
        Rooms.postAt(room, 0, 11, 10020);
        Rooms.postAt(room, 11, 11, 10030);
        return room;
    }

    // ---- 24: "PROGNOSIS by (u, v) of a PLACE; NONE. OUTSIDE: u, v; UNKNOWN."

    /** "(u, v) (-11 .. 11 each)" */
    static void promise24_words5_uIsMinus11To11(Due due) {
        ChartRoom room = quarters();
        due.same("11", room.prognosis(11, 0, 11, 0), 10000);
        due.same("-11", room.prognosis(-11, 0, 0, 0), 10010);
        due.same("above", room.prognosis(12, 0, 11, 0), OUTSIDE);
        due.same("below", room.prognosis(-12, 0, 0, 0), OUTSIDE);
        due.same("far below", room.prognosis(LEAST, 0, 0, 0), OUTSIDE);
        due.same("far above", room.prognosis(MOST, 0, 0, 0), OUTSIDE);
    }

    static void promise24_words5_vIsMinus11To11(Due due) {
        ChartRoom room = quarters();
        due.same("11", room.prognosis(0, 11, 0, 11), 10000);
        due.same("-11", room.prognosis(0, -11, 0, 0), 10020);
        due.same("above", room.prognosis(0, 12, 0, 11), OUTSIDE);
        due.same("below", room.prognosis(0, -12, 0, 0), OUTSIDE);
        due.same("far above", room.prognosis(0, MOST, 0, 0), OUTSIDE);
    }

    static void promise24_unknownPlaces(Due due) {
        ChartRoom room = quarters();
        due.same("the last", room.prognosis(0, 0, 11, 11), 10030);
        due.same("x above", room.prognosis(0, 0, 12, 0), UNKNOWN);
        due.same("x below", room.prognosis(0, 0, -1, 0), UNKNOWN);
        due.same("y above", room.prognosis(0, 0, 0, 12), UNKNOWN);
        due.same("y below", room.prognosis(0, 0, 0, -1), UNKNOWN);
        due.same("x above, though it comes from the chart", room.prognosis(1, 0, 12, 0), UNKNOWN);
        due.same("y below, though it comes from the chart", room.prognosis(0, -1, 0, -1), UNKNOWN);
        due.same("far off", room.prognosis(0, 0, LEAST, MOST), UNKNOWN);
    }

    static void promise24_outsideIsAheadOfUnknown(Due due) {
        due.same("u", new ChartRoom().prognosis(12, 0, 12, 0), OUTSIDE);
        due.same("v", new ChartRoom().prognosis(0, -12, 0, -1), OUTSIDE);
    }

    /** "(NONE: that is not on THE CHART, or has none)" */
    static void promise24_words5_fromBeyondTheChartIsNone(Due due) {
        ChartRoom room = quarters();
        due.same("from x 0", room.prognosis(1, 0, 1, 0), 10000);
        due.same("from x -1", room.prognosis(1, 0, 0, 0), NONE);
        due.same("from x 11", room.prognosis(-1, 0, 10, 0), 10010);
        due.same("from x 12", room.prognosis(-1, 0, 11, 0), NONE);
        due.same("from y 0", room.prognosis(0, 1, 0, 1), 10000);
        due.same("from y -1", room.prognosis(0, 1, 0, 0), NONE);
        due.same("from y 11", room.prognosis(0, -1, 0, 10), 10020);
        due.same("from y 12", room.prognosis(0, -1, 0, 11), NONE);
        due.same("from x -1, as if it were the row above", room.prognosis(1, 0, 0, 5), NONE);
    }

    static void promise24_words5_withoutValuesIsNone(Due due) {
        ChartRoom room = new ChartRoom();
        due.same("no posts", room.prognosis(0, 0, 0, 0), NONE);
        room = quarters();
        room.view(1, 99);
        due.same("none in view", room.prognosis(0, 0, 0, 0), NONE);
    }

    // ---- 25: "VALUES are kept as a KEPT CHART: how many PLACES have one. UNKNOWN."

    /** "KEPT CHARTS 0 .. 3" */
    static void promise25_words5_keptChartsAre0To3(Due due) {
        ChartRoom room = quarters();
        due.same("above", room.keep(4), UNKNOWN);
        due.same("below", room.keep(-1), UNKNOWN);
        due.same("far above", room.keep(MOST), UNKNOWN);
        due.same("none came of it", room.many(8), 0);
        due.same("0", room.keep(0), 144);
        due.same("3", room.keep(3), 144);
        due.same("two", room.many(8), 2);
        room.keep(1);
        room.keep(2);
        due.same("four", room.many(8), 4);
        room.keep(2);
        due.same("still four", room.many(8), 4);
    }

    static void promise25_withoutValues0AreKept(Due due) {
        ChartRoom room = new ChartRoom();
        due.same("0", room.keep(0), 0);
        due.same("it is kept", room.many(8), 1);
        due.same("and can be put beside", room.beside(0, 0, 0, 0), 0);
    }

    /** "VALUES of all PLACES as they were when kept" */
    static void promise25_words5_keptOnesStayAsTheyWere(Due due) {
        ChartRoom room = quarters();
        room.keep(0);
        room.view(1, 99);
        due.same("the same number is kept anew, without values", room.keep(1), 0);
        due.same("nothing in both", room.beside(0, 0, 0, 0), 0);
        room.view(0, 99);
        due.same("as it was", room.beside(0, 0, 0, 0), 144);
        due.same("no difference", room.beside(0, 0, 0, 1), 0);
        room.view(1, 99);
        room.keep(0);
        room.view(0, 99);
        due.same("what was there is gone", room.beside(0, 0, 0, 0), 0);
    }

    // ---- 26: "PROGNOSIS by (u, v) BESIDE a KEPT CHART. LOST: OUTSIDE: u, v, what; UNKNOWN; STATE: nothing was kept so."

    static void promise26_uAndVAreMinus11To11(Due due) {
        ChartRoom room = quarters();
        room.keep(0);
        due.same("11, 11", room.beside(11, 11, 0, 0), 1);
        due.same("-11, -11", room.beside(-11, -11, 0, 0), 1);
        due.same("u above", room.beside(12, 0, 0, 0), LOST);
        due.same("u below", room.beside(-12, 0, 0, 0), LOST);
        due.same("v above", room.beside(0, 12, 0, 0), LOST);
        due.same("v below", room.beside(0, -12, 0, 0), LOST);
        due.same("far off", room.beside(LEAST, MOST, 0, 0), LOST);
    }

    static void promise26_whatIs0To2(Due due) {
        ChartRoom room = quarters();
        room.keep(0);
        due.same("0", room.beside(0, 0, 0, 0), 144);
        due.same("2", room.beside(0, 0, 0, 2), 0);
        due.same("above", room.beside(0, 0, 0, 3), LOST);
        due.same("below", room.beside(0, 0, 0, -1), LOST);
        due.same("far above", room.beside(0, 0, 0, MOST), LOST);
    }

    static void promise26_unknownKeptCharts(Due due) {
        ChartRoom room = quarters();
        room.keep(0);
        room.keep(3);
        due.same("3", room.beside(0, 0, 3, 0), 144);
        due.same("above", room.beside(0, 0, 4, 0), LOST);
        due.same("below", room.beside(0, 0, -1, 0), LOST);
        due.same("far below", room.beside(0, 0, LEAST, 0), LOST);
    }

    static void promise26_nothingKeptSoIsLost(Due due) {
        ChartRoom room = quarters();
        room.keep(1);
        due.same("1", room.beside(0, 0, 1, 0), 144);
        due.same("0", room.beside(0, 0, 0, 0), LOST);
        due.same("2", room.beside(0, 0, 2, 0), LOST);
    }

    static void promise26_itNamesNoFaults(Due due) {
        ChartRoom room = new ChartRoom();
        room.put(0, 0, 0);
        due.same("lost", room.beside(0, 0, 0, 0), LOST);
        due.same("the fault is put's still", room.fault(), 1);
    }

    /** "over all PLACES that have a number in both": there are none. */
    static void promise26_words5_noPlaceInBothIs0(Due due) {
        ChartRoom room = quarters();
        room.keep(0);
        room.view(1, 99);
        for (int what = 0; what < 3; what++) {
            due.same("without values now, what " + what, room.beside(0, 0, 0, what), 0);
        }
        room.keep(1);
        room.view(0, 99);
        for (int what = 0; what < 3; what++) {
            due.same("without values then, what " + what, room.beside(0, 0, 1, what), 0);
        }
    }

    /** "the sum of differences (2; PROGNOSIS less the kept one)": below 0, too. */
    static void promise26_words5_theSumIsBelow0Too(Due due) {
        ChartRoom room = quarters();
        room.keep(0);
        due.same("one corner's size", room.beside(11, 11, 0, 1), 30);
        due.same("one corner's difference", room.beside(11, 11, 0, 2), -30);
        due.same("the other's", room.beside(-11, -11, 0, 2), 30);
        due.same("no answer is LOST", room.beside(11, 0, 0, 2), -120);
    }

    static void promise26_words5_theGreatestSums(Due due) {
        ChartRoom room = new ChartRoom();
        room.post(0, 0, 0, 3000, 0, 0);
        Rooms.press(room, 0, Rooms.pressOf(10499));
        room.keep(0);
        Rooms.press(room, 0, Rooms.pressOf(9500));
        due.same("sizes", room.beside(0, 0, 0, 1), 144 * 999);
        due.same("differences", room.beside(0, 0, 0, 2), -144 * 999);
    }

    // ---- 27: "UNKNOWN; OUTSIDE: n; STATE: nothing was kept so, or none has PLACES in both."

    static void promise27_unknownKeptCharts(Due due) {
        ChartRoom room = quarters();
        room.keep(3);
        due.same("3", room.drift(3, 0), 1111);
        due.same("above", room.drift(4, 0), UNKNOWN);
        due.same("below", room.drift(-1, 0), UNKNOWN);
        due.same("far above", room.drift(MOST, 0), UNKNOWN);
    }

    /** "of size n (0 .. 4) at most" */
    static void promise27_nIs0To4(Due due) {
        ChartRoom room = quarters();
        room.keep(0);
        due.same("0", room.drift(0, 0), 1111);
        due.same("4", room.drift(0, 4), 1111);
        due.same("above", room.drift(0, 5), OUTSIDE);
        due.same("below", room.drift(0, -1), OUTSIDE);
        due.same("far below", room.drift(0, LEAST), OUTSIDE);
    }

    static void promise27_nothingKeptSoIsState(Due due) {
        ChartRoom room = quarters();
        room.keep(1);
        due.same("1", room.drift(1, 4), 1111);
        due.same("0", room.drift(0, 4), STATE);
        due.same("2", room.drift(2, 0), STATE);
    }

    static void promise27_noneWithPlacesInBothIsState(Due due) {
        ChartRoom room = quarters();
        room.keep(0);
        room.view(1, 99);
        due.same("without values now", room.drift(0, 4), STATE);
        room.keep(1);
        room.view(0, 99);
        due.same("without values then", room.drift(1, 4), STATE);
        due.same("with both", room.drift(0, 4), 1111);
    }

    static void promise27_eachRefusalInItsOrder(Due due) {
        ChartRoom room = new ChartRoom();
        due.same("unknown ahead of n", room.drift(4, 5), UNKNOWN);
        due.same("n ahead of state", room.drift(0, 5), OUTSIDE);
    }

    /** "of several the first by u, then by v": with one LEVEL all are alike. */
    static void promise27_ofSeveralTheFirstByUThenV(Due due) {
        ChartRoom room = new ChartRoom();
        Rooms.postAt(room, 5, 5, 10000);
        room.keep(0);
        for (int n = 0; n < 5; n++) {
            due.same("of size " + n, room.drift(0, n), 100 * (11 - n) + 11 - n);
        }
    }

    static void promise27_ofSeveralTheFirstByVAlone(Due due) {
        ChartRoom room = new ChartRoom();
        Rooms.postAt(room, 2, 5, 10000);
        Rooms.postAt(room, 9, 5, 10100);
        room.keep(0);
        due.same("columns are alike: u 0, the least v", room.drift(0, 3), 100 * 11 + 8);
    }

    /** A post from which ships go by (gx, gy) tenths: the chart of hour 2 is kept, that of hour 0 is in view. */
    private static int driftOfShips(int gx, int gy, int n) {
        ChartRoom room = new ChartRoom();
        int[][] places = {{4, 4}, {7, 4}, {4, 7}, {7, 7}};
        for (int p = 0; p < 4; p++) {
            room.post(1, places[p][0], places[p][1], 0, gx, gy);
            Rooms.wire(room, p, 0, 0, Rooms.WIND + Rooms.pressOf(10000 + 50 * p) + Rooms.HEAT);
            Rooms.wire(room, p, 2, 0, Rooms.WIND + Rooms.pressOf(10000 + 50 * p) + Rooms.HEAT);
        }
        room.view(2, 99);
        room.keep(0);
        room.view(0, 99);
        return room.drift(0, n);
    }

    static void promise27_theFarthestDrifts(Due due) {
        due.same("4, 4", driftOfShips(20, 20, 4), 1515);
        due.same("-4, -4", driftOfShips(-20, -20, 4), 707);
        due.same("4, -4", driftOfShips(20, -20, 4), 1507);
        due.same("-4, 4", driftOfShips(-20, 20, 4), 715);
        due.same("4, 4 by 3 at most", driftOfShips(20, 20, 3), 1414);
        due.same("4, 4 by 0 at most", driftOfShips(20, 20, 0), 1111);
    }

    /** "the sum by how many, compared exactly": a smaller sum over fewer PLACES isn't the better one. */
    static void promise27_theSumByHowManyIsComparedExactly(Due due) {
        ChartRoom room = new ChartRoom();
        Rooms.postAt(room, 0, 0, 10000);
        room.keep(0);
        Rooms.press(room, 0, Rooms.pressOf(10007));
        due.same("7 everywhere: the first, not the one with the fewest places", room.drift(0, 1), 1010);
        room = new ChartRoom();
        int[][] corners = {{0, 0, 10000, 9960}, {11, 0, 10010, 10050}, {0, 11, 10010, 10050}, {11, 11, 10000, 9960}};
        for (int[] corner : corners) {
            Rooms.postAt(room, corner[0], corner[1], corner[2]);
        }
        room.keep(0);
        for (int p = 0; p < 4; p++) {
            Rooms.press(room, p, Rooms.pressOf(corners[p][3]));
        }
        due.same("5760 by 144 is 40", room.beside(0, 0, 0, 1), 5760);
        due.same("5400 by 132 is 40 and a rest", room.beside(-1, 0, 0, 1), 5400);
        due.same("5040 by 121 is 41 and a rest", room.beside(-1, -1, 0, 1), 5040);
        due.same("the least is 40", room.drift(0, 1), 1111);
    }

    // ---- 28: "UNKNOWN; OUTSIDE: lane; CAST (nothing is no CAST); NULL; SIZE: n below 0; INDEX; then -100 less it; FULL."

    /** A room with sheet 0: n<1 and two more digits, in bytes. */
    private static ChartRoom roomOfText() {
        ChartRoom room = new ChartRoom();
        Rooms.fill(room, 0, 0, 'n', '<', '1', '2', '3');
        return room;
    }

    static void promise28_unknownSheet(Due due) {
        ChartRoom room = roomOfText();
        due.same("the first", room.forecast(0, 0, 0, 3), 0);
        due.same("above", room.forecast(4, 0, 0, 3), UNKNOWN);
        due.same("below", room.forecast(-1, 0, 0, 3), UNKNOWN);
        due.same("far above", room.forecast(MOST, 0, 0, 3), UNKNOWN);
    }

    static void promise28_laneIs0To2(Due due) {
        ChartRoom room = roomOfText();
        due.same("above", room.forecast(0, 3, 0, 3), OUTSIDE);
        due.same("below", room.forecast(0, -1, 0, 3), OUTSIDE);
        due.same("above, of nothing", room.forecast(1, 3, 0, 3), OUTSIDE);
        for (int lane = 0; lane < 3; lane++) {
            Rooms.fill(room, 2, lane, 'm', '>', '0');
            due.same("lane " + lane, room.forecast(2, lane, 0, 3), lane);
        }
    }

    static void promise28_anotherLaneIsCast(Due due) {
        ChartRoom room = roomOfText();
        due.same("bytes as shorts", room.forecast(0, 1, 0, 3), CAST);
        due.same("bytes as ints", room.forecast(0, 2, 0, 3), CAST);
        due.same("its fault", room.fault(), 2);
    }

    static void promise28_nothingIsNullInEachLane(Due due) {
        ChartRoom room = roomOfText();
        for (int lane = 0; lane < 3; lane++) {
            due.same("lane " + lane, room.forecast(1, lane, 0, 0), NULL);
            due.same("its fault", room.fault(), 1);
        }
    }

    static void promise28_nBelow0IsSize(Due due) {
        ChartRoom room = roomOfText();
        due.same("-1", room.forecast(0, 0, 0, -1), SIZE);
        due.same("its fault", room.fault(), 4);
        due.same("the least", room.forecast(0, 0, 0, LEAST), SIZE);
    }

    static void promise28_indexWhereTheCellsGoBeyond(Due due) {
        ChartRoom room = roomOfText();
        due.same("all five", room.forecast(0, 0, 0, 5), 0);
        due.same("six", room.forecast(0, 0, 0, 6), INDEX);
        due.same("its fault", room.fault(), 3);
        due.same("five from 1 on", room.forecast(0, 0, 1, 5), INDEX);
        due.same("i below", room.forecast(0, 0, -1, 3), INDEX);
        due.same("i and n would wrap", room.forecast(0, 0, 1, MOST), INDEX);
        due.same("i far above", room.forecast(0, 0, MOST, 1), INDEX);
    }

    /** "INDEX (of cells from i on also where i is not 0 .. how many there are, if none of them is taken, too)" */
    static void promise28_words_indexThoughNoneIsTaken(Due due) {
        ChartRoom room = roomOfText();
        due.same("at the end", room.forecast(0, 0, 5, 0), -100);
        due.same("no fault", room.fault(), 0);
        due.same("one beyond", room.forecast(0, 0, 6, 0), INDEX);
        due.same("one ahead", room.forecast(0, 0, -1, 0), INDEX);
        room.sheet(0, 0, 0);
        due.same("of no cells", room.forecast(0, 0, 0, 0), -100);
        due.same("of no cells at 1", room.forecast(0, 0, 1, 0), INDEX);
    }

    private static void read(Due due, String text, int answer) {
        due.same("'" + text + "'", Rooms.forecast(new ChartRoom(), text), answer);
    }

    /** "how many codes there are, if it just ends too soon" */
    static void promise28_words5_itEndsTooSoon(Due due) {
        read(due, "", -100);
        read(due, "n", -101);
        read(due, "n<", -102);
        read(due, "n<1", 0);
        read(due, "n<1,", -104);
        read(due, "n<1,s", -105);
        read(due, "n<1,s>", -106);
        read(due, "n<1,s>2", 0);
        read(due, "n<12345,", -108);
        read(due, "n<1,n<1,n<1,n<1,", -116);
        read(due, "n<1,n<1,n<1,n<1,n<", -118);
    }

    /** "TEXTS: 1 to 5 clauses with , between" */
    static void promise28_words5_1To5Clauses(Due due) {
        read(due, "n<1", 0);
        read(due, "n<1,n<1,n<1,n<1,n<1", 0);
        read(due, "n<1,n<1,n<1,n<1,n<1,n<1", -119);
        read(due, "n<1,n<1,n<1,n<1,n<1,", -119);
        read(due, "n<1,n<1,n<1,n<1,n<12345,", -123);
        read(due, ",", -100);
        read(due, ",n<1", -100);
        read(due, "n<1,,n<1", -104);
    }

    /** "a number of 1 to 5 digits" */
    static void promise28_words5_1To5Digits(Due due) {
        read(due, "n<0", 0);
        read(due, "n<00000", 0);
        read(due, "n<99999", 0);
        read(due, "n<123456", -107);
        read(due, "n<000000", -107);
        read(due, "n<,s>1", -102);
        read(due, "n<12345,s>123456", -115);
    }

    /** "FIRST FAULT: the place (from 0 on) of the first code with which no TEXT goes on as those up to it" */
    static void promise28_words5_theFirstFault(Due due) {
        read(due, "x<1", -100);
        read(due, "<1", -100);
        read(due, "1", -100);
        read(due, "nn<1", -101);
        read(due, "n1", -101);
        read(due, "n,", -101);
        read(due, "n<<1", -102);
        read(due, "n<n", -102);
        read(due, "n<1n", -103);
        read(due, "n<1<", -103);
        read(due, "n<12345n", -107);
        read(due, "n<1,1", -104);
        read(due, "n<1,<", -104);
        read(due, "n<1,x<1,y", -104);
    }

    /** "(Codes: n 110, s 115, w 119, e 101, m 109, < 60, > 62, the comma 44, digits 48 .. 57.)" */
    static void promise28_words5_onlyTheseCodes(Due due) {
        for (int code = -128; code < 256; code++) {
            boolean isRegion = code == 110 || code == 115 || code == 119 || code == 101 || code == 109;
            boolean isSign = code == 60 || code == 62;
            boolean isDigit = code >= 48 && code <= 57;
            ChartRoom room = new ChartRoom();
            Rooms.fill(room, 0, 2, 'n', '<', '1', code);
            due.same(code + " alone", room.forecast(0, 2, 3, 1), isRegion ? -101 : -100);
            due.same(code + " behind a number", room.forecast(0, 2, 0, 4), isDigit ? 0 : code == 44 ? -104 : -103);
            room.put(0, 2, code);
            due.same(code + " behind a sign", room.forecast(0, 2, 0, 3), isDigit ? 1 : -102);
            room.put(0, 1, code);
            due.same(code + " behind a region", room.forecast(0, 2, 0, 2), isSign ? -102 : -101);
        }
    }

    /** "FORECASTS, 8 ever, numbered as they come" */
    static void promise28_words5_theNinthIsFull(Due due) {
        ChartRoom room = roomOfText();
        for (int f = 0; f < 8; f++) {
            due.same("the " + f, room.forecast(0, 0, 0, 3), f);
            due.same("refused between", room.forecast(0, 0, 0, 2), -102);
        }
        due.same("the ninth", room.forecast(0, 0, 0, 3), FULL);
        due.same("no fault", room.fault(), 0);
        due.same("eight", room.many(5), 8);
        due.same("the last stands", room.verified(7, 0), 1);
        due.same("there is no ninth", room.verified(8, 0), UNKNOWN);
    }

    static void promise28_eachRefusalInItsOrder(Due due) {
        ChartRoom room = roomOfText();
        due.same("sheet ahead of lane", room.forecast(4, 3, 0, 3), UNKNOWN);
        due.same("lane ahead of null", room.forecast(1, 3, 0, 3), OUTSIDE);
        due.same("lane ahead of size", room.forecast(0, 3, 0, -1), OUTSIDE);
        due.same("cast ahead of size", room.forecast(0, 1, 0, -1), CAST);
        due.same("cast ahead of index", room.forecast(0, 1, 9, 1), CAST);
        due.same("null ahead of size", room.forecast(1, 1, 0, -1), NULL);
        due.same("null ahead of index", room.forecast(1, 1, 9, 1), NULL);
        due.same("size ahead of index", room.forecast(0, 0, 9, -1), SIZE);
        due.same("index ahead of the first fault", room.forecast(0, 0, 2, 4), INDEX);
        for (int f = 0; f < 8; f++) {
            room.forecast(0, 0, 0, 3);
        }
        due.same("the first fault ahead of full", room.forecast(0, 0, 1, 2), -100);
        due.same("too short ahead of full", room.forecast(0, 0, 0, 0), -100);
        due.same("index ahead of full", room.forecast(0, 0, 0, 6), INDEX);
        due.same("full", room.forecast(0, 0, 0, 3), FULL);
    }

    // ---- 29: "Of a FORECAST: how many clauses (what 0), how many are TRUE (1), clauses that are TRUE, as bits (2)."

    static void promise29_unknownForecasts(Due due) {
        ChartRoom room = roomOfText();
        due.same("there is none", room.verified(0, 0), UNKNOWN);
        room.forecast(0, 0, 0, 3);
        due.same("the first", room.verified(0, 0), 1);
        due.same("one too many", room.verified(1, 0), UNKNOWN);
        due.same("below", room.verified(-1, 0), UNKNOWN);
        due.same("far above", room.verified(MOST, 0), UNKNOWN);
    }

    static void promise29_whatIs0To2(Due due) {
        ChartRoom room = roomOfText();
        room.forecast(0, 0, 0, 3);
        due.same("0", room.verified(0, 0), 1);
        due.same("2", room.verified(0, 2), 0);
        due.same("above", room.verified(0, 3), OUTSIDE);
        due.same("below", room.verified(0, -1), OUTSIDE);
        due.same("far below", room.verified(0, LEAST), OUTSIDE);
        due.same("unknown is ahead of it", room.verified(1, 3), UNKNOWN);
    }

    private static int trueOnes(ChartRoom room, String text) {
        return room.verified(Rooms.forecast(room, text), 2);
    }

    /** "A clause is TRUE, if a PLACE of its region has a VALUE": none has. */
    static void promise29_words5_withoutValuesNoneIsTrue(Due due) {
        ChartRoom room = new ChartRoom();
        due.same("as bits", trueOnes(room, "n<99999,s>0,w<99999,e>0,m<99999"), 0);
        due.same("how many", room.verified(0, 1), 0);
        due.same("clauses", room.verified(0, 0), 5);
    }

    /** "all that have one are below (<), above (>) its number": not at it. */
    static void promise29_words5_aValueOfTheNumberIsNeither(Due due) {
        ChartRoom room = new ChartRoom();
        Rooms.postAt(room, 5, 5, 10000);
        due.same("at it", trueOnes(room, "n<10000,n>10000"), 0);
        due.same("one beside it", trueOnes(room, "n<10001,n>9999"), 3);
        due.same("the least and the greatest numbers", trueOnes(room, "n<0,n>0,n<99999,n>99999,n>00000"), 2 + 4 + 16);
    }

    static void promise29_words5_oneOfARegionSpoilsIt(Due due) {
        ChartRoom room = quarters();
        due.same("n has 10000 and 10010", trueOnes(room, "n<10010,n<10011,n>10000,n>9999"), 2 + 8);
        due.same("all four in m", trueOnes(room, "m>10000,m<10030,m>9999,m<10031"), 4 + 8);
    }

    /** A room in which one PLACE alone is below 10000. */
    private static ChartRoom lowAt(int x, int y) {
        ChartRoom room = new ChartRoom();
        room.steep(500);
        Rooms.postAt(room, x, y, 9900);
        Rooms.postAt(room, x - 1, y, 10100);
        Rooms.postAt(room, x + 1, y, 10100);
        Rooms.postAt(room, x, y - 1, 10100);
        Rooms.postAt(room, x, y + 1, 10100);
        return room;
    }

    /** "a region (n y below 4, s y above 7, w x below 4, e x above 7, m both in 4 .. 7)" */
    static void promise29_words5_theEdgesOfTheRegions(Due due) {
        int[][] lows = {{5, 3, 1}, {5, 4, 16}, {5, 7, 16}, {5, 8, 2}, {3, 5, 4}, {4, 5, 16}, {7, 5, 16}, {8, 5, 8},
            {3, 3, 1 + 4}, {4, 4, 16}, {7, 7, 16}, {8, 8, 2 + 8}, {4, 3, 1}, {3, 4, 4},
            {0, 0, 1 + 4}, {0, 11, 2 + 4}, {11, 0, 1 + 8}, {11, 11, 2 + 8}};
        for (int[] low : lows) {
            ChartRoom room = lowAt(low[0], low[1]);
            due.same("one low", room.line(10000, 3), 1);
            due.same("low at " + low[0] + ", " + low[1], trueOnes(room, "n>9999,s>9999,w>9999,e>9999,m>9999"), 31 - low[2]);
        }
    }
}
