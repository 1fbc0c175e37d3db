/** Promises 1 to 4, and the words on posts, at their edges. */
public final class Edges1PostsTest {
    private static final int MOST = Integer.MAX_VALUE, LEAST = Integer.MIN_VALUE;
    private static final int UNKNOWN = -1, OUTSIDE = -2, STATE = -3, FULL = -4, NONE = -9;

    public static void main(String[] args) throws ReflectiveOperationException {
        Edges.run(Edges1PostsTest.class);
    }

    // ---- 1: "No POSTS, WIRES, FRONTS, FORECASTS, KEPT CHARTS, SHEETS."

    static void promise01_noPostsAtFirst(Due due) {
        ChartRoom room = new ChartRoom();
        due.same("many", room.many(0), 0);
        due.same("about", room.about(0, 0), UNKNOWN);
        due.same("place", room.place(0, 0), UNKNOWN);
        due.same("quarrel", room.quarrel(0, 1), UNKNOWN);
        due.same("tell", room.tell(0), UNKNOWN);
        due.same("hail", room.hail(0), UNKNOWN);
        due.same("as", room.as(0, 0), UNKNOWN);
        due.same("doubted", room.doubted(), 0);
    }

    static void promise01_noWiresAtFirst(Due due) {
        ChartRoom room = new ChartRoom();
        due.same("many", room.many(1), 0);
        due.same("in view", room.many(2), 0);
        due.same("told", room.told(0, 0), UNKNOWN);
        due.same("digit", room.digit(0, 0, 0), UNKNOWN);
        due.same("readings", room.readings(0, 0), UNKNOWN);
        due.same("reading", room.reading(0, 0, 0), UNKNOWN);
        due.same("guess", room.guess(0), UNKNOWN);
        due.same("mended", room.mended(0), UNKNOWN);
        due.same("level", room.level(0), UNKNOWN);
    }

    static void promise01_noFrontsAtFirst(Due due) {
        ChartRoom room = new ChartRoom();
        for (int day = 0; day < 2; day++) {
            due.same("many, day " + day, room.many(3 + day), 0);
            due.same("front, day " + day, room.front(day, 0, 0), UNKNOWN);
            due.same("yOf, day " + day, room.yOf(day, 0, 0), UNKNOWN);
        }
        due.same("joining", room.joining(), 0);
    }

    static void promise01_noForecastsAtFirst(Due due) {
        ChartRoom room = new ChartRoom();
        due.same("many", room.many(5), 0);
        due.same("verified", room.verified(0, 0), UNKNOWN);
    }

    static void promise01_noKeptChartsAtFirst(Due due) {
        ChartRoom room = new ChartRoom();
        due.same("many", room.many(8), 0);
        for (int k = 0; k < 4; k++) {
            due.same("beside " + k, room.beside(0, 0, k, 0), ChartRoom.LOST);
            due.same("drift " + k, room.drift(k, 0), STATE);
        }
    }

    static void promise01_noSheetsAtFirst(Due due) {
        ChartRoom room = new ChartRoom();
        for (int k = 0; k < 4; k++) {
            due.same("lose " + k, room.lose(k), 0);
            due.same("put " + k, room.put(k, 0, 0), -11);
            due.same("cell " + k, room.cell(k, 0, 0), ChartRoom.LOST);
            due.same("fault " + k, room.fault(), 1);
        }
    }

    /** "THE VIEW: HOUR h, known at time k (.. 0, 99 at first)." */
    static void promise01_words2_theViewIs0And99AtFirst(Due due) {
        ChartRoom room = new ChartRoom();
        due.same("h", room.many(6), 0);
        due.same("k", room.many(7), 99);
        room.post(0, 0, 0, 0, 0, 0);
        Rooms.wire(room, 0, 0, 99, Rooms.RIGHT);
        due.same("a wire for 0 that came at 99 is in view", room.about(0, 5), 0);
    }

    /** "STEEP (.. 60 at first)" */
    static void promise01_words3_steepIs60AtFirst(Due due) {
        due.same("steep", new ChartRoom().steep(1), 60);
    }

    /** "TRACE (an int that wraps, 0 at first ..)" */
    static void promise01_words6_traceIs0AtFirst(Due due) {
        due.same("trace", new ChartRoom().trace(), 0);
    }

    /** "An object is used for at most 512 calls after it has been made": the last of these answers, too. */
    static void promise01_words_the512thCallAnswers(Due due) {
        ChartRoom room = new ChartRoom();
        for (int call = 1; call < 512; call++) {
            room.steep(1 + call % 500);
        }
        due.same("the 512th", room.steep(7), 1 + 511 % 500);
    }

    // ---- 2: "A POST: its number. OUTSIDE; FULL."

    private static int post(int which, int v) {
        int[] a = {0, 5, 5, 100, 3, 3};
        a[which] = v;
        return new ChartRoom().post(a[0], a[1], a[2], a[3], a[4], a[5]);
    }

    private static void within(Due due, int which, int low, int high) {
        due.same("the least", post(which, low), 0);
        due.same("the greatest", post(which, high), 0);
        due.same("too small", post(which, low - 1), OUTSIDE);
        due.same("too large", post(which, high + 1), OUTSIDE);
        due.same("far too small", post(which, LEAST), OUTSIDE);
        due.same("far too large", post(which, MOST), OUTSIDE);
    }

    /** "of a kind: 0 POST; 1 SHIP, a POST; 2 BUOY, a SHIP" */
    static void promise02_words1_kindIs0To2(Due due) {
        within(due, 0, 0, 2);
    }

    /** "PLACES x, y (0 .. 11 each)" */
    static void promise02_words1_xIs0To11(Due due) {
        within(due, 1, 0, 11);
    }

    static void promise02_words1_yIs0To11(Due due) {
        within(due, 2, 0, 11);
    }

    /** "with a HEIGHT (0 .. 3000)" */
    static void promise02_words1_heightIs0To3000(Due due) {
        within(due, 3, 0, 3000);
    }

    /** "GOES (gx, gy, -20 .. 20 each ..)" */
    static void promise02_words1_gxIsMinus20To20(Due due) {
        within(due, 4, -20, 20);
    }

    static void promise02_words1_gyIsMinus20To20(Due due) {
        within(due, 5, -20, 20);
    }

    /** "POSTS, 12 ever" */
    static void promise02_words1_theThirteenthIsFull(Due due) {
        ChartRoom room = twelve();
        due.same("twelve", room.many(0), 12);
        due.same("the thirteenth", room.post(0, 0, 0, 0, 0, 0), FULL);
        due.same("again", room.post(2, 11, 11, 3000, 20, 20), FULL);
        due.same("still twelve", room.many(0), 12);
        due.same("the last stands", room.about(11, 1), 11);
        due.same("there is no thirteenth", room.about(12, 0), UNKNOWN);
    }

    private static ChartRoom twelve() {
        ChartRoom room = new ChartRoom();
        for (int p = 0; p < 12; p++) {
            room.post(0, p, 0, 0, 0, 0);
        }
        return room;
    }

    /** "numbered as they come" */
    static void promise02_words1_aRefusedOneTakesNoNumber(Due due) {
        ChartRoom room = new ChartRoom();
        due.same("the first", room.post(0, 0, 0, 0, 0, 0), 0);
        due.same("refused", room.post(3, 0, 0, 0, 0, 0), OUTSIDE);
        due.same("the second", room.post(1, 0, 0, 0, 0, 0), 1);
        for (int p = 2; p < 12; p++) {
            due.same("the " + p, room.post(p % 3, 0, 0, 0, 0, 0), p);
        }
    }

    /** "of several the first in the order in which a call's line tells them" */
    static void promise02_outsideIsAheadOfFull(Due due) {
        ChartRoom room = twelve();
        due.same("kind", room.post(3, 0, 0, 0, 0, 0), OUTSIDE);
        due.same("x", room.post(0, 12, 0, 0, 0, 0), OUTSIDE);
        due.same("y", room.post(0, 0, -1, 0, 0, 0), OUTSIDE);
        due.same("height", room.post(0, 0, 0, 3001, 0, 0), OUTSIDE);
        due.same("gx", room.post(0, 0, 0, 0, 21, 0), OUTSIDE);
        due.same("gy", room.post(0, 0, 0, 0, 0, -21), OUTSIDE);
    }

    // ---- 3: "Of a POST: 0 kind, 1 x, 2 y, 3 HEIGHT, 4 how many WIRES, 5 its WIRE IN VIEW (NONE), 6 whether it is DOUBTED"

    static void promise03_unknownPosts(Due due) {
        ChartRoom room = new ChartRoom();
        due.same("in an empty room", room.about(0, 0), UNKNOWN);
        room.post(0, 0, 0, 0, 0, 0);
        due.same("the first", room.about(0, 0), 0);
        due.same("below", room.about(-1, 0), UNKNOWN);
        due.same("one too many", room.about(1, 0), UNKNOWN);
        due.same("far below", room.about(LEAST, 0), UNKNOWN);
        due.same("far above", room.about(MOST, 0), UNKNOWN);
    }

    static void promise03_whatIs0To6(Due due) {
        ChartRoom room = new ChartRoom();
        room.post(2, 1, 2, 3, 4, 5);
        int[] answers = {2, 1, 2, 3, 0, NONE, 0};
        for (int what = 0; what < 7; what++) {
            due.same("what " + what, room.about(0, what), answers[what]);
        }
        due.same("below", room.about(0, -1), OUTSIDE);
        due.same("above", room.about(0, 7), OUTSIDE);
        due.same("far below", room.about(0, LEAST), OUTSIDE);
        due.same("far above", room.about(0, MOST), OUTSIDE);
    }

    static void promise03_unknownIsAheadOfOutside(Due due) {
        due.same("both", new ChartRoom().about(0, 7), UNKNOWN);
        due.same("both below", new ChartRoom().about(-1, -1), UNKNOWN);
    }

    static void promise03_aPostWithoutWiresHas0(Due due) {
        ChartRoom room = new ChartRoom();
        room.post(0, 0, 0, 0, 0, 0);
        room.post(0, 1, 1, 0, 0, 0);
        Rooms.press(room, 1, "02530");
        due.same("none", room.about(0, 4), 0);
        due.same("one", room.about(1, 4), 1);
    }

    static void promise03_aPostWithAll30Wires(Due due) {
        ChartRoom room = new ChartRoom();
        room.post(0, 0, 0, 0, 0, 0);
        room.sheet(0, 0, 15);
        for (int w = 0; w < 31; w++) {
            room.wire(0, 99, 99, 0, 0, 0);
        }
        due.same("thirty", room.about(0, 4), 30);
    }

    static void promise03_noWireInViewIsNone(Due due) {
        ChartRoom room = new ChartRoom();
        room.post(0, 0, 0, 0, 0, 0);
        due.same("it has no wire", room.about(0, 5), NONE);
        Rooms.wire(room, 0, 1, 0, Rooms.RIGHT);
        due.same("its wire is for another hour", room.about(0, 5), NONE);
        Rooms.press(room, 0, "02531");
        due.same("its wire has no reading", room.about(0, 5), NONE);
        room.post(1, 0, 0, 0, -10, 0);
        Rooms.wire(room, 1, 1, 0, Rooms.RIGHT);
        room.view(1, 99);
        due.same("it is off the chart", room.about(1, 5), NONE);
        due.same("the other is in view", room.about(0, 5), 0);
    }

    static void promise03_doubtedIs1OtherwiseIs0(Due due) {
        ChartRoom room = new ChartRoom();
        room.post(0, 0, 0, 0, 0, 0);
        due.same("without a wire", room.about(0, 6), 0);
        Rooms.postAt(room, 4, 4, 10000);
        due.same("alone in view", room.about(1, 6), 0);
        Rooms.postAt(room, 4, 4, 10001);
        due.same("doubted", room.about(1, 6), 1);
        due.same("not doubted", room.about(2, 6), 0);
    }

    // ---- 4: "PLACE of a POST at an HOUR: 12 y and x; NONE: it is not on THE CHART. UNKNOWN; OUTSIDE."

    static void promise04_unknownPosts(Due due) {
        ChartRoom room = new ChartRoom();
        due.same("in an empty room", room.place(0, 0), UNKNOWN);
        room.post(0, 0, 0, 0, 0, 0);
        due.same("below", room.place(-1, 0), UNKNOWN);
        due.same("one too many", room.place(1, 0), UNKNOWN);
        due.same("far above", room.place(MOST, 0), UNKNOWN);
    }

    /** "At HOUR h (0 .. 99)" */
    static void promise04_words1_hourIs0To99(Due due) {
        ChartRoom room = new ChartRoom();
        room.post(2, 4, 5, 0, 0, 0);
        due.same("0", room.place(0, 0), 64);
        due.same("99", room.place(0, 99), 64);
        due.same("below", room.place(0, -1), OUTSIDE);
        due.same("above", room.place(0, 100), OUTSIDE);
        due.same("far below", room.place(0, LEAST), OUTSIDE);
        due.same("far above", room.place(0, MOST), OUTSIDE);
    }

    static void promise04_unknownIsAheadOfOutside(Due due) {
        due.same("both", new ChartRoom().place(0, 100), UNKNOWN);
    }

    static void promise04_theCornersOfTheChart(Due due) {
        ChartRoom room = new ChartRoom();
        room.post(0, 0, 0, 0, 0, 0);
        room.post(0, 11, 0, 0, 0, 0);
        room.post(0, 0, 11, 0, 0, 0);
        room.post(0, 11, 11, 0, 0, 0);
        int[] want = {0, 11, 132, 143};
        for (int p = 0; p < 4; p++) {
            due.same("corner " + p, room.place(p, 50), want[p]);
        }
    }

    /** "a POST is where it is" */
    static void promise04_words1_aPostStaysThoughItGoes(Due due) {
        ChartRoom room = new ChartRoom();
        room.post(0, 11, 0, 0, 20, -20);
        due.same("at 0", room.place(0, 0), 11);
        due.same("at 1", room.place(0, 1), 11);
        due.same("at 99", room.place(0, 99), 11);
    }

    private static int shipAt(int x, int y, int gx, int gy, int hour) {
        ChartRoom room = new ChartRoom();
        room.post(1, x, y, 0, gx, gy);
        return room.place(0, hour);
    }

    /** "(none, if that is not on THE CHART)" */
    static void promise04_words1_aShipBeyondAnEdgeIsNone(Due due) {
        due.same("on the east edge", shipAt(10, 5, 10, 0, 1), 71);
        due.same("beyond the east edge", shipAt(10, 5, 10, 0, 2), NONE);
        due.same("on the west edge", shipAt(1, 5, -10, 0, 1), 60);
        due.same("beyond the west edge", shipAt(1, 5, -10, 0, 2), NONE);
        due.same("on the south edge", shipAt(5, 10, 0, 10, 1), 137);
        due.same("beyond the south edge", shipAt(5, 10, 0, 10, 2), NONE);
        due.same("on the north edge", shipAt(5, 1, 0, -10, 1), 5);
        due.same("beyond the north edge", shipAt(5, 1, 0, -10, 2), NONE);
        due.same("far off", shipAt(11, 11, 20, 20, 99), NONE);
        due.same("far off below", shipAt(0, 0, -20, -20, 99), NONE);
        due.same("both beyond, as if they were a place", shipAt(0, 1, -10, 0, 1), NONE);
    }

    /** "Quotients are cut down (below 0, too: the next whole number that is not above)." */
    static void promise04_words_aShipsQuotientIsCutDown(Due due) {
        due.same("9 by 10", shipAt(5, 5, 1, 0, 9), 65);
        due.same("10 by 10", shipAt(5, 5, 1, 0, 10), 66);
        due.same("-1 by 10", shipAt(5, 5, -1, 0, 1), 64);
        due.same("-10 by 10", shipAt(5, 5, -1, 0, 10), 64);
        due.same("-11 by 10", shipAt(5, 5, -1, 0, 11), 63);
        due.same("y, -1 by 10", shipAt(5, 5, 0, -1, 1), 53);
        due.same("y, 9 by 10", shipAt(5, 5, 0, 1, 9), 65);
        due.same("-1 by 10 from the edge", shipAt(0, 0, -1, 0, 1), NONE);
        due.same("0 by 10", shipAt(0, 0, -1, -1, 0), 0);
    }

    private static int buoyX(int x, int gx, int hour) {
        ChartRoom room = new ChartRoom();
        room.post(2, x, 0, 0, gx, 0);
        return room.place(0, hour);
    }

    private static int buoyY(int y, int gy, int hour) {
        ChartRoom room = new ChartRoom();
        room.post(2, 0, y, 0, 0, gy);
        return room.place(0, hour) / 12;
    }

    /** "a BUOY likewise, but thrown back at the edges: of a number v the rest by 22, and if that is above 11 then 22 less it" */
    static void promise04_words1_aBuoyIsThrownBackAtTheEdges(Due due) {
        int[][] runs = {{11, 0, 11}, {11, 1, 10}, {11, 10, 1}, {11, 11, 0}, {11, 12, 1}, {11, 22, 11}, {11, 23, 10}, {11, 33, 0},
            {0, 11, 11}, {0, 12, 10}, {0, 21, 1}, {0, 22, 0}, {0, 23, 1}, {0, 99, 11}};
        for (int[] run : runs) {
            due.same("x, up, from " + run[0] + " by " + run[1], buoyX(run[0], 10, run[1]), run[2]);
            due.same("y, up, from " + run[0] + " by " + run[1], buoyY(run[0], 10, run[1]), run[2]);
            due.same("x, down, as in a mirror, by " + run[1], buoyX(11 - run[0], -10, run[1]), 11 - run[2]);
            due.same("y, down, as in a mirror, by " + run[1], buoyY(11 - run[0], -10, run[1]), 11 - run[2]);
        }
        due.same("the farthest up", buoyX(11, 20, 99), 11);
        due.same("the farthest down", buoyX(0, -20, 99), 0);
    }

    static void promise04_words1_aBuoysQuotientIsCutDownAheadOfThrowing(Due due) {
        due.same("-1 by 10 from 0", buoyX(0, -1, 1), 1);
        due.same("-11 by 10 from 0", buoyX(0, -1, 11), 2);
        due.same("-1 by 10 from 1", buoyX(1, -1, 1), 0);
        due.same("9 by 10 from 11", buoyX(11, 1, 9), 11);
        due.same("19 by 10 from 11", buoyY(11, 1, 19), 10);
    }
}
