/** Promises 14 to 18, and the words on the chart, at their edges. */
public final class Edges3ChartTest {
    private static final int MOST = Integer.MAX_VALUE, LEAST = Integer.MIN_VALUE;
    private static final int UNKNOWN = -1, OUTSIDE = -2, STATE = -3, NONE = -9;

    public static void main(String[] args) throws ReflectiveOperationException {
        Edges.run(Edges3ChartTest.class);
    }

    /** Two posts of these LEVELS, that many steps apart along y. */
    private static ChartRoom apart(int steps, int level, int other) {
        ChartRoom room = new ChartRoom();
        Rooms.postAt(room, 5, 0, level);
        Rooms.postAt(room, 5, steps, other);
        return room;
    }

    // ---- 14: "STEEP becomes v: what it was. OUTSIDE."

    /** "STEEP (1 .. 500; 60 at first)" */
    static void promise14_words3_steepIs1To500(Due due) {
        ChartRoom room = new ChartRoom();
        due.same("1", room.steep(1), 60);
        due.same("500", room.steep(500), 1);
        due.same("below", room.steep(0), OUTSIDE);
        due.same("above", room.steep(501), OUTSIDE);
        due.same("far below", room.steep(LEAST), OUTSIDE);
        due.same("far above", room.steep(MOST), OUTSIDE);
        due.same("-1", room.steep(-1), OUTSIDE);
        due.same("refused, it stays", room.steep(60), 500);
    }

    static void promise14_refusedNoQuarrelChanges(Due due) {
        ChartRoom room = apart(1, 10000, 10061);
        due.same("at 60", room.doubted(), 1);
        room.steep(0);
        due.same("after 0", room.doubted(), 1);
        room.steep(501);
        due.same("after 501", room.doubted(), 1);
        room.steep(61);
        due.same("after 61", room.doubted(), 0);
    }

    // ---- 15: "Whether two POSTS' WIRES IN VIEW QUARREL: 1, 0. UNKNOWN; STATE: one has none, or both are one."

    static void promise15_unknownPosts(Due due) {
        ChartRoom room = apart(1, 10000, 10000);
        due.same("both known", room.quarrel(0, 1), 0);
        due.same("the first below", room.quarrel(-1, 1), UNKNOWN);
        due.same("the first above", room.quarrel(2, 1), UNKNOWN);
        due.same("the second below", room.quarrel(0, -1), UNKNOWN);
        due.same("the second above", room.quarrel(0, 2), UNKNOWN);
        due.same("far above", room.quarrel(MOST, LEAST), UNKNOWN);
    }

    static void promise15_bothAreOneIsState(Due due) {
        ChartRoom room = apart(1, 10000, 10499);
        due.same("0", room.quarrel(0, 0), STATE);
        due.same("1", room.quarrel(1, 1), STATE);
        due.same("unknown is ahead of it", room.quarrel(2, 2), UNKNOWN);
    }

    static void promise15_oneHasNoneIsState(Due due) {
        ChartRoom room = apart(1, 10000, 10499);
        due.same("both have one", room.quarrel(0, 1), 1);
        room.post(0, 0, 0, 0, 0, 0);
        due.same("the second has none", room.quarrel(0, 2), STATE);
        due.same("the first has none", room.quarrel(2, 0), STATE);
        due.same("unknown is ahead of it", room.quarrel(2, 3), UNKNOWN);
        room.view(1, 99);
        due.same("both have none", room.quarrel(0, 1), STATE);
    }

    /** "differ by more than STEEP .. times their STEPS" */
    static void promise15_words3_justSteepTimesStepsIsNoQuarrel(Due due) {
        due.same("60 in 1", apart(1, 10000, 10060).quarrel(0, 1), 0);
        due.same("61 in 1", apart(1, 10000, 10061).quarrel(0, 1), 1);
        due.same("-60 in 1", apart(1, 10060, 10000).quarrel(0, 1), 0);
        due.same("-61 in 1", apart(1, 10061, 10000).quarrel(0, 1), 1);
        due.same("120 in 2", apart(2, 10000, 10120).quarrel(0, 1), 0);
        due.same("121 in 2", apart(2, 10000, 10121).quarrel(1, 0), 1);
        due.same("660 in 11", apart(11, 9500, 10160).quarrel(0, 1), 0);
        due.same("661 in 11", apart(11, 9500, 10161).quarrel(0, 1), 1);
    }

    static void promise15_words3_atOnePlaceAnyDifferenceIsAQuarrel(Due due) {
        ChartRoom room = apart(0, 10000, 10000);
        room.steep(500);
        due.same("none", room.quarrel(0, 1), 0);
        room = apart(0, 10000, 10001);
        room.steep(500);
        due.same("1", room.quarrel(0, 1), 1);
    }

    static void promise15_words3_theLeastAndTheGreatestSteep(Due due) {
        ChartRoom room = apart(1, 10000, 10001);
        room.steep(1);
        due.same("1 at 1", room.quarrel(0, 1), 0);
        room = apart(1, 10000, 10002);
        room.steep(1);
        due.same("2 at 1", room.quarrel(0, 1), 1);
        room = apart(1, 9900, 10400);
        room.steep(500);
        due.same("500 at 500", room.quarrel(0, 1), 0);
        room.steep(499);
        due.same("500 at 499", room.quarrel(0, 1), 1);
    }

    /** "STEPS of two PLACES: the greater of the sizes of dx, dy" */
    static void promise15_words1_stepsAreTheGreaterSize(Due due) {
        int[][] ways = {{2, 1}, {1, 2}, {-2, 1}, {1, -2}, {-2, -2}, {2, 2}, {0, 2}, {-2, 0}};
        for (int[] way : ways) {
            ChartRoom room = new ChartRoom();
            Rooms.postAt(room, 5, 5, 10000);
            Rooms.postAt(room, 5 + way[0], 5 + way[1], 10120);
            due.same("120, " + way[0] + ", " + way[1], room.quarrel(0, 1), 0);
            room.steep(59);
            due.same("steeper, " + way[0] + ", " + way[1], room.quarrel(0, 1), 1);
        }
    }

    // ---- 16: "DOUBTED POSTS, as a set."

    static void promise16_noneIs0(Due due) {
        ChartRoom room = new ChartRoom();
        due.same("no posts", room.doubted(), 0);
        room.post(0, 0, 0, 0, 0, 0);
        due.same("none in view", room.doubted(), 0);
        Rooms.postAt(room, 1, 1, 10000);
        due.same("one alone", room.doubted(), 0);
        Rooms.postAt(room, 1, 2, 10060);
        due.same("two that don't quarrel", room.doubted(), 0);
    }

    /** "of several the least as a number (bit p for POST p)" */
    static void promise16_words3_ofTwoTheLeastNumber(Due due) {
        due.same("of 1 and 2", apart(0, 10000, 10001).doubted(), 1);
        ChartRoom room = apart(0, 10000, 10000);
        Rooms.postAt(room, 11, 11, 10000);
        Rooms.postAt(room, 11, 11, 10001);
        due.same("of 4 and 8", room.doubted(), 4);
    }

    /** "the one with the fewest" is ahead of "the least as a number". */
    static void promise16_words3_theFewestThoughAGreaterNumber(Due due) {
        ChartRoom room = apart(0, 10000, 10000);
        Rooms.postAt(room, 5, 0, 10001);
        due.same("4, not 3", room.doubted(), 4);
    }

    static void promise16_words3_theTwelfthPost(Due due) {
        ChartRoom room = new ChartRoom();
        for (int p = 0; p < 11; p++) {
            Rooms.postAt(room, 3, 3, 10000);
        }
        due.same("eleven agree", room.doubted(), 0);
        Rooms.postAt(room, 3, 3, 10001);
        due.same("the twelfth doesn't", room.doubted(), 2048);
        due.same("it is told so", room.about(11, 6), 1);
    }

    static void promise16_words3_allTwelveQuarrel(Due due) {
        ChartRoom room = new ChartRoom();
        for (int p = 0; p < 12; p++) {
            Rooms.postAt(room, 3, 3, 10000 + p);
        }
        due.same("all but the last", room.doubted(), 2047);
        due.same("its value is everywhere", room.value(3, 3), 10011);
    }

    // ---- 17: "VALUE of a PLACE; NONE. UNKNOWN."

    static void promise17_unknownPlaces(Due due) {
        ChartRoom room = new ChartRoom();
        Rooms.postAt(room, 5, 5, 10000);
        due.same("x below", room.value(-1, 0), UNKNOWN);
        due.same("x above", room.value(12, 0), UNKNOWN);
        due.same("y below", room.value(0, -1), UNKNOWN);
        due.same("y above", room.value(0, 12), UNKNOWN);
        due.same("far off", room.value(LEAST, MOST), UNKNOWN);
        due.same("unknown without values, too", new ChartRoom().value(12, 12), UNKNOWN);
    }

    static void promise17_theCorners(Due due) {
        ChartRoom room = new ChartRoom();
        room.steep(500);
        Rooms.postAt(room, 0, 0, 10000);
        Rooms.postAt(room, 11, 0, 10011);
        Rooms.postAt(room, 0, 11, 10022);
        Rooms.postAt(room, 11, 11, 10033);
        due.same("0, 0", room.value(0, 0), 10000);
        due.same("11, 0", room.value(11, 0), 10011);
        due.same("0, 11", room.value(0, 11), 10022);
        due.same("11, 11", room.value(11, 11), 10033);
        due.same("5, 5", room.value(5, 5), 10000);
        due.same("6, 5", room.value(6, 5), 10011);
        due.same("5, 6", room.value(5, 6), 10022);
    }

    /** "NONE: there is none" */
    static void promise17_words3_withoutAPostInViewIsNone(Due due) {
        ChartRoom room = new ChartRoom();
        due.same("no posts", room.value(0, 0), NONE);
        room.post(0, 0, 0, 0, 0, 0);
        due.same("no wires", room.value(0, 0), NONE);
        Rooms.press(room, 0, "02531");
        due.same("no reading", room.value(0, 0), NONE);
        Rooms.press(room, 0, "02530");
        due.same("one", room.value(11, 11), 10025);
        room.view(1, 99);
        due.same("at another hour", room.value(11, 11), NONE);
    }

    /** "(by FAR; then the least POST)" */
    static void promise17_words3_ofSeveralAsFarTheLeastPost(Due due) {
        ChartRoom room = new ChartRoom();
        Rooms.postAt(room, 7, 5, 10010);
        Rooms.postAt(room, 3, 5, 10020);
        due.same("between both", room.value(5, 5), 10010);
        due.same("one nearer to the second", room.value(4, 5), 10020);
    }

    static void promise17_words1_farIsTheSumOfSquares(Due due) {
        ChartRoom room = new ChartRoom();
        Rooms.postAt(room, 3, 3, 10010);
        Rooms.postAt(room, 0, 4, 10020);
        due.same("9 and 9 are more than 0 and 16", room.value(0, 0), 10020);
        room = new ChartRoom();
        Rooms.postAt(room, 3, 4, 10010);
        Rooms.postAt(room, 5, 0, 10020);
        due.same("9 and 16 are as much as 25 and 0", room.value(0, 0), 10010);
    }

    static void promise17_words3_aDoubtedPostGivesNone(Due due) {
        ChartRoom room = apart(0, 10000, 10001);
        due.same("at its own place, too", room.value(5, 0), 10001);
    }

    // ---- 18: "LINE at v (0 .. 20000): .. OUTSIDE; STATE: no PLACE has a VALUE."

    static void promise18_vIs0To20000(Due due) {
        ChartRoom room = apart(0, 10000, 10000);
        due.same("0", room.line(0, 3), 0);
        due.same("20000", room.line(20000, 3), 144);
        due.same("below", room.line(-1, 3), OUTSIDE);
        due.same("above", room.line(20001, 3), OUTSIDE);
        due.same("far below", room.line(LEAST, 3), OUTSIDE);
        due.same("far above", room.line(MOST, 3), OUTSIDE);
    }

    static void promise18_whatIs0To4(Due due) {
        ChartRoom room = apart(0, 10000, 10000);
        due.same("0", room.line(10000, 0), 0);
        due.same("4", room.line(10000, 4), 0);
        due.same("below", room.line(10000, -1), OUTSIDE);
        due.same("above", room.line(10000, 5), OUTSIDE);
        due.same("far above", room.line(10000, MOST), OUTSIDE);
    }

    static void promise18_withoutValuesIsState(Due due) {
        ChartRoom room = new ChartRoom();
        room.post(0, 0, 0, 0, 0, 0);
        for (int what = 0; what < 5; what++) {
            due.same("what " + what, room.line(10000, what), STATE);
        }
        due.same("v is ahead of it", room.line(20001, 0), OUTSIDE);
        due.same("what is ahead of it", room.line(0, 5), OUTSIDE);
    }

    /** "BELOW are PLACES with a VALUE below v" */
    static void promise18_words3_aValueOfVIsNotBelow(Due due) {
        ChartRoom room = new ChartRoom();
        Rooms.postAt(room, 0, 0, 10000);
        due.same("at it", room.line(10000, 3), 0);
        due.same("one above", room.line(10001, 3), 144);
    }

    static void promise18_words3_allOnOneSide(Due due) {
        ChartRoom room = new ChartRoom();
        Rooms.postAt(room, 0, 0, 10000);
        due.same("none below: its length", room.line(10000, 0), 0);
        due.same("none below: its pieces", room.line(10000, 1), 0);
        due.same("none below: the others'", room.line(10000, 2), 1);
        due.same("all below: its length", room.line(10001, 0), 0);
        due.same("all below: its pieces", room.line(10001, 1), 1);
        due.same("all below: the others'", room.line(10001, 2), 0);
    }

    /** "pairs of neighbours (by one step along x or y)": one row's end is no neighbour of the next row's beginning. */
    static void promise18_words3_theLineAtTheChartsEdges(Due due) {
        ChartRoom room = new ChartRoom();
        Rooms.postAt(room, 0, 5, 10000);
        Rooms.postAt(room, 1, 5, 10010);
        due.same("the west column parted off", room.line(10005, 0), 12);
        due.same("it is one piece", room.line(10005, 1), 1);
        room = new ChartRoom();
        Rooms.postAt(room, 5, 11, 10000);
        Rooms.postAt(room, 5, 10, 10010);
        due.same("the last row parted off", room.line(10005, 0), 12);
        due.same("twelve places", room.line(10005, 3), 12);
        room = new ChartRoom();
        Rooms.postAt(room, 11, 0, 10000);
        Rooms.postAt(room, 10, 0, 10010);
        Rooms.postAt(room, 11, 1, 10010);
        due.same("one corner parted off", room.line(10005, 0), 2);
        due.same("one place", room.line(10005, 3), 1);
        due.same("two pieces in all", room.line(10005, 1) + room.line(10005, 2), 2);
    }

    /** "PIECES .. that hang together by neighbours": not aslant. */
    static void promise18_words3_piecesDoNotHangTogetherAslant(Due due) {
        ChartRoom room = new ChartRoom();
        Rooms.postAt(room, 0, 0, 10000);
        Rooms.postAt(room, 1, 1, 10000);
        Rooms.postAt(room, 1, 0, 10010);
        Rooms.postAt(room, 0, 1, 10010);
        due.same("0, 0", room.value(0, 0), 10000);
        due.same("1, 1", room.value(1, 1), 10000);
        due.same("a corner and the rest aslant of it", room.line(10005, 1), 2);
        due.same("on both sides of them", room.line(10005, 2), 2);
        room = new ChartRoom();
        Rooms.postAt(room, 11, 3, 10000);
        Rooms.postAt(room, 10, 3, 10010);
        Rooms.postAt(room, 11, 2, 10010);
        Rooms.postAt(room, 11, 4, 10010);
        Rooms.postAt(room, 0, 4, 10000);
        Rooms.postAt(room, 1, 4, 10010);
        Rooms.postAt(room, 0, 3, 10010);
        Rooms.postAt(room, 0, 5, 10010);
        due.same("two places, at a row's end and at the next one's beginning", room.line(10005, 3), 2);
        due.same("two pieces", room.line(10005, 1), 2);
        due.same("around them one", room.line(10005, 2), 1);
    }

    /** One row's beginning is no neighbour of the end of the row above it. */
    static void promise18_words3_piecesDoNotHangTogetherAroundTheChart(Due due) {
        ChartRoom room = new ChartRoom();
        int[][] lows = {{0, 0}, {0, 1}, {11, 0}};
        int[][] highs = {{1, 0}, {1, 1}, {0, 2}, {10, 0}, {11, 1}};
        for (int[] low : lows) {
            Rooms.postAt(room, low[0], low[1], 10000);
        }
        for (int[] high : highs) {
            Rooms.postAt(room, high[0], high[1], 10010);
        }
        due.same("three places", room.line(10005, 3), 3);
        due.same("two pieces", room.line(10005, 1), 2);
        due.same("around them one", room.line(10005, 2), 1);
    }

    /** A piece hangs together around one PLACE, at whichever edge that is. */
    static void promise18_words3_aPieceAroundOnePlace(Due due) {
        int[][] places = {{5, 5}, {1, 0}, {10, 0}, {0, 1}, {11, 1}, {1, 11}, {10, 11}, {0, 10}, {0, 0}, {11, 0}, {0, 11}, {11, 11}};
        for (int[] at : places) {
            ChartRoom room = new ChartRoom();
            room.steep(500);
            Rooms.postAt(room, at[0], at[1], 10100);
            Rooms.postAt(room, at[0] - 1, at[1], 9900);
            Rooms.postAt(room, at[0] + 1, at[1], 9900);
            Rooms.postAt(room, at[0], at[1] - 1, 9900);
            Rooms.postAt(room, at[0], at[1] + 1, 9900);
            String one = "around " + at[0] + ", " + at[1];
            due.same(one + ": 143 places", room.line(10000, 3), 143);
            due.same(one + ": one piece", room.line(10000, 1), 1);
            due.same(one + ": and the place", room.line(10000, 2), 1);
            due.same(one + ": its length", room.line(10000, 0), room.many(0) - 1);
        }
    }

    static void promise18_words3_twoPiecesOfOnePlaceEach(Due due) {
        ChartRoom room = new ChartRoom();
        room.steep(500);
        int[][] places = {{3, 3}, {8, 8}};
        for (int[] at : places) {
            Rooms.postAt(room, at[0], at[1], 10100);
            Rooms.postAt(room, at[0] - 1, at[1], 9900);
            Rooms.postAt(room, at[0] + 1, at[1], 9900);
            Rooms.postAt(room, at[0], at[1] - 1, 9900);
            Rooms.postAt(room, at[0], at[1] + 1, 9900);
        }
        due.same("all but two", room.line(10000, 3), 142);
        due.same("one piece around both", room.line(10000, 1), 1);
        due.same("two pieces", room.line(10000, 2), 2);
        due.same("eight pairs", room.line(10000, 0), 8);
        due.same("still one piece", room.line(10000, 1), 1);
        room = new ChartRoom();
        room.steep(500);
        Rooms.postAt(room, 2, 0, 10100);
        Rooms.postAt(room, 1, 1, 10100);
        int[][] lows = {{0, 0}, {1, 0}, {3, 0}, {0, 1}, {2, 1}, {1, 2}};
        for (int[] low : lows) {
            Rooms.postAt(room, low[0], low[1], 9900);
        }
        due.same("aslant: one piece around both", room.line(10000, 1), 1);
        due.same("aslant: two pieces", room.line(10000, 2), 2);
    }

    /** "how many POSTS IN VIEW (DOUBTED ones, too) have a LEVEL on the other side than the VALUE of their PLACE" */
    static void promise18_words3_wrongAtTheEdgeOfBothSides(Due due) {
        ChartRoom room = apart(0, 10000, 10001);
        due.same("the first is doubted", room.doubted(), 1);
        due.same("both not below", room.line(10000, 4), 0);
        due.same("the doubted one below", room.line(10001, 4), 1);
        due.same("both below", room.line(10002, 4), 0);
    }

    static void promise18_words3_wrongCountsOnlyPostsInView(Due due) {
        ChartRoom room = apart(0, 10000, 10001);
        room.post(0, 5, 0, 0, 0, 0);
        Rooms.wire(room, 2, 1, 0, Rooms.RIGHT);
        due.same("one", room.line(10001, 4), 1);
        Rooms.press(room, 2, Rooms.pressOf(10000));
        due.same("now the other is doubted", room.doubted(), 2);
        due.same("and wrong", room.line(10001, 4), 1);
    }
}
