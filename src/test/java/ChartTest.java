/** Promises 14 to 18: steepness, quarrels, doubts, values, lines. */
public final class ChartTest {
    private static final Due due = new Due("ChartTest");

    public static void main(String[] args) {
        steep();
        quarrel();
        quarrelRefused();
        quarrelAtOnePlace();
        doubtedFewest();
        doubtedLeast();
        doubtedFollows();
        value();
        valueTie();
        valueWithoutDoubted();
        line();
        lineAtEdge();
        lineInPieces();
        lineAroundOne();
        wrong();
        due.end();
    }

    private static void steep() {
        ChartRoom room = new ChartRoom();
        due.same("14: at first", room.steep(500), 60);
        due.same("14: then", room.steep(1), 500);
        due.same("14: outside", room.steep(0), -2);
        due.same("14: outside above", room.steep(501), -2);
        due.same("14: refused, it stays", room.steep(60), 1);
    }

    private static void quarrel() {
        ChartRoom room = new ChartRoom();
        Rooms.postAt(room, 0, 0, 10000);
        Rooms.postAt(room, 2, 1, 10120);
        due.same("15: 120 in two steps", room.quarrel(0, 1), 0);
        room.steep(59);
        due.same("15: steeper than 59", room.quarrel(0, 1), 1);
        due.same("15: the other way round", room.quarrel(1, 0), 1);
        room.steep(60);
        Rooms.postAt(room, 1, 2, 10121);
        due.same("15: 121 in two steps", room.quarrel(0, 2), 1);
        due.same("15: 1 in one step", room.quarrel(1, 2), 0);
    }

    private static void quarrelRefused() {
        ChartRoom room = new ChartRoom();
        Rooms.postAt(room, 0, 0, 10000);
        room.post(0, 1, 1, 0, 0, 0);
        due.same("15: both are one", room.quarrel(0, 0), -3);
        due.same("15: the second has none", room.quarrel(0, 1), -3);
        due.same("15: the first has none", room.quarrel(1, 0), -3);
        due.same("15: unknown", room.quarrel(0, 2), -1);
        due.same("15: unknown below", room.quarrel(-1, 0), -1);
        due.same("15: unknown ahead of state", room.quarrel(2, 2), -1);
    }

    private static void quarrelAtOnePlace() {
        ChartRoom room = new ChartRoom();
        Rooms.postAt(room, 4, 4, 10000);
        Rooms.postAt(room, 4, 4, 10000);
        Rooms.postAt(room, 4, 4, 10001);
        due.same("15: no steps, no difference", room.quarrel(0, 1), 0);
        due.same("15: no steps, a difference", room.quarrel(0, 2), 1);
    }

    private static void doubtedFewest() {
        ChartRoom room = new ChartRoom();
        due.same("16: none ever", room.doubted(), 0);
        Rooms.postAt(room, 0, 0, 10000);
        Rooms.postAt(room, 1, 0, 10010);
        Rooms.postAt(room, 1, 1, 10400);
        Rooms.postAt(room, 0, 1, 10020);
        due.same("16: one against three", room.doubted(), 4);
        due.same("3: doubted", room.about(2, 6), 1);
        due.same("3: not doubted", room.about(0, 6), 0);
    }

    private static void doubtedLeast() {
        ChartRoom room = new ChartRoom();
        Rooms.postAt(room, 0, 0, 10000);
        Rooms.postAt(room, 1, 0, 10100);
        due.same("16: one of two, the least number", room.doubted(), 1);
        Rooms.postAt(room, 10, 10, 10000);
        Rooms.postAt(room, 10, 11, 10100);
        due.same("16: one of each two", room.doubted(), 5);
        Rooms.postAt(room, 0, 0, 10000);
        due.same("16: 1 against 0 and 4", room.doubted(), 2 + 4);
    }

    private static void doubtedFollows() {
        ChartRoom room = new ChartRoom();
        Rooms.postAt(room, 0, 0, 10000);
        Rooms.postAt(room, 1, 0, 10100);
        due.same("16: at 60", room.doubted(), 1);
        room.steep(100);
        due.same("16: at 100", room.doubted(), 0);
        room.steep(99);
        due.same("16: at 99", room.doubted(), 1);
        room.view(1, 0);
        due.same("16: none in view", room.doubted(), 0);
        room.view(0, 0);
        Rooms.press(room, 1, Rooms.pressOf(10010));
        due.same("16: put right by a later one", room.doubted(), 0);
    }

    private static void value() {
        ChartRoom room = new ChartRoom();
        due.same("17: none", room.value(5, 5), -9);
        room.post(0, 0, 0, 0, 0, 0);
        due.same("17: a post without a wire", room.value(0, 0), -9);
        Rooms.postAt(room, 2, 0, 10050);
        due.same("17: of the only one", room.value(11, 11), 10050);
        Rooms.postAt(room, 9, 9, 10100);
        due.same("17: nearer to the other", room.value(11, 11), 10100);
        due.same("17: 49 against 81", room.value(2, 7), 10050);
        due.same("17: x above", room.value(12, 0), -1);
        due.same("17: x below", room.value(-1, 0), -1);
        due.same("17: y above", room.value(0, 12), -1);
        due.same("17: y below", room.value(0, -1), -1);
    }

    private static void valueTie() {
        ChartRoom room = new ChartRoom();
        Rooms.postAt(room, 6, 0, 10050);
        Rooms.postAt(room, 2, 0, 10060);
        due.same("17: as far from both", room.value(4, 7), 10050);
        due.same("17: by squares, not by steps", room.value(3, 5), 10060);
        Rooms.postAt(room, 6, 0, 10050);
        due.same("17: as steps 4 and 4, squares 16 and 32", room.value(6, 4), 10050);
    }

    private static void valueWithoutDoubted() {
        ChartRoom room = new ChartRoom();
        Rooms.postAt(room, 0, 0, 10000);
        Rooms.postAt(room, 5, 5, 10499);
        Rooms.postAt(room, 9, 0, 10030);
        due.same("16: the middle one", room.doubted(), 2);
        due.same("17: not from the doubted one", room.value(5, 5), 10030);
        room.post(1, 4, 0, 0, 10, 0);
        Rooms.press(room, 3, Rooms.pressOf(10010));
        due.same("17: a ship where it is", room.value(4, 0), 10010);
        Rooms.wire(room, 3, 5, 0, Rooms.WIND + Rooms.pressOf(10010) + Rooms.HEAT);
        Rooms.wire(room, 0, 5, 0, Rooms.WIND + Rooms.pressOf(10000) + Rooms.HEAT);
        room.view(5, 0);
        due.same("17: a ship where it has gone", room.value(5, 0), 10010);
        due.same("17: and no more where it was", room.value(4, 0), 10000);
    }

    private static ChartRoom halves() {
        ChartRoom room = new ChartRoom();
        Rooms.postAt(room, 2, 5, 10000);
        Rooms.postAt(room, 9, 5, 10100);
        return room;
    }

    private static void line() {
        ChartRoom room = halves();
        due.same("18: length", room.line(10050, 0), 12);
        due.same("18: pieces below", room.line(10050, 1), 1);
        due.same("18: pieces of the others", room.line(10050, 2), 1);
        due.same("18: places below", room.line(10050, 3), 72);
        due.same("18: wrong", room.line(10050, 4), 0);
        due.same("18: v below", room.line(-1, 0), -2);
        due.same("18: v above", room.line(20001, 0), -2);
        due.same("18: what above", room.line(0, 5), -2);
        due.same("18: what below", room.line(0, -1), -2);
        ChartRoom bare = new ChartRoom();
        due.same("18: state", bare.line(0, 0), -3);
        due.same("18: outside ahead of state", bare.line(0, 5), -2);
    }

    private static void lineAtEdge() {
        ChartRoom room = halves();
        due.same("18: at the lower value none is below", room.line(10000, 3), 0);
        due.same("18: no line", room.line(10000, 0), 0);
        due.same("18: no piece", room.line(10000, 1), 0);
        due.same("18: one of the others", room.line(10000, 2), 1);
        due.same("18: one above it, half are", room.line(10001, 3), 72);
        due.same("18: at the higher value", room.line(10100, 3), 72);
        due.same("18: one above that", room.line(10101, 3), 144);
        due.same("18: all below", room.line(20000, 1), 1);
        due.same("18: none of the others", room.line(20000, 2), 0);
        due.same("18: v 0", room.line(0, 3), 0);
    }

    private static void lineInPieces() {
        ChartRoom room = new ChartRoom();
        room.steep(500);
        // a plus of one level, four corners of another: no corner hangs together with the next one
        Rooms.postAt(room, 0, 0, 10000);
        Rooms.postAt(room, 11, 0, 10000);
        Rooms.postAt(room, 0, 11, 10000);
        Rooms.postAt(room, 11, 11, 10000);
        Rooms.postAt(room, 5, 5, 10100);
        Rooms.postAt(room, 5, 0, 10100);
        Rooms.postAt(room, 0, 5, 10100);
        Rooms.postAt(room, 11, 5, 10100);
        Rooms.postAt(room, 5, 11, 10100);
        due.same("18: four pieces below", room.line(10050, 1), 4);
        due.same("18: one of the others", room.line(10050, 2), 1);
        int below = 0;
        int length = 0;
        int[][] values = new int[12][12];
        for (int x = 0; x < 12; x++) {
            for (int y = 0; y < 12; y++) {
                values[x][y] = room.value(x, y);
                below += values[x][y] < 10050 ? 1 : 0;
                length += x > 0 && values[x][y] != values[x - 1][y] ? 1 : 0;
                length += y > 0 && values[x][y] != values[x][y - 1] ? 1 : 0;
            }
        }
        due.same("18: places below, counted", room.line(10050, 3), below);
        due.same("18: length, counted", room.line(10050, 0), length);
    }

    private static void lineAroundOne() {
        // one PLACE alone is high: all others hang together around it, wherever it is
        int[][] highs = {{5, 5}, {5, 0}, {0, 5}, {5, 11}, {11, 5}, {0, 0}, {11, 0}, {0, 11}, {11, 11}};
        for (int[] high : highs) {
            ChartRoom room = new ChartRoom();
            room.steep(500);
            int x = high[0];
            int y = high[1];
            Rooms.postAt(room, x, y, 10100);
            int[][] neighbours = {{x - 1, y}, {x + 1, y}, {x, y - 1}, {x, y + 1}};
            int length = 0;
            for (int[] at : neighbours) {
                length += Rooms.postAt(room, at[0], at[1], 9900) < 0 ? 0 : 1;
            }
            String one = "18: one high at " + x + ", " + y;
            due.same(one + ", its piece", room.line(10000, 2), 1);
            due.same(one + ", the others'", room.line(10000, 1), 1);
            due.same(one + ", its piece again", room.line(10000, 2), 1);
            due.same(one + ", its length", room.line(10000, 0), length);
            due.same(one + ", below", room.line(10000, 3), 143);
        }
    }

    private static void wrong() {
        ChartRoom room = new ChartRoom();
        Rooms.postAt(room, 0, 0, 10000);
        Rooms.postAt(room, 1, 0, 10020);
        Rooms.postAt(room, 0, 1, 10300);
        due.same("16: the third", room.doubted(), 4);
        due.same("18: the doubted one is on the other side", room.line(10100, 4), 1);
        due.same("18: on the same side", room.line(10301, 4), 0);
        due.same("18: all on the one side", room.line(10000, 4), 0);
        // one place with two posts: the place has the value of the least
        room = new ChartRoom();
        room.steep(60);
        Rooms.postAt(room, 3, 3, 10000);
        Rooms.postAt(room, 3, 3, 10010);
        due.same("16: the first", room.doubted(), 1);
        due.same("18: between both", room.line(10005, 4), 1);
    }
}
