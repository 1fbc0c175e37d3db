/** Promises 30 to 34, 39 and 40: sheets, faults, counts. */
public final class SheetsTest {
    private static final Due due = new Due("SheetsTest");

    public static void main(String[] args) {
        sheet();
        sheetRefused();
        lose();
        put();
        cell();
        lanes();
        copy();
        copyOntoItself();
        copyFaults();
        fault();
        many();
        due.end();
    }

    private static void sheet() {
        ChartRoom room = new ChartRoom();
        due.same("30: a row", room.sheet(0, 0, 3), 1);
        due.same("33: zeros", room.cell(0, 2, 0), 0);
        due.same("30: up to 60", room.sheet(3, 2, 60), 1);
        due.same("33: the sixtieth", room.cell(3, 59, 2), 0);
        room.put(3, 5, 7);
        due.same("30: a new one", room.sheet(3, 1, 6), 1);
        due.same("33: zero again", room.cell(3, 5, 1), 0);
        due.same("33: shorter", room.cell(3, 6, 1), ChartRoom.LOST);
        due.same("30: of no cells", room.sheet(1, 0, 0), 1);
        due.same("32: it has none", room.put(1, 0, 0), -13);
        due.same("31: but it has a row", room.lose(1), 1);
    }

    private static void sheetRefused() {
        ChartRoom room = new ChartRoom();
        room.sheet(0, 0, 3);
        room.put(0, 0, 9);
        due.same("30: unknown", room.sheet(4, 0, 1), -1);
        due.same("30: unknown below", room.sheet(-1, 0, 1), -1);
        due.same("30: unknown ahead of outside", room.sheet(4, 3, 1), -1);
        due.same("30: lane", room.sheet(0, 3, 1), -2);
        due.same("30: lane below", room.sheet(0, -1, 1), -2);
        due.same("30: outside ahead of size", room.sheet(0, 3, -1), -2);
        due.same("30: above 60", room.sheet(0, 0, 61), -2);
        due.same("30: size", room.sheet(0, 1, -1), -14);
        due.same("39: size", room.fault(), 4);
        due.same("30: size far below", room.sheet(0, 1, Integer.MIN_VALUE), -14);
        due.same("33: refused, it stays", room.cell(0, 0, 0), 9);
    }

    private static void lose() {
        ChartRoom room = new ChartRoom();
        due.same("31: it had nothing", room.lose(2), 0);
        room.sheet(2, 0, 1);
        due.same("31: it had a row", room.lose(2), 1);
        due.same("31: then nothing", room.lose(2), 0);
        due.same("32: null", room.put(2, 0, 1), -11);
        due.same("39: null", room.fault(), 1);
        due.same("31: unknown", room.lose(4), -1);
        due.same("31: unknown below", room.lose(-1), -1);
        due.same("39: it names no faults", room.fault(), 1);
    }

    private static void put() {
        ChartRoom room = new ChartRoom();
        room.sheet(0, 2, 3);
        due.same("32: a cell", room.put(0, 0, Integer.MIN_VALUE), 1);
        due.same("33: it has it", room.cell(0, 0, 2), Integer.MIN_VALUE);
        due.same("32: the last", room.put(0, 2, 5), 1);
        due.same("33: the others stay", room.cell(0, 1, 2), 0);
        due.same("32: index", room.put(0, 3, 1), -13);
        due.same("39: index", room.fault(), 3);
        due.same("32: index below", room.put(0, -1, 1), -13);
        due.same("32: null ahead of index", room.put(1, -1, 1), -11);
        due.same("32: unknown", room.put(4, 0, 1), -1);
        due.same("39: refused", room.fault(), 0);
        due.same("32: unknown below", room.put(-1, 0, 1), -1);
    }

    private static void cell() {
        ChartRoom room = new ChartRoom();
        room.sheet(0, 1, 3);
        room.put(0, 2, -7);
        long lost = ChartRoom.LOST;
        due.same("33: a cell", room.cell(0, 2, 1), -7);
        due.same("39: none", room.fault(), 0);
        due.same("33: cast", room.cell(0, 2, 0), lost);
        due.same("39: cast", room.fault(), 2);
        due.same("33: cast ahead of index", room.cell(0, 3, 0), lost);
        due.same("39: cast it is", room.fault(), 2);
        due.same("33: null", room.cell(1, 3, 0), lost);
        due.same("39: null", room.fault(), 1);
        due.same("33: index", room.cell(0, 3, 1), lost);
        due.same("39: index", room.fault(), 3);
        due.same("33: index below", room.cell(0, -1, 1), lost);
        due.same("39: index, too", room.fault(), 3);
        due.same("33: index at the top", room.cell(0, Integer.MAX_VALUE, 1), lost);
        due.same("33: unknown", room.cell(4, 0, 1), lost);
        due.same("39: refused", room.fault(), 0);
        room.cell(0, 3, 1);
        due.same("33: lane", room.cell(0, 0, 3), lost);
        due.same("39: refused, too", room.fault(), 0);
        due.same("33: lane below", room.cell(0, 0, -1), lost);
    }

    private static void lanes() {
        int[] numbers = {127, 128, -128, -129, 255, 256, 32767, 32768, 65535, -32769, Integer.MAX_VALUE, Integer.MIN_VALUE};
        ChartRoom room = new ChartRoom();
        for (int number : numbers) {
            Rooms.fill(room, 0, 0, number);
            Rooms.fill(room, 1, 1, number);
            Rooms.fill(room, 2, 2, number);
            due.same("33: as a byte " + number, room.cell(0, 0, 0), (byte) number);
            due.same("33: as a short " + number, room.cell(1, 0, 1), (short) number);
            due.same("33: as an int " + number, room.cell(2, 0, 2), number);
        }
    }

    private static void cells(String call, ChartRoom room, int k, int... want) {
        for (int i = 0; i < want.length; i++) {
            due.same(call + ", cell " + i, room.cell(k, i, 0), want[i]);
        }
    }

    private static void copy() {
        ChartRoom room = new ChartRoom();
        Rooms.fill(room, 0, 0, 1, 2, 3, 4, 5);
        Rooms.fill(room, 1, 0, 6, 7, 8);
        due.same("34: two cells", room.copy(0, 3, 1, 1, 2), 2);
        cells("34: they came", room, 1, 6, 4, 5);
        cells("34: and stayed", room, 0, 1, 2, 3, 4, 5);
        due.same("34: none", room.copy(0, 5, 1, 3, 0), 0);
        due.same("34: all", room.copy(1, 0, 0, 0, 3), 3);
        cells("34: all three", room, 0, 6, 4, 5, 4, 5);
        due.same("39: none", room.fault(), 0);
    }

    private static void copyOntoItself() {
        ChartRoom room = new ChartRoom();
        Rooms.fill(room, 0, 0, 1, 2, 3, 4, 5);
        due.same("34: one on", room.copy(0, 0, 0, 1, 4), 4);
        cells("34: as they were", room, 0, 1, 1, 2, 3, 4);
        due.same("34: two back", room.copy(0, 2, 0, 0, 3), 3);
        cells("34: as they were then", room, 0, 2, 3, 4, 3, 4);
    }

    private static void copyFaults() {
        ChartRoom room = new ChartRoom();
        room.sheet(0, 0, 5);
        room.sheet(1, 0, 3);
        room.sheet(2, 1, 5);
        due.same("34: unknown", room.copy(4, 0, 0, 0, 0), -1);
        due.same("34: unknown other", room.copy(0, 0, 4, 0, 0), -1);
        due.same("34: unknown ahead of null", room.copy(3, 0, -1, 0, 0), -1);
        due.same("34: null", room.copy(3, 0, 0, 0, 0), -11);
        due.same("39: null", room.fault(), 1);
        due.same("34: null other", room.copy(0, 0, 3, 0, 0), -11);
        due.same("34: null ahead of index", room.copy(0, -1, 3, 0, 0), -11);
        due.same("34: cast", room.copy(0, 0, 2, 0, 0), -12);
        due.same("39: cast", room.fault(), 2);
        due.same("34: cast ahead of index", room.copy(2, -1, 0, 0, 0), -12);
        int[][] beyond = {{-1, 0, 1}, {0, -1, 1}, {0, 0, -1}, {5, 0, 1}, {0, 3, 1}, {3, 0, 3}, {0, 1, 3}, {6, 0, 0}, {0, 4, 0},
            {1, 0, Integer.MAX_VALUE}, {Integer.MAX_VALUE, 0, 1}, {0, Integer.MAX_VALUE, 1}};
        for (int[] a : beyond) {
            due.same("34: index " + a[0] + ", " + a[1] + ", " + a[2], room.copy(0, a[0], 1, a[1], a[2]), -13);
            due.same("39: index", room.fault(), 3);
        }
    }

    private static void fault() {
        ChartRoom room = new ChartRoom();
        due.same("39: ahead of any", room.fault(), 0);
        room.put(0, 0, 0);
        due.same("39: null", room.fault(), 1);
        room.place(9, 9);
        room.lose(0);
        room.many(99);
        room.tell(0);
        room.night();
        due.same("39: calls that name none leave it", room.fault(), 1);
        due.same("39: asking leaves it", room.fault(), 1);
        room.sheet(0, 0, 1);
        due.same("39: one that comes to none", room.fault(), 0);
        room.put(1, 0, 0);
        room.wire(9, 0, 0, 0, 0, 0);
        due.same("39: a refused wire", room.fault(), 0);
        room.put(1, 0, 0);
        room.copy(9, 0, 0, 0, 0);
        due.same("39: a refused copy", room.fault(), 0);
        room.put(1, 0, 0);
        room.draw(9, 0, 0, 0, 0, 0, 0, 0);
        due.same("39: a refused draw", room.fault(), 0);
        room.put(1, 0, 0);
        room.sheet(9, 0, 0);
        due.same("39: a refused sheet", room.fault(), 0);
    }

    private static void many() {
        ChartRoom room = new ChartRoom();
        room.post(0, 1, 1, 0, 0, 0);
        room.post(0, 2, 2, 0, 0, 0);
        room.post(0, 3, 3, 0, 0, 0);
        Rooms.press(room, 0, "02530");
        Rooms.press(room, 1, "02530");
        Rooms.wire(room, 2, 4, 0, "091240253012342");
        Rooms.wire(room, 2, 4, 0, "091240253012342");
        Rooms.draw(room, 0, 0, 0, 1);
        Rooms.draw(room, 1, 0, 0, 1);
        Rooms.draw(room, 1, 0, 0, 1);
        Rooms.forecast(room, "n<1");
        room.keep(2);
        int[] first = {3, 4, 2, 1, 2, 1, 0, 99, 1};
        for (int what = 0; what < first.length; what++) {
            due.same("40: " + what, room.many(what), first[what]);
        }
        room.view(4, 17);
        int[] then = {3, 4, 1, 1, 2, 1, 4, 17, 1};
        for (int what = 0; what < then.length; what++) {
            due.same("40: then " + what, room.many(what), then[what]);
        }
        due.same("40: outside", room.many(9), -2);
        due.same("40: outside below", room.many(-1), -2);
    }
}
