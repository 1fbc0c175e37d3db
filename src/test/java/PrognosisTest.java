/** Promises 24 to 29: prognoses, kept charts, forecasts in words. */
public final class PrognosisTest {
    private static final Due due = new Due("PrognosisTest");

    public static void main(String[] args) {
        prognosis();
        keep();
        beside();
        besideRefused();
        drift();
        driftByMeans();
        driftRefused();
        forecastFaults();
        forecastRefused();
        forecastFull();
        verified();
        verifiedRegions();
        verifiedFollows();
        due.end();
    }

    /** West 10000, east 10100: six columns each. */
    private static ChartRoom halves() {
        ChartRoom room = new ChartRoom();
        Rooms.postAt(room, 2, 5, 10000);
        Rooms.postAt(room, 9, 5, 10100);
        return room;
    }

    private static void prognosis() {
        ChartRoom bare = new ChartRoom();
        due.same("24: no value", bare.prognosis(0, 0, 5, 5), -9);
        ChartRoom room = halves();
        due.same("24: as it is", room.prognosis(0, 0, 6, 0), 10100);
        due.same("24: moved east", room.prognosis(1, 0, 6, 0), 10000);
        due.same("24: moved west", room.prognosis(-1, 0, 5, 0), 10100);
        due.same("24: moved south from y 0", room.prognosis(0, 1, 5, 1), 10000);
        due.same("24: from beyond the north", room.prognosis(0, 1, 5, 0), -9);
        due.same("24: from beyond the west", room.prognosis(1, 0, 0, 0), -9);
        due.same("24: the farthest", room.prognosis(11, -11, 11, 0), 10000);
        due.same("24: u above", room.prognosis(12, 0, 0, 0), -2);
        due.same("24: u below", room.prognosis(-12, 0, 0, 0), -2);
        due.same("24: v above", room.prognosis(0, 12, 0, 0), -2);
        due.same("24: v below", room.prognosis(0, -12, 0, 0), -2);
        due.same("24: outside ahead of unknown", room.prognosis(12, 0, 12, 0), -2);
        due.same("24: x above", room.prognosis(0, 0, 12, 0), -1);
        due.same("24: x below", room.prognosis(0, 0, -1, 0), -1);
        due.same("24: y above", room.prognosis(0, 0, 0, 12), -1);
        due.same("24: y below", room.prognosis(0, 0, 0, -1), -1);
        due.same("24: far outside", room.prognosis(Integer.MIN_VALUE, 0, 0, 0), -2);
    }

    private static void keep() {
        ChartRoom room = new ChartRoom();
        due.same("25: no values", room.keep(0), 0);
        due.same("40: kept all the same", room.many(8), 1);
        room = halves();
        due.same("25: all", room.keep(3), 144);
        due.same("25: again", room.keep(3), 144);
        due.same("40: one", room.many(8), 1);
        due.same("25: above", room.keep(4), -1);
        due.same("25: below", room.keep(-1), -1);
        room.keep(0);
        due.same("40: two", room.many(8), 2);
    }

    private static void beside() {
        ChartRoom room = halves();
        room.keep(1);
        due.same("26: all", room.beside(0, 0, 1, 0), 144);
        due.same("26: the same", room.beside(0, 0, 1, 1), 0);
        due.same("26: eleven columns", room.beside(1, 0, 1, 0), 132);
        due.same("26: one column differs", room.beside(1, 0, 1, 1), 1200);
        due.same("26: prognosis less kept", room.beside(1, 0, 1, 2), -1200);
        due.same("26: the other way", room.beside(-1, 0, 1, 2), 1200);
        due.same("26: one corner", room.beside(11, 11, 1, 0), 1);
        due.same("26: there west less east", room.beside(11, 11, 1, 2), -100);
        Rooms.press(room, 0, Rooms.pressOf(10040));
        due.same("26: kept ones stay as they were", room.beside(0, 0, 1, 2), 72 * 40);
        room.keep(1);
        due.same("26: kept anew", room.beside(0, 0, 1, 1), 0);
        Rooms.press(room, 0, Rooms.pressOf(10110));
        Rooms.press(room, 1, Rooms.pressOf(10090));
        due.same("26: sizes", room.beside(0, 0, 1, 1), 72 * 70 + 72 * 10);
        due.same("26: signs", room.beside(0, 0, 1, 2), 72 * 70 - 72 * 10);
        room.view(1, 0);
        due.same("26: no values now", room.beside(0, 0, 1, 0), 0);
        due.same("26: no sum", room.beside(0, 0, 1, 1), 0);
    }

    private static void besideRefused() {
        ChartRoom room = halves();
        room.keep(1);
        long lost = ChartRoom.LOST;
        due.same("26: u", room.beside(12, 0, 1, 0), lost);
        due.same("26: u below", room.beside(-12, 0, 1, 0), lost);
        due.same("26: v", room.beside(0, 12, 1, 0), lost);
        due.same("26: v below", room.beside(0, -12, 1, 0), lost);
        due.same("26: what", room.beside(0, 0, 1, 3), lost);
        due.same("26: what below", room.beside(0, 0, 1, -1), lost);
        due.same("26: k", room.beside(0, 0, 4, 0), lost);
        due.same("26: k below", room.beside(0, 0, -1, 0), lost);
        due.same("26: not kept", room.beside(0, 0, 0, 0), lost);
        due.same("26: lost is the least long", lost, -9223372036854775808L);
    }

    private static void drift() {
        ChartRoom room = halves();
        room.keep(0);
        due.same("27: of size 0", room.drift(0, 0), 1111);
        due.same("27: rows are alike, the first v", room.drift(0, 4), 100 * 11 + 7);
        room = new ChartRoom();
        Rooms.postAt(room, 2, 3, 10000);
        Rooms.postAt(room, 6, 7, 10100);
        Rooms.postAt(room, 2, 7, 10050);
        room.keep(0);
        Rooms.wire(room, 0, 1, 0, Rooms.WIND + Rooms.pressOf(10000) + Rooms.HEAT);
        room.view(1, 0);
        room.keep(1);
        due.same("27: one level is as good everywhere", room.drift(1, 2), 100 * 9 + 9);
        room.view(0, 0);
        due.same("27: nothing has moved", room.drift(0, 2), 1111);
        due.same("27: of size 0 beside another", room.drift(1, 0), 1111);
    }

    private static void driftByMeans() {
        ChartRoom room = new ChartRoom();
        room.post(1, 3, 2, 0, 10, 10);
        room.post(1, 3, 8, 0, 10, 10);
        room.post(1, 8, 2, 0, 10, 10);
        String[] press = {Rooms.pressOf(10000), Rooms.pressOf(10100), Rooms.pressOf(10200)};
        for (int p = 0; p < 3; p++) {
            for (int hour = 0; hour < 3; hour++) {
                Rooms.wire(room, p, hour, 0, Rooms.WIND + press[p] + Rooms.HEAT);
            }
        }
        room.view(2, 0);
        room.keep(2);
        room.view(0, 0);
        due.same("16: none doubted", room.doubted(), 0);
        due.same("27: all went two east and two south", room.drift(2, 4), 1313);
        due.same("26: there it is right", room.beside(2, 2, 2, 1), 0);
        due.same("26: with 100 places", room.beside(2, 2, 2, 0), 100);
        due.same("27: of size 1", room.drift(2, 1), 1212);
        due.same("27: back from there", backFrom(room), 100 * 9 + 9);
    }

    private static int backFrom(ChartRoom room) {
        room.keep(3);
        room.view(2, 0);
        return room.drift(3, 4);
    }

    private static void driftRefused() {
        ChartRoom room = halves();
        due.same("27: not kept", room.drift(0, 0), -3);
        due.same("27: outside ahead of state", room.drift(0, 5), -2);
        due.same("27: outside below", room.drift(0, -1), -2);
        due.same("27: unknown", room.drift(4, 0), -1);
        due.same("27: unknown ahead of outside", room.drift(-1, 5), -1);
        room.keep(0);
        room.view(1, 0);
        due.same("27: no values now", room.drift(0, 4), -3);
        room.keep(1);
        room.view(0, 0);
        due.same("27: no values kept", room.drift(1, 4), -3);
        due.same("27: kept", room.drift(0, 0), 1111);
    }

    private static void forecastFaults() {
        ChartRoom room = new ChartRoom();
        String[] wrong = {"", "n", "n<", "x<1", "<1", "nn", "n1", "n<,", "n<<", "n<1 ", "n<1,", "n<1,,", "n<1,1", "n<123456",
            "n<12345n", "N<1", "n=1", "n<1,n<1,n<1,n<1,n<1,", "n<1,n<1,n<1,n<1,n<12345,n", "n<1,n", "m>00000m", "n<-1", ","};
        int[] at = {0, 1, 2, 0, 0, 1, 1, 2, 2, 3, 4, 4, 4, 7,
            7, 0, 1, 19, 23, 5, 7, 2, 0};
        for (int i = 0; i < wrong.length; i++) {
            due.same("28: " + wrong[i], Rooms.forecast(room, wrong[i]), -100 - at[i]);
            due.same("39: a fault of words is none of the machine's", room.fault(), 0);
        }
        due.same("28: none came of it", room.many(5), 0);
        String[] right = {"n<1", "s>12345", "w<00000", "e>0,m<7", "n<1,n<1,n<1,n<1,n<1",
            "n>99999,s>99999,w>99999,e>99999,m>99999"};
        for (int i = 0; i < right.length; i++) {
            due.same("28: " + right[i], Rooms.forecast(room, right[i]), i);
        }
        Rooms.fill(room, 1, 2, 1, 110, 60, 256 + 49, 49);
        due.same("28: an int that is no digit", room.forecast(1, 2, 1, 4), -102);
        Rooms.fill(room, 1, 2, 1, 110, 60, 49, 44);
        due.same("28: a part of the cells", room.forecast(1, 2, 1, 3), 6);
        due.same("28: from i on", room.forecast(1, 2, 0, 3), -100);
    }

    private static void forecastRefused() {
        ChartRoom room = new ChartRoom();
        room.sheet(0, 0, 5);
        due.same("28: unknown", room.forecast(4, 0, 0, 0), -1);
        due.same("28: unknown below", room.forecast(-1, 9, 0, 0), -1);
        due.same("28: lane", room.forecast(0, 3, 0, 0), -2);
        due.same("28: lane below", room.forecast(0, -1, 0, 0), -2);
        due.same("28: cast", room.forecast(0, 2, 9, -1), -12);
        due.same("39: cast", room.fault(), 2);
        due.same("28: null", room.forecast(1, 2, 9, -1), -11);
        due.same("39: null", room.fault(), 1);
        due.same("28: size", room.forecast(0, 0, 9, -1), -14);
        due.same("39: size", room.fault(), 4);
        due.same("28: index", room.forecast(0, 0, 1, 5), -13);
        due.same("39: index", room.fault(), 3);
        due.same("28: index, far beyond", room.forecast(0, 0, 1, Integer.MAX_VALUE), -13);
        due.same("28: index below", room.forecast(0, 0, -1, 0), -13);
        due.same("28: none taken at the end", room.forecast(0, 0, 5, 0), -100);
        due.same("39: then none", room.fault(), 0);
        due.same("28: none taken beyond", room.forecast(0, 0, 6, 0), -13);
        room.forecast(4, 0, 0, 0);
        due.same("39: refused", room.fault(), 0);
    }

    private static void forecastFull() {
        ChartRoom room = new ChartRoom();
        for (int f = 0; f < 8; f++) {
            due.same("28: the " + f, Rooms.forecast(room, "n<1"), f);
        }
        due.same("28: full", Rooms.forecast(room, "n<1"), -4);
        due.same("28: a fault ahead of full", Rooms.forecast(room, "n<"), -102);
        due.same("40: eight", room.many(5), 8);
    }

    private static void verified() {
        ChartRoom room = halves();
        Rooms.forecast(room, "w<10001,w<10000,e>10099,e>10100,n<10101");
        due.same("29: clauses", room.verified(0, 0), 5);
        due.same("29: true ones", room.verified(0, 1), 3);
        due.same("29: as bits", room.verified(0, 2), 1 + 4 + 16);
        Rooms.forecast(room, "m<10100,m>9999,s>10000,w>0");
        due.same("29: all of a region", room.verified(1, 2), 2 + 8);
        due.same("29: unknown", room.verified(2, 0), -1);
        due.same("29: unknown below", room.verified(-1, 0), -1);
        due.same("29: unknown ahead of outside", room.verified(2, 3), -1);
        due.same("29: what", room.verified(0, 3), -2);
        due.same("29: what below", room.verified(0, -1), -2);
    }

    private static void verifiedRegions() {
        // in each room one PLACE alone is low: next to it stand others that keep its VALUE to itself
        int[][] lows = {{5, 3}, {5, 4}, {5, 8}, {5, 7}, {3, 5}, {4, 5}, {8, 5}, {7, 5}, {3, 3}, {7, 7}, {8, 8},
            {0, 0}, {11, 0}, {0, 11}, {11, 11}};
        String text = "n>9999,s>9999,w>9999,e>9999,m>9999";
        for (int[] low : lows) {
            ChartRoom room = new ChartRoom();
            room.steep(500);
            Rooms.postAt(room, low[0], low[1], 9900);
            Rooms.postAt(room, low[0] - 1, low[1], 10100);
            Rooms.postAt(room, low[0] + 1, low[1], 10100);
            Rooms.postAt(room, low[0], low[1] - 1, 10100);
            Rooms.postAt(room, low[0], low[1] + 1, 10100);
            due.same("17: one low", room.line(10000, 3), 1);
            Rooms.forecast(room, text);
            int x = low[0];
            int y = low[1];
            int spoilt = (y < 4 ? 1 : 0) + (y > 7 ? 2 : 0) + (x < 4 ? 4 : 0) + (x > 7 ? 8 : 0);
            spoilt += x >= 4 && x <= 7 && y >= 4 && y <= 7 ? 16 : 0;
            due.same("29: low at " + x + ", " + y, room.verified(0, 2), 31 - spoilt);
        }
    }

    private static void verifiedFollows() {
        ChartRoom room = new ChartRoom();
        Rooms.forecast(room, "n<10050,n>10050");
        due.same("29: no value, none true", room.verified(0, 2), 0);
        due.same("29: still two clauses", room.verified(0, 0), 2);
        Rooms.postAt(room, 2, 5, 10000);
        due.same("29: below", room.verified(0, 2), 1);
        Rooms.press(room, 0, Rooms.pressOf(10060));
        due.same("29: above", room.verified(0, 2), 2);
        Rooms.press(room, 0, Rooms.pressOf(10050));
        due.same("29: neither", room.verified(0, 2), 0);
    }
}
