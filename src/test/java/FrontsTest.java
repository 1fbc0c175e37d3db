/** Promises 19 to 23: fronts drawn, joined, and the night. */
public final class FrontsTest {
    private static final Due due = new Due("FrontsTest");

    public static void main(String[] args) {
        draw();
        drawFirstOfSeveral();
        drawGates();
        drawRefused();
        drawFaults();
        drawState();
        drawFull();
        front();
        yOf();
        joining();
        joiningTies();
        joiningAtLeastCost();
        night();
        due.end();
    }

    private static void draw() {
        ChartRoom room = new ChartRoom();
        due.same("19: the first of yesterday", Rooms.draw(room, 0, 0, 0, 6, 0, 0, 0, 3, 4, 6, 6, 0, 1), 0);
        due.holds("19: its ys", Rooms.goes(room, 0, 0, 0, 0, 2, 3, 4, 3, 2, 1));
        due.same("20: its bends", room.front(0, 0, 3), 3);
        due.same("19: the first of today", Rooms.draw(room, 1, 2, 3, 5), 0);
        due.holds("19: no gates, level at 0", Rooms.goes(room, 1, 0, 3, 0, 0, 0));
        due.same("19: the shortest", Rooms.draw(room, 1, 1, 10, 11, 10, 5, 5), 1);
        due.holds("19: two down without a bend", Rooms.goes(room, 1, 1, 10, 5, 3));
        due.same("20: no bends", room.front(1, 1, 3), 0);
    }

    private static void drawFirstOfSeveral() {
        ChartRoom room = new ChartRoom();
        Rooms.draw(room, 0, 0, 0, 3, 0, 0, 0, 3, 3, 3);
        due.holds("19: 0 1 2 3", Rooms.goes(room, 0, 0, 0, 0, 1, 2, 3));
        Rooms.draw(room, 0, 0, 0, 3, 0, 0, 0, 3, 1, 1);
        due.holds("19: one bend, the first row", Rooms.goes(room, 0, 1, 0, 0, 0, 0, 1));
        due.same("20: one bend", room.front(0, 1, 3), 1);
        Rooms.draw(room, 0, 0, 0, 2, 1, 4, 7);
        due.holds("19: lowest row without a bend", Rooms.goes(room, 0, 2, 0, 2, 4, 6));
        Rooms.draw(room, 0, 0, 0, 4, 0, 5, 5, 2, 9, 9, 4, 5, 5);
        due.holds("19: up and down", Rooms.goes(room, 0, 3, 0, 5, 7, 9, 7, 5));
        due.same("20: two up and two down", room.front(0, 3, 3), 4);
    }

    private static void drawGates() {
        ChartRoom room = new ChartRoom();
        due.same("19: both gates at one x", Rooms.draw(room, 0, 0, 2, 4, 3, 2, 6, 3, 5, 9), 0);
        due.holds("19: 5 and 6 are in both", Rooms.goes(room, 0, 0, 2, 3, 5, 7));
        due.same("19: gates beyond count for nothing", Rooms.draw(room, 0, 0, 2, 4, 1, 9, 9, 5, 0, 0, 3, 1, 1), 1);
        due.holds("19: only the one at 3", Rooms.goes(room, 0, 1, 2, 0, 1, 2));
        due.same("19: gates that agree on none", Rooms.draw(room, 0, 0, 2, 4, 3, 2, 4, 3, 5, 9), -3);
        due.same("19: the whole chart", Rooms.draw(room, 0, 0, 0, 11, 0, 11, 11, 11, 0, 0), 2);
        due.same("19: eleven at one a step", room.front(0, 2, 3), 0);
        due.same("19: gates at a and b count", Rooms.draw(room, 0, 0, 4, 6, 4, 3, 3, 6, 7, 7), 3);
        due.holds("19: 3 5 7", Rooms.goes(room, 0, 3, 4, 3, 5, 7));
    }

    private static void drawRefused() {
        ChartRoom room = new ChartRoom();
        room.sheet(0, 0, 6);
        due.same("19: unknown", room.draw(0, 0, 0, 1, 4, 0, 0, 0), -1);
        due.same("19: unknown below", room.draw(0, 0, 0, 1, -1, 0, 0, 0), -1);
        due.same("19: unknown ahead of outside", room.draw(2, 0, 0, 1, 4, 0, 0, 0), -1);
        due.same("19: lane", room.draw(0, 0, 0, 1, 0, 3, 0, 0), -2);
        due.same("19: lane below", room.draw(0, 0, 0, 1, 0, -1, 0, 0), -2);
        due.same("19: day", room.draw(2, 0, 0, 1, 0, 0, 0, 0), -2);
        due.same("19: day below", room.draw(-1, 0, 0, 1, 0, 0, 0, 0), -2);
        due.same("19: kind", room.draw(0, 3, 0, 1, 0, 0, 0, 0), -2);
        due.same("19: kind below", room.draw(0, -1, 0, 1, 0, 0, 0, 0), -2);
        due.same("19: a below", room.draw(0, 0, -1, 1, 0, 0, 0, 0), -2);
        due.same("19: b above", room.draw(0, 0, 0, 12, 0, 0, 0, 0), -2);
        due.same("19: a is b", room.draw(0, 0, 3, 3, 0, 0, 0, 0), -2);
        due.same("19: a above b", room.draw(0, 0, 4, 3, 0, 0, 0, 0), -2);
        due.same("19: outside ahead of cast", room.draw(0, 0, 4, 3, 0, 1, 0, 0), -2);
        int[][] cells = {{12, 0, 0}, {-1, 0, 0}, {0, -1, 0}, {0, 0, 12}, {0, 5, 4}, {0, 12, 12}, {11, -1, -1}};
        for (int[] gate : cells) {
            due.same("19: cells", Rooms.draw(room, 0, 0, 2, 4, gate), -2);
            due.same("39: refused", room.fault(), 0);
        }
        due.same("19: outside, though beyond a .. b", Rooms.draw(room, 0, 0, 2, 4, 11, 3, 2), -2);
        due.same("19: none came of it", room.many(3), 0);
    }

    private static void drawFaults() {
        ChartRoom room = new ChartRoom();
        room.sheet(0, 0, 6);
        due.same("19: cast", room.draw(0, 0, 0, 1, 0, 1, 0, 0), -12);
        due.same("39: cast", room.fault(), 2);
        due.same("19: cast ahead of size", room.draw(0, 0, 0, 1, 0, 1, 0, -1), -12);
        due.same("19: null", room.draw(0, 0, 0, 1, 1, 1, 0, 0), -11);
        due.same("19: null ahead of size", room.draw(0, 0, 0, 1, 1, 1, 0, -1), -11);
        due.same("39: null", room.fault(), 1);
        due.same("19: size", room.draw(0, 0, 0, 1, 0, 0, 0, -1), -14);
        due.same("39: size", room.fault(), 4);
        due.same("19: size ahead of index", room.draw(0, 0, 0, 1, 0, 0, 7, -1), -14);
        due.same("19: size far below", room.draw(0, 0, 0, 1, 0, 0, 0, Integer.MIN_VALUE), -14);
        due.same("19: index", room.draw(0, 0, 0, 1, 0, 0, 1, 2), -13);
        due.same("39: index", room.fault(), 3);
        due.same("19: index below", room.draw(0, 0, 0, 1, 0, 0, -1, 1), -13);
        due.same("19: none taken, i beyond", room.draw(0, 0, 0, 1, 0, 0, 7, 0), -13);
        due.same("19: none taken, i below", room.draw(0, 0, 0, 1, 0, 0, -1, 0), -13);
        due.same("19: three times n wraps", room.draw(0, 0, 0, 1, 0, 0, 0, 1431655766), -13);
        due.same("19: none taken at the end", room.draw(0, 0, 0, 1, 0, 0, 6, 0), 0);
        due.same("39: none", room.fault(), 0);
    }

    private static void drawState() {
        ChartRoom room = new ChartRoom();
        due.same("19: three in one step", Rooms.draw(room, 0, 0, 0, 3, 0, 0, 0, 1, 3, 9), -3);
        due.same("39: refused", room.fault(), 0);
        due.same("19: two in one step", Rooms.draw(room, 0, 0, 0, 3, 0, 0, 0, 1, 2, 9), 0);
        due.same("19: two steps of two for five", Rooms.draw(room, 0, 0, 0, 3, 0, 0, 0, 2, 5, 5), -3);
    }

    private static void drawFull() {
        ChartRoom room = new ChartRoom();
        for (int f = 0; f < 5; f++) {
            due.same("19: yesterday's " + f, Rooms.draw(room, 0, 0, 0, 1), f);
            due.same("19: today's " + f, Rooms.draw(room, 1, 0, 0, 1), f);
        }
        due.same("19: full", Rooms.draw(room, 0, 0, 0, 1), -4);
        due.same("19: full today", Rooms.draw(room, 1, 0, 0, 1), -4);
        due.same("19: state ahead of full", Rooms.draw(room, 1, 0, 0, 1, 0, 0, 0, 1, 3, 3), -3);
        due.same("40: five", room.many(3), 5);
        due.same("40: five today", room.many(4), 5);
    }

    private static void front() {
        ChartRoom room = new ChartRoom();
        Rooms.draw(room, 1, 2, 3, 7, 4, 2, 2);
        due.same("20: kind", room.front(1, 0, 0), 2);
        due.same("20: a", room.front(1, 0, 1), 3);
        due.same("20: b", room.front(1, 0, 2), 7);
        due.same("20: bends", room.front(1, 0, 3), 0);
        due.same("20: born", room.front(1, 0, 4), -9);
        due.same("20: day", room.front(2, 0, 0), -2);
        due.same("20: day below", room.front(-1, 0, 0), -2);
        due.same("20: day ahead of unknown", room.front(2, 9, 0), -2);
        due.same("20: unknown", room.front(1, 1, 0), -1);
        due.same("20: unknown below", room.front(1, -1, 0), -1);
        due.same("20: unknown that day", room.front(0, 0, 0), -1);
        due.same("20: unknown ahead of what", room.front(1, 1, 5), -1);
        due.same("20: what", room.front(1, 0, 5), -2);
        due.same("20: what below", room.front(1, 0, -1), -2);
    }

    private static void yOf() {
        ChartRoom room = new ChartRoom();
        Rooms.draw(room, 1, 2, 3, 7, 4, 2, 2);
        due.same("21: at a", room.yOf(1, 0, 3), 0);
        due.same("21: at b", room.yOf(1, 0, 7), 8);
        due.same("21: ahead of a", room.yOf(1, 0, 2), -1);
        due.same("21: behind b", room.yOf(1, 0, 8), -1);
        due.same("21: not on the chart", room.yOf(1, 0, 12), -1);
        due.same("21: far below", room.yOf(1, 0, Integer.MIN_VALUE), -1);
        due.same("21: unknown", room.yOf(1, 1, 3), -1);
        due.same("21: unknown that day", room.yOf(0, 0, 3), -1);
        due.same("21: day", room.yOf(2, 0, 3), -2);
        due.same("21: day ahead of unknown", room.yOf(-1, 5, 3), -2);
    }

    private static void joining() {
        ChartRoom room = new ChartRoom();
        due.same("22: none", room.joining(), 0);
        Rooms.draw(room, 0, 0, 0, 4, 0, 2, 2, 4, 2, 2);
        due.same("22: one died", room.joining(), 15);
        Rooms.draw(room, 1, 1, 0, 4, 0, 2, 2, 4, 2, 2);
        due.same("22: another kind", room.joining(), 30);
        due.same("20: died", room.front(0, 0, 4), -9);
        due.same("20: born", room.front(1, 0, 4), -9);
        Rooms.draw(room, 1, 0, 5, 9, 5, 2, 2, 9, 2, 2);
        due.same("22: no x shared", room.joining(), 45);
        Rooms.draw(room, 1, 0, 4, 9, 4, 7, 7, 9, 7, 7);
        due.same("22: one x shared, 5 apart", room.joining(), 5 + 30);
        due.same("20: joined to today's", room.front(0, 0, 4), 2);
        due.same("20: joined to yesterday's", room.front(1, 2, 4), 0);
        due.same("20: still born", room.front(1, 1, 4), -9);
    }

    private static void joiningTies() {
        ChartRoom room = new ChartRoom();
        Rooms.draw(room, 0, 0, 0, 5, 0, 0, 0, 5, 0, 0);
        Rooms.draw(room, 1, 0, 0, 5, 0, 5, 5, 5, 5, 5);
        due.same("22: 30 as joined, 30 as not", room.joining(), 30);
        due.same("20: none is behind all", room.front(0, 0, 4), 0);
        Rooms.draw(room, 0, 0, 0, 5, 0, 0, 0, 5, 0, 0);
        due.same("22: either of two", room.joining(), 45);
        due.same("20: the first", room.front(0, 0, 4), 0);
        due.same("20: not the second", room.front(0, 1, 4), -9);
        Rooms.draw(room, 1, 0, 0, 5, 0, 5, 5, 5, 5, 5);
        due.same("22: two and two", room.joining(), 60);
        due.same("20: the first to the first", room.front(0, 0, 4), 0);
        due.same("20: the second to the second", room.front(0, 1, 4), 1);
        due.same("20: and back", room.front(1, 1, 4), 1);
        room = new ChartRoom();
        Rooms.draw(room, 0, 0, 0, 5, 0, 0, 0, 5, 0, 0);
        Rooms.draw(room, 1, 0, 0, 5, 0, 5, 5, 3, 5, 5, 5, 6, 6);
        due.holds("22: 31 or more is dearer than 30", room.joining() == 30);
        due.same("20: so it died", room.front(0, 0, 4), -9);
    }

    private static void joiningAtLeastCost() {
        ChartRoom room = new ChartRoom();
        level(room, 0, 4);
        level(room, 0, 0);
        level(room, 1, 3);
        level(room, 1, 5);
        due.same("22: 0 to 1, 1 to 0", room.joining(), 2 + 6);
        due.same("20: the nearer one is left to the other", room.front(0, 0, 4), 1);
        due.same("20: the other", room.front(0, 1, 4), 0);
        due.same("20: back", room.front(1, 0, 4), 1);
        level(room, 0, 3);
        due.same("22: a third one that is nearer", room.joining(), 2 + 15);
        due.same("20: the first", room.front(0, 0, 4), 1);
        due.same("20: died", room.front(0, 1, 4), -9);
        due.same("20: the third", room.front(0, 2, 4), 0);
    }

    /** A FRONT of kind 0 from 0 to 1 at one y. */
    private static void level(ChartRoom room, int day, int y) {
        Rooms.draw(room, day, 0, 0, 1, 0, y, y, 1, y, y);
    }

    private static void night() {
        ChartRoom room = new ChartRoom();
        due.same("23: none", room.night(), 0);
        level(room, 0, 1);
        level(room, 1, 2);
        level(room, 1, 3);
        due.same("23: two of today", room.night(), 2);
        due.same("40: yesterday", room.many(3), 2);
        due.same("40: today", room.many(4), 0);
        due.same("21: they are yesterday's now", room.yOf(0, 1, 0), 3);
        due.same("20: today has none", room.front(1, 0, 0), -1);
        due.same("22: both died", room.joining(), 30);
        level(room, 1, 9);
        due.same("21: a new one today", room.yOf(1, 0, 0), 9);
        due.same("21: yesterday's stay", room.yOf(0, 0, 0), 2);
        due.same("23: one", room.night(), 1);
        due.same("23: none again", room.night(), 0);
        due.same("40: none", room.many(3), 0);
    }
}
