/** Promises 5 to 13: wires, their readings, the view, guesses, mending. */
public final class WiresTest {
    private static final Due due = new Due("WiresTest");

    public static void main(String[] args) {
        wireRefused();
        wireFaults();
        wireFull();
        laneOfWire();
        told();
        digit();
        rightOrNot();
        windTop();
        garbled();
        readingRefused();
        view();
        viewUnreadable();
        viewOfShip();
        guess();
        guessAmong();
        mended();
        mendedTie();
        level();
        due.end();
    }

    private static ChartRoom roomOfOne() {
        ChartRoom room = new ChartRoom();
        room.post(0, 2, 3, 0, 0, 0);
        return room;
    }

    private static void wireRefused() {
        ChartRoom room = roomOfOne();
        room.sheet(0, 0, 15);
        due.same("5: unknown post", room.wire(1, 0, 0, 0, 0, 0), -1);
        due.same("5: unknown sheet", room.wire(0, 0, 0, 4, 0, 0), -1);
        due.same("5: unknown sheet below", room.wire(0, 0, 0, -1, 0, 0), -1);
        due.same("5: unknown ahead of outside", room.wire(0, 100, 0, 4, 0, 0), -1);
        due.same("5: lane", room.wire(0, 0, 0, 0, 3, 0), -2);
        due.same("5: lane below", room.wire(0, 0, 0, 0, -1, 0), -2);
        due.same("5: hour", room.wire(0, 100, 0, 0, 0, 0), -2);
        due.same("5: hour below", room.wire(0, -1, 0, 0, 0, 0), -2);
        due.same("5: came", room.wire(0, 0, 100, 0, 0, 0), -2);
        due.same("5: came below", room.wire(0, 0, -1, 0, 0, 0), -2);
        due.same("5: outside ahead of cast", room.wire(0, 100, 0, 0, 1, 0), -2);
        due.same("5: refused ones are none", room.many(1), 0);
        room.put(0, 14, 10);
        due.same("5: a cell above", room.wire(0, 0, 0, 0, 0, 0), -2);
        due.same("39: refused", room.fault(), 0);
        room.put(0, 14, -2);
        due.same("5: a cell below", room.wire(0, 0, 0, 0, 0, 0), -2);
        room.put(0, 14, -1);
        due.same("5: garbled", room.wire(0, 0, 0, 0, 0, 0), 0);
        room.put(0, 14, 255);
        due.same("5: 255 in bytes is garbled", room.wire(0, 99, 99, 0, 0, 0), 1);
    }

    private static void wireFaults() {
        ChartRoom room = roomOfOne();
        room.sheet(0, 0, 16);
        due.same("5: cast", room.wire(0, 0, 0, 0, 1, 0), -12);
        due.same("39: cast", room.fault(), 2);
        due.same("5: cast ahead of index", room.wire(0, 0, 0, 0, 1, 50), -12);
        due.same("5: null", room.wire(0, 0, 0, 1, 1, 0), -11);
        due.same("39: null", room.fault(), 1);
        due.same("5: null ahead of index", room.wire(0, 0, 0, 1, 1, -5), -11);
        due.same("5: index", room.wire(0, 0, 0, 0, 0, 2), -13);
        due.same("39: index", room.fault(), 3);
        due.same("5: index below", room.wire(0, 0, 0, 0, 0, -1), -13);
        due.same("5: index at the top", room.wire(0, 0, 0, 0, 0, Integer.MAX_VALUE), -13);
        due.same("5: the last fifteen", room.wire(0, 0, 0, 0, 0, 1), 0);
        due.same("39: none", room.fault(), 0);
        room.put(0, 15, 77);
        due.same("5: a cell behind the fifteen is no matter", room.wire(0, 0, 0, 0, 0, 0), 1);
        room.put(0, 0, 77);
        room.put(0, 15, 0);
        due.same("5: nor is one ahead of them", room.wire(0, 0, 0, 0, 0, 1), 2);
        room.sheet(0, 0, 14);
        room.put(0, 0, 77);
        due.same("5: index ahead of a cell outside", room.wire(0, 0, 0, 0, 0, 0), -13);
    }

    private static void wireFull() {
        ChartRoom room = roomOfOne();
        room.sheet(0, 2, 15);
        for (int w = 0; w < 30; w++) {
            due.same("5: the " + w, room.wire(0, w, 0, 0, 2, 0), w);
        }
        due.same("5: full", room.wire(0, 0, 0, 0, 2, 0), -4);
        room.put(0, 0, 12);
        due.same("5: outside ahead of full", room.wire(0, 0, 0, 0, 2, 0), -2);
        due.same("5: thirty", room.many(1), 30);
        due.same("3: all of one post", room.about(0, 4), 30);
    }

    private static void laneOfWire() {
        for (int lane = 0; lane < 3; lane++) {
            ChartRoom room = roomOfOne();
            Rooms.fill(room, 1, lane, 7, 0, 9, 1, 2, 4, 0, 2, 5, 3, 0, 1, 2, 3, 4, 2);
            due.same("5: lane " + lane, room.wire(0, 1, 2, 1, lane, 1), 0);
            due.same("7: the first from i on", room.digit(0, 0, 1), 9);
            room.put(1, 2, 3);
            due.same("7: a wire keeps what came", room.digit(0, 0, 1), 9);
            due.same("8: wind", room.reading(0, 0, 0), 9124);
            due.same("8: press", room.reading(0, 1, 0), 2530);
            due.same("8: heat", room.reading(0, 2, 0), 12342);
        }
    }

    private static void told() {
        ChartRoom room = roomOfOne();
        room.post(0, 5, 5, 0, 0, 0);
        Rooms.wire(room, 1, 7, 8, "091240253012342");
        due.same("6: post", room.told(0, 0), 1);
        due.same("6: hour", room.told(0, 1), 7);
        due.same("6: came", room.told(0, 2), 8);
        due.same("6: not in view", room.told(0, 3), 0);
        room.view(7, 7);
        due.same("6: not yet known", room.told(0, 3), 0);
        room.view(7, 8);
        due.same("6: in view", room.told(0, 3), 1);
        due.same("6: unknown", room.told(1, 0), -1);
        due.same("6: unknown below", room.told(-1, 0), -1);
        due.same("6: unknown ahead of outside", room.told(1, 4), -1);
        due.same("6: outside", room.told(0, 4), -2);
        due.same("6: outside below", room.told(0, -1), -2);
    }

    private static void digit() {
        ChartRoom room = roomOfOne();
        Rooms.wire(room, 0, 0, 0, "09124 .2530 1234.");
        due.same("7: a digit", room.digit(0, 1, 1), 2);
        due.same("7: garbled", room.digit(0, 1, 0), -9);
        due.same("7: the last, garbled", room.digit(0, 2, 4), -9);
        due.same("7: a zero", room.digit(0, 0, 0), 0);
        due.same("7: unknown", room.digit(1, 0, 0), -1);
        due.same("7: unknown ahead of outside", room.digit(1, 3, 0), -1);
        due.same("7: group", room.digit(0, 3, 0), -2);
        due.same("7: group below", room.digit(0, -1, 0), -2);
        due.same("7: digit", room.digit(0, 0, 5), -2);
        due.same("7: digit below", room.digit(0, 0, -1), -2);
    }

    private static void rightOrNot() {
        ChartRoom room = roomOfOne();
        Rooms.wire(room, 0, 0, 0, "09125 02531 12343");
        for (int group = 0; group < 3; group++) {
            due.same("8: a wrong check " + group, room.readings(0, group), 0);
            due.same("9: none there " + group, room.reading(0, group, 0), -1);
        }
        due.same("10: not to be read, not in view", room.many(2), 0);
        Rooms.wire(room, 0, 0, 0, "00000 00000 99992");
        due.same("8: zeros are right", room.readings(1, 0), 1);
        due.same("8: 9 27 9 27 is 72", room.readings(1, 2), 1);
        due.same("9: zero", room.reading(1, 0, 0), 0);
        due.same("9: 99992", room.reading(1, 2, 0), 99992);
    }

    private static void windTop() {
        ChartRoom room = roomOfOne();
        Rooms.wire(room, 0, 0, 0, "36001 37004 37004");
        due.same("8: d d 36", room.readings(0, 0), 1);
        due.same("8: a PRESS may begin with 37", room.readings(0, 1), 1);
        due.same("8: a HEAT may, too", room.readings(0, 2), 1);
        Rooms.wire(room, 0, 0, 0, "37004 00000 00000");
        due.same("8: d d 37", room.readings(1, 0), 0);
        Rooms.wire(room, 0, 0, 0, "..... ..... .....");
        due.same("8: all garbled WIND", room.readings(2, 0), 3700);
        due.same("8: all garbled PRESS", room.readings(2, 1), 10000);
        due.same("8: all garbled HEAT", room.readings(2, 2), 10000);
        due.same("9: the last WIND", room.reading(2, 0, 3699), 36997);
        due.same("9: no further WIND", room.reading(2, 0, 3700), -1);
        due.same("9: the last PRESS", room.reading(2, 1, 9999), 99992);
        due.same("9: the second PRESS", room.reading(2, 1, 1), 13);
        Rooms.wire(room, 0, 0, 0, ".700. 00000 00000");
        due.same("8: 07, 17, 27", room.readings(3, 0), 3);
        due.same("9: 27", room.reading(3, 0, 2), 27003);
    }

    private static void garbled() {
        ChartRoom room = roomOfOne();
        Rooms.wire(room, 0, 0, 0, "09124 0.530 123..");
        due.same("8: one for a check", room.readings(0, 1), 1);
        due.same("9: that one", room.reading(0, 1, 0), 2530);
        due.same("8: ten without a check", room.readings(0, 2), 10);
        due.same("9: least first", room.reading(0, 2, 0), 12300);
        due.same("9: the last", room.reading(0, 2, 9), 12397);
        due.same("9: one beyond", room.reading(0, 2, 10), -1);
        Rooms.wire(room, 0, 0, 0, "09124 ..530 12342");
        due.same("8: ten for two digits", room.readings(1, 1), 10);
        int[] all = {2530, 15530, 28530, 31530, 44530, 57530, 60530, 73530, 86530, 99530};
        for (int i = 0; i < all.length; i++) {
            due.same("9: the " + i, room.reading(1, 1, i), all[i]);
        }
    }

    private static void readingRefused() {
        ChartRoom room = roomOfOne();
        Rooms.press(room, 0, "02530");
        due.same("8: unknown", room.readings(1, 0), -1);
        due.same("8: unknown ahead of outside", room.readings(1, 3), -1);
        due.same("8: outside", room.readings(0, 3), -2);
        due.same("8: outside below", room.readings(0, -1), -2);
        due.same("9: unknown wire", room.reading(1, 0, 0), -1);
        due.same("9: i below 0 ahead of outside", room.reading(0, 3, -1), -1);
        due.same("9: outside ahead of i too great", room.reading(0, 3, 100), -2);
        due.same("9: outside below", room.reading(0, -1, 0), -2);
        due.same("9: i too great", room.reading(0, 0, 1), -1);
        due.same("9: i far too great", room.reading(0, 0, Integer.MAX_VALUE), -1);
    }

    private static void view() {
        ChartRoom room = roomOfOne();
        Rooms.wire(room, 0, 4, 5, "091240253012342");
        Rooms.wire(room, 0, 4, 9, "091240253012342");
        Rooms.wire(room, 0, 4, 9, "091240253012342");
        Rooms.wire(room, 0, 4, 7, "091240253012342");
        due.same("10: none at 0", room.many(2), 0);
        due.same("10: at 4 all known", room.view(4, 99), 1);
        due.same("10: the last that came, of several the greatest number", room.about(0, 5), 2);
        due.same("40: h", room.many(6), 4);
        due.same("40: k", room.many(7), 99);
        room.view(4, 8);
        due.same("10: known at 8", room.about(0, 5), 3);
        room.view(4, 6);
        due.same("10: known at 6", room.about(0, 5), 0);
        due.same("10: known at 4", room.view(4, 4), 0);
        due.same("10: none then", room.about(0, 5), -9);
        due.same("10: h above", room.view(100, 0), -2);
        due.same("10: h below", room.view(-1, 0), -2);
        due.same("10: k above", room.view(0, 100), -2);
        due.same("10: k below", room.view(0, -1), -2);
        due.same("10: refused, it stays", room.many(6), 4);
        due.same("10: refused, k stays", room.many(7), 4);
    }

    private static void viewUnreadable() {
        ChartRoom room = roomOfOne();
        Rooms.wire(room, 0, 0, 1, "091240253012342");
        due.same("10: the first", room.many(2), 1);
        Rooms.wire(room, 0, 0, 2, "091240253112342");
        due.same("10: the later one has no reading", room.many(2), 0);
        due.same("10: and no other stands in for it", room.about(0, 5), -9);
        due.same("10: known at 1", room.view(0, 1), 1);
        Rooms.wire(room, 0, 0, 1, "370040253037005");
        due.same("10: a bad wind is no matter", room.about(0, 5), 2);
    }

    private static void viewOfShip() {
        ChartRoom room = new ChartRoom();
        room.post(1, 11, 0, 0, 10, 0);
        Rooms.press(room, 0, "02530");
        Rooms.wire(room, 0, 1, 0, "091240253012342");
        due.same("10: on the chart at 0", room.many(2), 1);
        due.same("10: off the chart at 1", room.view(1, 99), 0);
        due.same("11: state", room.guess(0), -3);
        due.same("12: state", room.mended(0), -3);
        due.same("13: state", room.level(0), -3);
        due.same("11: unknown", room.guess(2), -1);
        due.same("12: unknown", room.mended(2), -1);
        due.same("13: unknown", room.level(-1), -1);
        room.view(0, 99);
        due.same("11: of a wire for another hour, where its post is now", room.guess(1), 10000);
    }

    private static void guess() {
        ChartRoom room = new ChartRoom();
        Rooms.postAt(room, 0, 0, 10000);
        due.same("11: none but its own", room.guess(0), 10000);
        Rooms.postAt(room, 1, 0, 10100);
        due.same("11: one other", room.guess(0), 10100);
        Rooms.postAt(room, 2, 0, 10201);
        due.same("11: two others, cut down", room.guess(0), 10150);
        Rooms.postAt(room, 3, 0, 10300);
        due.same("11: three others", room.guess(0), (10100 + 10201 + 10300) / 3);
        Rooms.postAt(room, 0, 3, 9600);
        due.same("11: as far, the least post goes first", room.guess(0), (10100 + 10201 + 10300) / 3);
        Rooms.postAt(room, 2, 2, 9700);
        due.same("11: 8 is nearer than 9", room.guess(0), (10100 + 10201 + 9700) / 3);
        due.same("11: unknown", room.guess(6), -1);
    }

    private static void guessAmong() {
        ChartRoom room = new ChartRoom();
        Rooms.postAt(room, 0, 0, 10000);
        room.post(0, 1, 0, 0, 0, 0);
        Rooms.press(room, 1, "..530");
        due.same("11: more than one reading counts for nothing", room.guess(0), 10000);
        Rooms.wire(room, 1, 0, 0, "09124 0.530 12342");
        due.same("11: garbled with one reading counts", room.guess(0), 10025);
        room.post(0, 1, 1, 250, 0, 0);
        Rooms.press(room, 2, "02530");
        due.same("11: the other's height", room.guess(0), (10025 + 10055) / 2);
    }

    private static void mended() {
        ChartRoom room = new ChartRoom();
        room.post(0, 5, 5, 0, 0, 0);
        Rooms.press(room, 0, "..530");
        due.same("12: nearest to 10000", room.mended(0), 99530);
        due.same("13: its level", room.level(0), 9995);
        Rooms.postAt(room, 5, 6, 10290);
        due.same("12: nearest to 10290", room.mended(0), 28530);
        due.same("13: then", room.level(0), 10285);
        Rooms.postAt(room, 6, 5, 9700);
        room.view(0, 99);
        due.same("11: between", room.guess(0), 9995);
        due.same("12: nearest to 9995", room.mended(0), 99530);
        due.same("13: below 10000", room.level(0), 9995);
        Rooms.press(room, 0, "02531");
        due.same("12: no reading", room.mended(3), -3);
        due.same("13: no reading", room.level(3), -3);
        due.same("11: a guess all the same", room.guess(3), 9995);
    }

    private static void mendedTie() {
        ChartRoom room = new ChartRoom();
        room.post(0, 5, 5, 0, 0, 0);
        Rooms.press(room, 0, "..5..");
        due.same("8: a thousand", room.readings(0, 1), 1000);
        due.same("12: 9995 and 10005 are as near, the least", room.mended(0), 505);
        due.same("13: so it is", room.level(0), 10005);
        Rooms.press(room, 0, "000..");
        due.same("12: of one level the least", room.mended(1), 0);
    }

    private static void level() {
        ChartRoom room = new ChartRoom();
        int[][] heights = {{0, 10025}, {8, 10025}, {9, 10026}, {100, 10037}, {3000, 10385}};
        for (int i = 0; i < heights.length; i++) {
            room.post(0, i, 0, heights[i][0], 0, 0);
            Rooms.press(room, i, "02530");
            due.same("13: at height " + heights[i][0], room.level(i), heights[i][1]);
        }
        room = new ChartRoom();
        int[] pressures = {10499, 9500, 9999, 10000};
        for (int i = 0; i < pressures.length; i++) {
            due.same("13: pressure", room.level(Rooms.postAt(room, i, 0, pressures[i])), pressures[i]);
        }
    }
}
