/** Short ways to bring things into a room. Sheet 3 is used for it. */
final class Rooms {
    /** A WIND and a HEAT that are RIGHT, for wires of which only the PRESS matters. */
    static final String WIND = "09124", HEAT = "12342";
    /** A wire with all three groups RIGHT; its LEVEL is 10025 at height 0. */
    static final String RIGHT = "091240253012342";

    private Rooms() {
    }

    static void fill(ChartRoom room, int k, int lane, int... cells) {
        room.sheet(k, lane, cells.length);
        for (int i = 0; i < cells.length; i++) {
            room.put(k, i, cells[i]);
        }
    }

    /** Fifteen signs: digits, or a dot for a garbled one; blanks count for nothing. */
    static int wire(ChartRoom room, int p, int hour, int came, String groups) {
        String signs = groups.replace(" ", "");
        int[] cells = new int[signs.length()];
        for (int i = 0; i < cells.length; i++) {
            cells[i] = signs.charAt(i) == '.' ? -1 : signs.charAt(i) - '0';
        }
        fill(room, 3, 0, cells);
        return room.wire(p, hour, came, 3, 0, 0);
    }

    /** A wire for hour 0, come at 0, with just this PRESS. */
    static int press(ChartRoom room, int p, String press) {
        return wire(room, p, 0, 0, WIND + press + HEAT);
    }

    /** A post at height 0 that doesn't move, with a wire of a RIGHT PRESS of that LEVEL (9500 .. 10499). */
    static int postAt(ChartRoom room, int x, int y, int level) {
        int p = room.post(0, x, y, 0, 0, 0);
        press(room, p, pressOf(level));
        return p;
    }

    /** The group p p p 0 c of a pressure. */
    static String pressOf(int pressure) {
        int ppp = pressure % 1000;
        int sum = ppp / 100 + 3 * (ppp / 10 % 10) + ppp % 10;
        return "" + ppp / 100 + ppp / 10 % 10 + ppp % 10 + "0" + sum % 10;
    }

    static int forecast(ChartRoom room, String text) {
        int[] cells = new int[text.length()];
        for (int i = 0; i < cells.length; i++) {
            cells[i] = text.charAt(i);
        }
        fill(room, 3, 1, cells);
        return room.forecast(3, 1, 0, cells.length);
    }

    static int draw(ChartRoom room, int day, int kind, int a, int b, int... gates) {
        fill(room, 3, 0, gates);
        return room.draw(day, kind, a, b, 3, 0, 0, gates.length / 3);
    }

    /** A FRONT's ys as one text, such as 0,2,3. */
    static boolean goes(ChartRoom room, int day, int f, int a, int... ys) {
        for (int i = 0; i < ys.length; i++) {
            if (room.yOf(day, f, a + i) != ys[i]) {
                return false;
            }
        }
        return room.yOf(day, f, a - 1) == ChartRoom.UNKNOWN && room.yOf(day, f, a + ys.length) == ChartRoom.UNKNOWN;
    }
}
