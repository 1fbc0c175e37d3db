/** Promises 1 to 4 and 35 to 38: posts, where they are, what their bodies tell. */
public final class PostsTest {
    private static final Due due = new Due("PostsTest");

    public static void main(String[] args) {
        newRoom();
        post();
        fullOfPosts();
        about();
        placeOfPost();
        placeOfShip();
        placeOfBuoy();
        tell();
        hail();
        as();
        traceWraps();
        due.end();
    }

    private static void newRoom() {
        ChartRoom room = new ChartRoom();
        int[] counts = {0, 0, 0, 0, 0, 0, 0, 99, 0};
        for (int what = 0; what < counts.length; what++) {
            due.same("1: many " + what, room.many(what), counts[what]);
        }
        due.same("1: trace", room.trace(), 0);
        due.same("1: fault", room.fault(), 0);
        due.same("1: steep", room.steep(60), 60);
        due.same("1: a sheet has nothing", room.lose(0), 0);
        due.same("1: nothing kept", room.beside(0, 0, 0, 0), ChartRoom.LOST);
        due.same("1: no post", room.about(0, 0), -1);
        due.same("1: no wire", room.told(0, 0), -1);
        due.same("1: no front", room.front(0, 0, 0), -1);
        due.same("1: no forecast", room.verified(0, 0), -1);
    }

    private static void post() {
        ChartRoom room = new ChartRoom();
        due.same("2: first", room.post(0, 0, 0, 0, 0, 0), 0);
        due.same("2: the highest of all", room.post(2, 11, 11, 3000, 20, 20), 1);
        due.same("2: the lowest goes", room.post(1, 0, 11, 0, -20, -20), 2);
        int[][] outside = {{-1, 0, 0, 0, 0, 0}, {3, 0, 0, 0, 0, 0}, {0, -1, 0, 0, 0, 0}, {0, 12, 0, 0, 0, 0},
            {0, 0, -1, 0, 0, 0}, {0, 0, 12, 0, 0, 0}, {0, 0, 0, -1, 0, 0}, {0, 0, 0, 3001, 0, 0},
            {0, 0, 0, 0, -21, 0}, {0, 0, 0, 0, 21, 0}, {0, 0, 0, 0, 0, -21}, {0, 0, 0, 0, 0, 21}};
        for (int[] a : outside) {
            due.same("2: outside " + java.util.Arrays.toString(a), room.post(a[0], a[1], a[2], a[3], a[4], a[5]), -2);
        }
        due.same("2: refused ones are none", room.many(0), 3);
    }

    private static void fullOfPosts() {
        ChartRoom room = new ChartRoom();
        for (int p = 0; p < 12; p++) {
            due.same("2: the " + p, room.post(0, p, 0, 0, 0, 0), p);
        }
        due.same("2: full", room.post(0, 0, 0, 0, 0, 0), -4);
        due.same("2: outside ahead of full", room.post(0, 12, 0, 0, 0, 0), -2);
        due.same("2: still twelve", room.many(0), 12);
    }

    private static void about() {
        ChartRoom room = new ChartRoom();
        room.post(0, 1, 1, 0, 0, 0);
        room.post(1, 3, 4, 500, 7, -3);
        due.same("3: kind", room.about(1, 0), 1);
        due.same("3: x", room.about(1, 1), 3);
        due.same("3: y", room.about(1, 2), 4);
        due.same("3: height", room.about(1, 3), 500);
        due.same("3: no wires", room.about(1, 4), 0);
        due.same("3: none in view", room.about(1, 5), -9);
        due.same("3: not doubted", room.about(1, 6), 0);
        Rooms.press(room, 1, "02530");
        Rooms.wire(room, 1, 5, 0, "091240253012342");
        due.same("3: two wires", room.about(1, 4), 2);
        due.same("3: the other has none", room.about(0, 4), 0);
        due.same("3: in view", room.about(1, 5), 0);
        room.view(5, 99);
        due.same("3: in view at 5", room.about(1, 5), 1);
        due.same("3: x stays where it began", room.about(1, 1), 3);
        due.same("3: unknown", room.about(2, 0), -1);
        due.same("3: unknown below", room.about(-1, 0), -1);
        due.same("3: unknown ahead of outside", room.about(2, 7), -1);
        due.same("3: outside", room.about(1, 7), -2);
        due.same("3: outside below", room.about(1, -1), -2);
    }

    private static void placeOfPost() {
        ChartRoom room = new ChartRoom();
        room.post(0, 2, 3, 0, 20, -20);
        due.same("4: a post stays", room.place(0, 0), 38);
        due.same("4: a post stays for long", room.place(0, 99), 38);
        due.same("4: hour below", room.place(0, -1), -2);
        due.same("4: hour above", room.place(0, 100), -2);
        due.same("4: unknown", room.place(1, 0), -1);
        due.same("4: unknown ahead of outside", room.place(1, 100), -1);
    }

    private static void placeOfShip() {
        ChartRoom room = new ChartRoom();
        room.post(1, 10, 5, 0, 7, -3);
        due.same("4: ship at 0", room.place(0, 0), 70);
        due.same("4: below 0 cut down", room.place(0, 1), 58);
        due.same("4: ship at 2", room.place(0, 2), 59);
        due.same("4: off at the east", room.place(0, 3), -9);
        room.post(1, 1, 0, 0, -10, 0);
        due.same("4: on the west edge", room.place(1, 1), 0);
        due.same("4: off at the west", room.place(1, 2), -9);
        room.post(1, 5, 5, 0, 0, -1);
        due.same("4: a tenth down is a whole step", room.place(2, 1), 53);
    }

    private static void placeOfBuoy() {
        ChartRoom room = new ChartRoom();
        room.post(2, 1, 10, 0, -20, 15);
        due.same("4: thrown back at both edges", room.place(0, 1), 12 * 11 + 1);
        due.same("4: y 13 becomes 9, x -3 becomes 3", room.place(0, 2), 12 * 9 + 3);
        due.same("4: y 25 becomes 3, x -19 becomes 3", room.place(0, 10), 12 * 3 + 3);
        room.post(2, 11, 11, 0, 10, 0);
        due.same("4: 11 stays 11", room.place(1, 0), 143);
        due.same("4: 12 becomes 10", room.place(1, 1), 142);
        due.same("4: 22 becomes 0", room.place(1, 11), 132);
        due.same("4: 33 becomes 11", room.place(1, 22), 143);
    }

    private static ChartRoom roomOfKinds() {
        ChartRoom room = new ChartRoom();
        room.post(0, 0, 0, 700, 9, 9);
        room.post(1, 0, 0, 80, -5, 9);
        room.post(2, 0, 0, 300, 4, 9);
        return room;
    }

    private static void tell() {
        ChartRoom room = roomOfKinds();
        due.same("35: post", room.tell(0), 700);
        due.same("38: post's body", room.trace(), 1);
        due.same("35: ship", room.tell(1), 75);
        due.same("38: ship's, post's", room.trace(), 31 * (31 * 1 + 2) + 1);
        room = roomOfKinds();
        due.same("35: buoy", room.tell(2), 604);
        due.same("38: buoy's, ship's, post's, post's", room.trace(), ((3 * 31 + 2) * 31 + 1) * 31 + 1);
        due.same("35: unknown", room.tell(3), -1);
        due.same("35: unknown below", room.tell(-1), -1);
        due.same("38: unknown leaves nothing", room.trace(), ((3 * 31 + 2) * 31 + 1) * 31 + 1);
    }

    private static void hail() {
        ChartRoom room = roomOfKinds();
        due.same("36: post", room.hail(0), 0);
        due.same("38: lent", room.trace(), 4);
        due.same("36: ship", room.hail(1), 1);
        due.same("36: buoy", room.hail(2), 80);
        due.same("38: lent, lent, own", room.trace(), (4 * 31 + 4) * 31 + 5);
        due.same("36: unknown", room.hail(3), -1);
        due.same("38: unknown leaves nothing", room.trace(), (4 * 31 + 4) * 31 + 5);
    }

    private static void as() {
        ChartRoom room = roomOfKinds();
        int[][] answers = {{1, -12, -12}, {1, 1, -12}, {1, 1, 1}};
        for (int p = 0; p < 3; p++) {
            for (int kind = 0; kind < 3; kind++) {
                due.same("37: " + p + " as " + kind, room.as(p, kind), answers[p][kind]);
                due.same("39: " + p + " as " + kind, room.fault(), answers[p][kind] == 1 ? 0 : 2);
            }
        }
        room.as(0, 1);
        due.same("37: unknown", room.as(3, 0), -1);
        due.same("39: refused", room.fault(), 0);
        due.same("37: unknown ahead of outside", room.as(3, 3), -1);
        room.as(0, 1);
        due.same("37: outside", room.as(0, 3), -2);
        due.same("39: refused as outside", room.fault(), 0);
        due.same("37: outside below", room.as(0, -1), -2);
    }

    private static void traceWraps() {
        ChartRoom room = roomOfKinds();
        int want = 0;
        for (int i = 0; i < 20; i++) {
            room.tell(1);
            want = 31 * (31 * want + 2) + 1;
        }
        due.same("38: it wraps", room.trace(), want);
        room.place(0, 0);
        due.same("38: others leave nothing", room.trace(), want);
    }
}
