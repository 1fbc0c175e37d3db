import java.util.function.ToLongFunction;

/**
 * "REFUSALS .. change nothing (but fault(), of a call that names FAULTS)", and a FAULT "changes nothing", promise by promise:
 * of two rooms of the same calls one has a refused call more, and then both answer alike, whatever they are asked.
 */
public final class Edges7RefusedTest {
    private static final int UNKNOWN = -1, OUTSIDE = -2, STATE = -3, FULL = -4;
    private static final int NULL = -11, CAST = -12, INDEX = -13, SIZE = -14;
    private static final long LOST = Long.MIN_VALUE;

    public static void main(String[] args) throws ReflectiveOperationException {
        Edges.run(Edges7RefusedTest.class);
    }

    /** Some of everything: sheets 0 (bytes), 1 (nothing), 2 (ints), 3 (shorts of the text). */
    private static ChartRoom furnished() {
        ChartRoom room = new ChartRoom();
        Rooms.postAt(room, 2, 3, 10000);
        room.post(1, 9, 8, 100, -3, 4);
        Rooms.wire(room, 1, 5, 40, "0.124 .253. 12342");
        Rooms.wire(room, 0, 5, 30, "091240.53012342");
        room.post(2, 0, 11, 20, 20, 20);
        room.post(1, 11, 11, 0, 10, 10);
        Rooms.draw(room, 0, 0, 0, 4, 2, 5, 6);
        Rooms.draw(room, 0, 1, 3, 9);
        Rooms.draw(room, 1, 0, 2, 6, 4, 7, 7);
        Rooms.forecast(room, "n<10001,e>9");
        Rooms.fill(room, 0, 0, 1, -2, 3, 44);
        Rooms.fill(room, 2, 2, 70000, -1);
        room.view(0, 50);
        room.keep(1);
        room.view(5, 50);
        room.steep(70);
        room.tell(2);
        return room;
    }

    /** All that can be seen of a room that was furnished, but for fault(). */
    private static String seen(ChartRoom room) {
        StringBuilder all = new StringBuilder();
        for (int what = 0; what < 9; what++) {
            all.append(room.many(what)).append(' ');
        }
        for (int p = 0; p < 5; p++) {
            for (int what = 0; what < 7; what++) {
                all.append(room.about(p, what)).append(' ');
            }
            all.append(room.place(p, 99)).append(' ').append(room.hail(p)).append(' ');
        }
        for (int w = 0; w < 4; w++) {
            all.append(room.told(w, 1)).append(room.told(w, 2)).append(room.told(w, 3)).append(room.level(w)).append(' ');
            for (int group = 0; group < 3; group++) {
                all.append(room.readings(w, group)).append(room.digit(w, group, 1)).append(' ');
            }
        }
        for (int day = 0; day < 2; day++) {
            for (int f = 0; f < 3; f++) {
                for (int what = 0; what < 5; what++) {
                    all.append(room.front(day, f, what)).append(' ');
                }
                all.append(room.yOf(day, f, 3)).append(room.yOf(day, f, 4)).append(' ');
            }
        }
        for (int k = 0; k < 4; k++) {
            for (int lane = 0; lane < 3; lane++) {
                for (int i = 0; i < 5; i++) {
                    all.append(room.cell(k, i, lane)).append(' ');
                }
            }
            all.append(room.beside(0, 0, k, 0)).append(' ').append(room.beside(1, 1, k, 1)).append(' ');
        }
        all.append(room.value(2, 3)).append(room.value(11, 0)).append(room.line(10010, 0)).append(room.joining());
        all.append(room.verified(0, 0)).append(room.verified(0, 2)).append(room.verified(1, 0)).append(room.trace());
        return all.append(room.steep(1)).toString();
    }

    private static void changesNothing(Due due, String call, int answer, ToLongFunction<ChartRoom> refused) {
        ChartRoom room = furnished();
        due.same(call, refused.applyAsLong(room), answer == UNKNOWN && call.startsWith("long ") ? LOST : answer);
        String without = seen(furnished());
        String with = seen(room);
        due.holds(call + " changes nothing: " + with + " is " + without, with.equals(without));
    }

    static void promise02_words_refusedChangesNothing(Due due) {
        changesNothing(due, "post of kind 3", OUTSIDE, room -> room.post(3, 2, 3, 0, 0, 0));
        changesNothing(due, "post at height 3001", OUTSIDE, room -> room.post(0, 2, 3, 3001, 0, 0));
        changesNothing(due, "post that goes 21", OUTSIDE, room -> room.post(1, 2, 3, 0, 0, 21));
    }

    static void promise03_words_refusedChangesNothing(Due due) {
        changesNothing(due, "about a fifth", UNKNOWN, room -> room.about(4, 0));
        changesNothing(due, "about 7", OUTSIDE, room -> room.about(0, 7));
    }

    static void promise04_words_refusedChangesNothing(Due due) {
        changesNothing(due, "place of a fifth", UNKNOWN, room -> room.place(4, 0));
        changesNothing(due, "place at 100", OUTSIDE, room -> room.place(0, 100));
    }

    static void promise05_words_refusedChangesNothing(Due due) {
        changesNothing(due, "wire of a fifth", UNKNOWN, room -> room.wire(4, 5, 50, 3, 0, 0));
        changesNothing(due, "wire for 100", OUTSIDE, room -> room.wire(0, 100, 50, 3, 0, 0));
        changesNothing(due, "wire as shorts", CAST, room -> room.wire(0, 5, 50, 0, 1, 0));
        changesNothing(due, "wire of nothing", NULL, room -> room.wire(0, 5, 50, 1, 0, 0));
        changesNothing(due, "wire of four cells", INDEX, room -> room.wire(0, 5, 50, 0, 0, 0));
    }

    static void promise06To09_words_refusedChangesNothing(Due due) {
        changesNothing(due, "told of a fifth", UNKNOWN, room -> room.told(4, 0));
        changesNothing(due, "told 4", OUTSIDE, room -> room.told(0, 4));
        changesNothing(due, "digit 5", OUTSIDE, room -> room.digit(0, 0, 5));
        changesNothing(due, "readings of group 3", OUTSIDE, room -> room.readings(0, 3));
        changesNothing(due, "reading 10", UNKNOWN, room -> room.reading(0, 1, 10));
    }

    static void promise10_words_refusedChangesNothing(Due due) {
        changesNothing(due, "view at 100", OUTSIDE, room -> room.view(100, 0));
        changesNothing(due, "view known at -1", OUTSIDE, room -> room.view(0, -1));
    }

    static void promise11To13_words_refusedChangesNothing(Due due) {
        changesNothing(due, "guess for a fifth", UNKNOWN, room -> room.guess(4));
        changesNothing(due, "mended of a fifth", UNKNOWN, room -> room.mended(4));
        changesNothing(due, "level of a fifth", UNKNOWN, room -> room.level(4));
    }

    static void promise14_words_refusedChangesNothing(Due due) {
        changesNothing(due, "steep 0", OUTSIDE, room -> room.steep(0));
        changesNothing(due, "steep 501", OUTSIDE, room -> room.steep(501));
    }

    static void promise15To18_words_refusedChangesNothing(Due due) {
        changesNothing(due, "quarrel of one", STATE, room -> room.quarrel(0, 0));
        changesNothing(due, "value beyond", UNKNOWN, room -> room.value(12, 0));
        changesNothing(due, "line at -1", OUTSIDE, room -> room.line(-1, 0));
    }

    static void promise19_words_refusedChangesNothing(Due due) {
        changesNothing(due, "draw of sheet 4", UNKNOWN, room -> room.draw(0, 0, 0, 1, 4, 0, 0, 0));
        changesNothing(due, "draw on day 2", OUTSIDE, room -> room.draw(2, 0, 0, 1, 0, 0, 0, 0));
        changesNothing(due, "draw as shorts", CAST, room -> room.draw(0, 0, 0, 1, 0, 1, 0, 0));
        changesNothing(due, "draw of nothing", NULL, room -> room.draw(0, 0, 0, 1, 1, 0, 0, 0));
        changesNothing(due, "draw of -1", SIZE, room -> room.draw(0, 0, 0, 1, 0, 0, 0, -1));
        changesNothing(due, "draw beyond", INDEX, room -> room.draw(0, 0, 0, 1, 0, 0, 0, 2));
        changesNothing(due, "draw of a cell", OUTSIDE, room -> room.draw(0, 0, 0, 1, 0, 0, 0, 1));
    }

    static void promise19_words_noWayOrFullChangesNothing(Due due) {
        ChartRoom room = new ChartRoom();
        for (int f = 0; f < 5; f++) {
            Rooms.draw(room, 1, 0, 0, 2, 0, f, f, 2, f, f);
        }
        due.same("no way", Rooms.draw(room, 1, 0, 0, 2, 0, 0, 0, 2, 9, 9), STATE);
        due.same("full", Rooms.draw(room, 1, 0, 0, 2, 0, 9, 9, 2, 9, 9), FULL);
        for (int f = 0; f < 5; f++) {
            due.holds("front " + f + " stays", Rooms.goes(room, 1, f, 0, f, f, f));
        }
        due.same("five", room.many(4), 5);
    }

    static void promise20To21_words_refusedChangesNothing(Due due) {
        changesNothing(due, "front 5", OUTSIDE, room -> room.front(0, 0, 5));
        changesNothing(due, "a third front", UNKNOWN, room -> room.front(0, 2, 4));
        changesNothing(due, "yOf beyond", UNKNOWN, room -> room.yOf(0, 0, 5));
    }

    static void promise24To27_words_refusedChangesNothing(Due due) {
        changesNothing(due, "prognosis by 12", OUTSIDE, room -> room.prognosis(12, 0, 0, 0));
        changesNothing(due, "keep 4", UNKNOWN, room -> room.keep(4));
        changesNothing(due, "long beside 0", UNKNOWN, room -> room.beside(0, 0, 0, 0));
        changesNothing(due, "drift of 5", OUTSIDE, room -> room.drift(1, 5));
        changesNothing(due, "drift beside 0", STATE, room -> room.drift(0, 4));
    }

    static void promise28_words_refusedChangesNothing(Due due) {
        changesNothing(due, "forecast of sheet 4", UNKNOWN, room -> room.forecast(4, 0, 0, 0));
        changesNothing(due, "forecast of lane 3", OUTSIDE, room -> room.forecast(0, 3, 0, 0));
        changesNothing(due, "forecast as shorts", CAST, room -> room.forecast(0, 1, 0, 0));
        changesNothing(due, "forecast of nothing", NULL, room -> room.forecast(1, 0, 0, 0));
        changesNothing(due, "forecast of -1", SIZE, room -> room.forecast(0, 0, 0, -1));
        changesNothing(due, "forecast beyond", INDEX, room -> room.forecast(0, 0, 0, 5));
        changesNothing(due, "forecast of no text", -100, room -> room.forecast(0, 0, 0, 4));
    }

    static void promise28_words_fullChangesNothing(Due due) {
        ChartRoom room = new ChartRoom();
        for (int f = 0; f < 8; f++) {
            Rooms.forecast(room, "n<1,s<1");
        }
        due.same("full", Rooms.forecast(room, "n<1"), FULL);
        for (int f = 0; f < 8; f++) {
            due.same("forecast " + f + " stays", room.verified(f, 0), 2);
        }
    }

    static void promise29_words_refusedChangesNothing(Due due) {
        changesNothing(due, "verified of a second", UNKNOWN, room -> room.verified(1, 0));
        changesNothing(due, "verified 3", OUTSIDE, room -> room.verified(0, 3));
    }

    static void promise30_words_refusedChangesNothing(Due due) {
        changesNothing(due, "sheet 4", UNKNOWN, room -> room.sheet(4, 0, 1));
        changesNothing(due, "sheet of lane 3", OUTSIDE, room -> room.sheet(0, 3, 1));
        changesNothing(due, "sheet of 61", OUTSIDE, room -> room.sheet(0, 0, 61));
        changesNothing(due, "sheet of -1", SIZE, room -> room.sheet(0, 0, -1));
        changesNothing(due, "sheet of -1 where nothing was", SIZE, room -> room.sheet(1, 0, -1));
    }

    static void promise31To33_words_refusedChangesNothing(Due due) {
        changesNothing(due, "lose 4", UNKNOWN, room -> room.lose(4));
        changesNothing(due, "put on 4", UNKNOWN, room -> room.put(4, 0, 9));
        changesNothing(due, "put on nothing", NULL, room -> room.put(1, 0, 9));
        changesNothing(due, "put beyond", INDEX, room -> room.put(0, 4, 9));
        changesNothing(due, "put below", INDEX, room -> room.put(2, -1, 9));
        changesNothing(due, "long cell beyond", UNKNOWN, room -> room.cell(0, 4, 0));
    }

    static void promise34_words_refusedChangesNothing(Due due) {
        changesNothing(due, "copy to 4", UNKNOWN, room -> room.copy(0, 0, 4, 0, 1));
        changesNothing(due, "copy of nothing", NULL, room -> room.copy(1, 0, 0, 0, 1));
        changesNothing(due, "copy to nothing", NULL, room -> room.copy(0, 0, 1, 0, 1));
        changesNothing(due, "copy to ints", CAST, room -> room.copy(0, 0, 2, 0, 1));
        changesNothing(due, "copy beyond", INDEX, room -> room.copy(0, 2, 0, 0, 3));
        changesNothing(due, "copy of -1", INDEX, room -> room.copy(0, 0, 0, 1, -1));
    }

    static void promise35To37_words_refusedChangesNothing(Due due) {
        changesNothing(due, "tell of a fifth", UNKNOWN, room -> room.tell(4));
        changesNothing(due, "hail of a fifth", UNKNOWN, room -> room.hail(4));
        changesNothing(due, "a post as a ship", CAST, room -> room.as(0, 1));
        changesNothing(due, "a post as 3", OUTSIDE, room -> room.as(0, 3));
    }

    static void promise40_words_refusedChangesNothing(Due due) {
        changesNothing(due, "many 9", OUTSIDE, room -> room.many(9));
    }
}
