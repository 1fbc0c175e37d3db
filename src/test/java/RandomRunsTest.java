import java.util.Random;
import java.util.function.ToLongFunction;

/** Runs of calls, put to the program and to the Oracle; each run is told by its seed. */
public final class RandomRunsTest {
    private static final int RUNS = 700, CALLS = 512, LONGEST_STEP = 64;
    private static final int[] ODD = {-1, 12, 100, 101, -2, 61, 20001, Integer.MAX_VALUE, Integer.MIN_VALUE, 1431655766, -12};
    private static final String SIGNS = "nswem<>,0123456789 x";
    private static final Due due = new Due("RandomRunsTest");

    private final Random random;
    private final int run;
    private final ChartRoom room = new ChartRoom();
    private final Oracle oracle = new Oracle();
    private int calls = 0;
    /** How often in a thousand a number is an odd one. */
    private final int oddness;

    private RandomRunsTest(int run) {
        this.run = run;
        random = new Random(run);
        oddness = run % 4 == 0 ? 60 : 8;
    }

    public static void main(String[] args) {
        for (int run = 0; run < RUNS; run++) {
            new RandomRunsTest(run).go();
        }
        due.end();
    }

    private void go() {
        int posts = 1 + random.nextInt(12);
        for (int p = 0; p < posts; p++) {
            bringPost();
        }
        while (calls < CALLS - LONGEST_STEP) {
            step(random.nextInt(100));
        }
    }

    private void same(String call, long got, long want) {
        calls++;
        due.same("run " + run + ", call " + calls + ": " + call, got, want);
    }

    /** A call whose answer is the same number of both. */
    private void ask(String call, ToLongFunction<ChartRoom> got, ToLongFunction<Oracle> want) {
        same(call, got.applyAsLong(room), want.applyAsLong(oracle));
    }

    /** Mostly a number of low .. high. */
    private int number(int low, int high) {
        if (random.nextInt(1000) < oddness) {
            return ODD[random.nextInt(ODD.length)];
        }
        return low + random.nextInt(high - low + 1);
    }

    private void step(int choice) {
        if (choice < 16) bringWire();
        else if (choice < 18) bringPost();
        else if (choice < 26) bringFront();
        else if (choice < 31) bringForecast();
        else if (choice < 40) askOfPosts();
        else if (choice < 54) askOfWires();
        else if (choice < 70) askOfChart();
        else if (choice < 77) askOfFronts();
        else if (choice < 88) askOfPrognosis();
        else askOfSheets();
        if (random.nextInt(3) == 0) ask("fault", ChartRoom::fault, Oracle::fault);
    }

    private void bringPost() {
        int kind = number(0, 2), x = number(0, 11), y = number(0, 11);
        int height = number(0, 3000), gx = number(-20, 20), gy = number(-20, 20);
        ask("post", r -> r.post(kind, x, y, height, gx, gy), o -> o.post(kind, x, y, height, gx, gy));
    }

    private void fill(int k, int lane, int[] cells) {
        ask("sheet", r -> r.sheet(k, lane, cells.length), o -> o.sheet(k, lane, cells.length));
        for (int c = 0; c < cells.length; c++) {
            int i = c;
            ask("put", r -> r.put(k, i, cells[i]), o -> o.put(k, i, cells[i]));
        }
    }

    /** Mostly a GROUP that is RIGHT, near 10000, with some digits garbled or wrong. */
    private void addGroup(int[] cells, int group) {
        int near = Math.floorMod((int) (random.nextGaussian() * 60), 1000);
        int first = group == 0 ? random.nextInt(380) : near;
        int[] d = {first / 100, first / 10 % 10, first % 10, random.nextInt(10), 0};
        d[4] = (d[0] + 3 * d[1] + d[2] + 3 * d[3]) % 10;
        int garbled = Math.max(0, random.nextInt(9) - 5);
        for (int g = 0; g < garbled; g++) {
            d[random.nextInt(5)] = -1;
        }
        if (random.nextInt(12) == 0) d[random.nextInt(5)] = random.nextInt(10);
        if (random.nextInt(40) == 0) d[random.nextInt(5)] = number(-2, 10);
        for (int k = 0; k < 5; k++) {
            cells[5 * group + k] = d[k];
        }
    }

    private void bringWire() {
        int[] cells = new int[15];
        for (int group = 0; group < 3; group++) {
            addGroup(cells, group);
        }
        int k = random.nextInt(4), lane = random.nextInt(3);
        fill(k, lane, cells);
        int p = number(0, 11), hour = number(0, 3), came = number(0, 20), sheet = number(k, k), as = number(lane, lane);
        int i = number(0, 0);
        ask("wire", r -> r.wire(p, hour, came, sheet, as, i), o -> o.wire(p, hour, came, sheet, as, i));
    }

    private void bringFront() {
        int gates = random.nextInt(5);
        int[] cells = new int[3 * gates + random.nextInt(2)];
        for (int g = 0; g < gates; g++) {
            int low = random.nextInt(12);
            cells[3 * g] = number(0, 11);
            cells[3 * g + 1] = random.nextInt(60) == 0 ? number(0, 11) : low;
            cells[3 * g + 2] = Math.min(11, low + random.nextInt(4));
        }
        int k = random.nextInt(4), lane = random.nextInt(3);
        fill(k, lane, cells);
        int a = number(0, 8), b = random.nextInt(20) == 0 ? number(0, 11) : Math.min(11, Math.max(0, a % 12) + 1 + random.nextInt(9));
        int day = number(0, 1), kind = number(0, 2), sheet = number(k, k), as = number(lane, lane), i = number(0, 0);
        int n = number(gates, gates);
        ask("draw", r -> r.draw(day, kind, a, b, sheet, as, i, n), o -> o.draw(day, kind, a, b, sheet, as, i, n));
    }

    private String text() {
        StringBuilder text = new StringBuilder();
        int clauses = 1 + random.nextInt(random.nextInt(4) == 0 ? 6 : 4);
        for (int c = 0; c < clauses; c++) {
            text.append(c == 0 ? "" : ",").append("nswem".charAt(random.nextInt(5))).append("<>".charAt(random.nextInt(2)));
            text.append(random.nextInt(4) == 0 ? random.nextInt(200000) : 9900 + random.nextInt(300));
        }
        if (random.nextInt(3) == 0) {
            text.setCharAt(random.nextInt(text.length()), SIGNS.charAt(random.nextInt(SIGNS.length())));
        }
        if (random.nextInt(4) == 0) text.setLength(random.nextInt(text.length()));
        return text.toString();
    }

    private void bringForecast() {
        int[] cells = text().chars().toArray();
        int k = random.nextInt(4), lane = random.nextInt(3);
        fill(k, lane, cells);
        int sheet = number(k, k), as = number(lane, lane), i = number(0, 0), n = number(cells.length, cells.length);
        ask("forecast", r -> r.forecast(sheet, as, i, n), o -> o.forecast(sheet, as, i, n));
    }

    private void askOfPosts() {
        int p = number(0, 11), what = number(0, 6), hour = number(0, 99), kind = number(0, 2);
        ask("about", r -> r.about(p, what), o -> o.about(p, what));
        ask("place", r -> r.place(p, hour), o -> o.place(p, hour));
        switch (random.nextInt(4)) {
            case 0: ask("tell", r -> r.tell(p), o -> o.tell(p)); break;
            case 1: ask("hail", r -> r.hail(p), o -> o.hail(p)); break;
            case 2: ask("as", r -> r.as(p, kind), o -> o.as(p, kind)); break;
            default: ask("trace", ChartRoom::trace, Oracle::trace);
        }
    }

    private void askOfWires() {
        int w = number(0, 29), group = number(0, 2), what = number(0, 3), d = number(0, 4);
        int i = number(0, random.nextInt(5) == 0 ? 9999 : 9);
        ask("told", r -> r.told(w, what), o -> o.told(w, what));
        ask("digit", r -> r.digit(w, group, d), o -> o.digit(w, group, d));
        ask("readings", r -> r.readings(w, group), o -> o.readings(w, group));
        ask("reading", r -> r.reading(w, group, i), o -> o.reading(w, group, i));
        ask("guess", r -> r.guess(w), o -> o.guess(w));
        ask("mended", r -> r.mended(w), o -> o.mended(w));
        ask("level", r -> r.level(w), o -> o.level(w));
        if (random.nextInt(5) == 0) {
            int h = number(0, 3), k = random.nextBoolean() ? 99 : number(0, 25);
            ask("view", r -> r.view(h, k), o -> o.view(h, k));
        }
    }

    private void askOfChart() {
        int p = number(0, 11), q = number(0, 11), x = number(0, 11), y = number(0, 11);
        int v = random.nextInt(9) == 0 ? number(0, 20000) : number(9900, 10150), what = number(0, 4);
        ask("quarrel", r -> r.quarrel(p, q), o -> o.quarrel(p, q));
        ask("doubted", ChartRoom::doubted, Oracle::doubted);
        ask("value", r -> r.value(x, y), o -> o.value(x, y));
        ask("line", r -> r.line(v, what), o -> o.line(v, what));
        if (random.nextInt(5) == 0) {
            int steep = number(1, random.nextInt(4) == 0 ? 500 : 40);
            ask("steep", r -> r.steep(steep), o -> o.steep(steep));
        }
    }

    private void askOfFronts() {
        int day = number(0, 1), f = number(0, 4), x = number(0, 11), what = number(0, 4);
        ask("joining", ChartRoom::joining, Oracle::joining);
        ask("front", r -> r.front(day, f, what), o -> o.front(day, f, what));
        ask("front joined", r -> r.front(day, f, 4), o -> o.front(day, f, 4));
        ask("yOf", r -> r.yOf(day, f, x), o -> o.yOf(day, f, x));
        if (random.nextInt(9) == 0) ask("night", ChartRoom::night, Oracle::night);
    }

    private void askOfPrognosis() {
        int u = number(-11, 11), v = number(-11, 11), x = number(0, 11), y = number(0, 11), k = number(0, 3);
        int what = number(0, 2), n = number(0, 4), f = number(0, 7);
        ask("prognosis", r -> r.prognosis(u / 3, v / 3, x, y), o -> o.prognosis(u / 3, v / 3, x, y));
        ask("beside", r -> r.beside(u, v, k, what), o -> o.beside(u, v, k, what));
        ask("verified", r -> r.verified(f, what), o -> o.verified(f, what));
        if (random.nextInt(2) == 0) ask("drift", r -> r.drift(k, n), o -> o.drift(k, n));
        if (random.nextInt(3) == 0) ask("keep", r -> r.keep(k), o -> o.keep(k));
    }

    private void askOfSheets() {
        int k = number(0, 3), other = number(0, 3), lane = number(0, 2), i = number(0, 12), j = number(0, 12), n = number(0, 6);
        int v = random.nextInt(), what = number(0, 8);
        ask("many", r -> r.many(what), o -> o.many(what));
        switch (random.nextInt(6)) {
            case 0: ask("sheet", r -> r.sheet(k, lane, n + i), o -> o.sheet(k, lane, n + i)); break;
            case 1: ask("lose", r -> r.lose(k), o -> o.lose(k)); break;
            case 2: ask("put", r -> r.put(k, i, v), o -> o.put(k, i, v)); break;
            case 3: ask("cell", r -> r.cell(k, i, lane), o -> o.cell(k, i, lane)); break;
            default: ask("copy", r -> r.copy(k, i, other, j, n), o -> o.copy(k, i, other, j, n));
        }
    }
}
