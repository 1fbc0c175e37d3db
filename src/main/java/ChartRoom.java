import java.util.ArrayList;
import java.util.Arrays;

/**
 * A chart room: posts and their wires, the chart that they give, fronts, prognoses, forecasts and sheets.
 * Words in capitals are those of the document.
 */
public final class ChartRoom {
    public static final int UNKNOWN = -1, OUTSIDE = -2, STATE = -3, FULL = -4, NONE = -9;
    public static final long LOST = Long.MIN_VALUE;

    private static final int SIDE = 12, PLACES = 144;
    private static final int POST = 0, SHIP = 1, BUOY = 2;
    private static final int MOST_POSTS = 12, HIGHEST = 3000, FASTEST = 20, LAST_TIME = 99;
    private static final int WIND = 0, PRESS = 1, GROUPS = 3, GROUP_DIGITS = 5, WIRE_DIGITS = 15, MOST_WIRES = 30;
    private static final int STEEPEST = 500, HIGHEST_LINE = 20000;
    private static final int DAYS = 2, KINDS = 3, MOST_FRONTS = 5;
    private static final int FARTHEST = 11, WIDEST_DRIFT = 4, KEPT_CHARTS = 4;
    private static final int MOST_FORECASTS = 8, MOST_CLAUSES = 5, MOST_NUMBER_DIGITS = 5;
    private static final int SHEETS = 4, LANES = 3, MOST_CELLS = 60;
    private static final int NO_FAULT = 0, NULL = 1, CAST = 2, INDEX = 3, SIZE = 4;

    private final Desk desk;
    private final Chart chart;
    private boolean isChartStale;
    private ArrayList<Front> yesterday;
    private ArrayList<Front> today;
    private final Pen pen;
    private final Matching matching;
    private final int[][] keptValues;
    private final boolean[] isKept;
    private final ArrayList<Forecast> forecasts;
    private final Sheet[] sheets;
    private int trace;
    private int fault;

    public ChartRoom() {
        desk = new Desk();
        chart = new Chart();
        isChartStale = true;
        yesterday = new ArrayList<>();
        today = new ArrayList<>();
        pen = new Pen();
        matching = new Matching();
        keptValues = new int[KEPT_CHARTS][PLACES];
        isKept = new boolean[KEPT_CHARTS];
        forecasts = new ArrayList<>();
        sheets = new Sheet[SHEETS];
        for (int k = 0; k < SHEETS; k++) {
            sheets[k] = new Sheet();
        }
        trace = 0;
        fault = NO_FAULT;
    }

    // ---- 1 posts

    public int post(int kind, int x, int y, int height, int gx, int gy) {
        if (!isBelow(kind, KINDS) || !isPlace(x, y) || !isWithin(height, 0, HIGHEST)) return OUTSIDE;
        if (!isWithin(gx, -FASTEST, FASTEST) || !isWithin(gy, -FASTEST, FASTEST)) return OUTSIDE;
        if (desk.posts.size() >= MOST_POSTS) return FULL;
        desk.posts.add(new Post(kind, x, y, height, gx, gy));
        lookAgain();
        return desk.posts.size() - 1;
    }

    public int about(int p, int what) {
        if (!isPost(p)) return UNKNOWN;
        Post post = desk.posts.get(p);
        switch (what) {
            case 0: return post.kind;
            case 1: return post.x;
            case 2: return post.y;
            case 3: return post.height;
            case 4: return desk.countWiresOf(p);
            case 5: return desk.shown[p];
            case 6: return isIn(settledChart().doubts, p) ? 1 : 0;
            default: return OUTSIDE;
        }
    }

    public int place(int p, int hour) {
        if (!isPost(p)) return UNKNOWN;
        if (!isWithin(hour, 0, LAST_TIME)) return OUTSIDE;
        return desk.posts.get(p).placeAt(hour);
    }

    // ---- 2 wires

    public int wire(int p, int hour, int came, int sheet, int lane, int i) {
        fault = NO_FAULT;
        if (!isPost(p) || !isSheet(sheet)) return UNKNOWN;
        if (!isBelow(lane, LANES) || !isWithin(hour, 0, LAST_TIME) || !isWithin(came, 0, LAST_TIME)) return OUTSIDE;
        int found = sheets[sheet].faultOfTaking(lane, i, WIRE_DIGITS);
        if (found != NO_FAULT) return comeTo(found);
        int[] cells = sheets[sheet].cells;
        for (int d = i; d < i + WIRE_DIGITS; d++) {
            if (!isWithin(cells[d], -1, 9)) return OUTSIDE;
        }
        if (desk.wires.size() >= MOST_WIRES) return FULL;
        int height = desk.posts.get(p).height;
        desk.wires.add(new Wire(p, height, hour, came, Arrays.copyOfRange(cells, i, i + WIRE_DIGITS)));
        lookAgain();
        return desk.wires.size() - 1;
    }

    public int told(int w, int what) {
        if (!isWire(w)) return UNKNOWN;
        Wire wire = desk.wires.get(w);
        switch (what) {
            case 0: return wire.post;
            case 1: return wire.hour;
            case 2: return wire.came;
            case 3: return desk.shown[wire.post] == w ? 1 : 0;
            default: return OUTSIDE;
        }
    }

    public int digit(int w, int group, int digit) {
        if (!isWire(w)) return UNKNOWN;
        if (!isBelow(group, GROUPS) || !isBelow(digit, GROUP_DIGITS)) return OUTSIDE;
        int found = desk.wires.get(w).digits[GROUP_DIGITS * group + digit];
        return found < 0 ? NONE : found;
    }

    public int readings(int w, int group) {
        if (!isWire(w)) return UNKNOWN;
        if (!isBelow(group, GROUPS)) return OUTSIDE;
        return desk.wires.get(w).counts[group];
    }

    public int reading(int w, int group, int i) {
        if (!isWire(w) || i < 0) return UNKNOWN;
        if (!isBelow(group, GROUPS)) return OUTSIDE;
        Wire wire = desk.wires.get(w);
        if (i >= wire.counts[group]) return UNKNOWN;
        return wire.readingAt(group, i);
    }

    public int view(int h, int k) {
        if (!isWithin(h, 0, LAST_TIME) || !isWithin(k, 0, LAST_TIME)) return OUTSIDE;
        desk.hour = h;
        desk.known = k;
        lookAgain();
        return Integer.bitCount(desk.inView);
    }

    public int guess(int w) {
        if (!isWire(w)) return UNKNOWN;
        Wire wire = desk.wires.get(w);
        if (desk.places[wire.post] == NONE) return STATE;
        return desk.guessFor(wire);
    }

    public int mended(int w) {
        if (!isWire(w)) return UNKNOWN;
        Wire wire = desk.wires.get(w);
        if (desk.places[wire.post] == NONE || wire.counts[PRESS] == 0) return STATE;
        return desk.mendedPress(wire);
    }

    public int level(int w) {
        if (!isWire(w)) return UNKNOWN;
        Wire wire = desk.wires.get(w);
        if (desk.places[wire.post] == NONE || wire.counts[PRESS] == 0) return STATE;
        return desk.mendedLevel(wire);
    }

    // ---- 3 the chart

    public int steep(int v) {
        if (!isWithin(v, 1, STEEPEST)) return OUTSIDE;
        int old = chart.steepest;
        chart.steepest = v;
        isChartStale = true;
        return old;
    }

    public int quarrel(int p, int q) {
        if (!isPost(p) || !isPost(q)) return UNKNOWN;
        if (p == q || !isIn(desk.inView, p) || !isIn(desk.inView, q)) return STATE;
        return isIn(settledChart().rivals[p], q) ? 1 : 0;
    }

    public int doubted() {
        return settledChart().doubts;
    }

    public int value(int x, int y) {
        if (!isPlace(x, y)) return UNKNOWN;
        return settledChart().values[SIDE * y + x];
    }

    public int line(int v, int what) {
        if (!isWithin(v, 0, HIGHEST_LINE) || !isWithin(what, 0, 4)) return OUTSIDE;
        Chart now = settledChart();
        if (now.countValues() == 0) return STATE;
        switch (what) {
            case 0: return now.lengthOfLine(v);
            case 1: return now.countPieces(v, true);
            case 2: return now.countPieces(v, false);
            case 3: return now.countBelow(v);
            default: return now.countWrong(desk, v);
        }
    }

    // ---- 4 fronts

    public int draw(int day, int kind, int a, int b, int sheet, int lane, int i, int n) {
        fault = NO_FAULT;
        if (!isSheet(sheet)) return UNKNOWN;
        if (!isBelow(lane, LANES) || !isBelow(day, DAYS) || !isBelow(kind, KINDS)) return OUTSIDE;
        if (a < 0 || a >= b || b >= SIDE) return OUTSIDE;
        int found = sheets[sheet].faultOfTaking(lane, i, 3L * n);
        if (found != NO_FAULT) return comeTo(found);
        if (!pen.takesGates(sheets[sheet].cells, i, n)) return OUTSIDE;
        int start = pen.bestStart(a, b);
        if (start == NONE) return STATE;
        ArrayList<Front> fronts = frontsOf(day);
        if (fronts.size() >= MOST_FRONTS) return FULL;
        fronts.add(pen.drawn(kind, a, b, start));
        return fronts.size() - 1;
    }

    public int front(int day, int f, int what) {
        if (!isBelow(day, DAYS)) return OUTSIDE;
        if (!isBelow(f, frontsOf(day).size())) return UNKNOWN;
        Front front = frontsOf(day).get(f);
        switch (what) {
            case 0: return front.kind;
            case 1: return front.a;
            case 2: return front.b;
            case 3: return front.bends;
            case 4: return partnerOf(day, f);
            default: return OUTSIDE;
        }
    }

    public int yOf(int day, int f, int x) {
        if (!isBelow(day, DAYS)) return OUTSIDE;
        if (!isBelow(f, frontsOf(day).size())) return UNKNOWN;
        Front front = frontsOf(day).get(f);
        if (!isWithin(x, front.a, front.b)) return UNKNOWN;
        return front.ys[x];
    }

    public int joining() {
        return matching.match(yesterday, today);
    }

    public int night() {
        ArrayList<Front> gone = yesterday;
        yesterday = today;
        gone.clear();
        today = gone;
        return yesterday.size();
    }

    // ---- 5 prognosis, words

    public int prognosis(int u, int v, int x, int y) {
        if (!isWithin(u, -FARTHEST, FARTHEST) || !isWithin(v, -FARTHEST, FARTHEST)) return OUTSIDE;
        if (!isPlace(x, y)) return UNKNOWN;
        return settledChart().carriedValue(u, v, x, y);
    }

    public int keep(int k) {
        if (!isBelow(k, KEPT_CHARTS)) return UNKNOWN;
        Chart now = settledChart();
        System.arraycopy(now.values, 0, keptValues[k], 0, PLACES);
        isKept[k] = true;
        return now.countValues();
    }

    public long beside(int u, int v, int k, int what) {
        if (!isWithin(u, -FARTHEST, FARTHEST) || !isWithin(v, -FARTHEST, FARTHEST)) return LOST;
        if (!isWithin(what, 0, 2) || !isBelow(k, KEPT_CHARTS) || !isKept[k]) return LOST;
        Chart now = settledChart();
        now.compare(u, v, keptValues[k]);
        switch (what) {
            case 0: return now.shared;
            case 1: return now.sumOfSizes;
            default: return now.sumOfDifferences;
        }
    }

    public int drift(int k, int n) {
        if (!isBelow(k, KEPT_CHARTS)) return UNKNOWN;
        if (!isWithin(n, 0, WIDEST_DRIFT)) return OUTSIDE;
        if (!isKept[k]) return STATE;
        int best = settledChart().bestDrift(keptValues[k], n);
        return best == NONE ? STATE : best;
    }

    public int forecast(int sheet, int lane, int i, int n) {
        fault = NO_FAULT;
        if (!isSheet(sheet)) return UNKNOWN;
        if (!isBelow(lane, LANES)) return OUTSIDE;
        int found = sheets[sheet].faultOfTaking(lane, i, n);
        if (found != NO_FAULT) return comeTo(found);
        Forecast forecast = new Forecast();
        int firstFault = forecast.firstFaultOf(sheets[sheet].cells, i, n);
        if (firstFault != NONE) return -100 - firstFault;
        if (forecasts.size() >= MOST_FORECASTS) return FULL;
        forecasts.add(forecast);
        return forecasts.size() - 1;
    }

    public int verified(int f, int what) {
        if (!isBelow(f, forecasts.size())) return UNKNOWN;
        Forecast forecast = forecasts.get(f);
        switch (what) {
            case 0: return forecast.clauses;
            case 1: return Integer.bitCount(forecast.trueClauses(settledChart().values));
            case 2: return forecast.trueClauses(settledChart().values);
            default: return OUTSIDE;
        }
    }

    // ---- 6 sheets, parts

    public int sheet(int k, int lane, int n) {
        fault = NO_FAULT;
        if (!isSheet(k)) return UNKNOWN;
        if (!isBelow(lane, LANES) || n > MOST_CELLS) return OUTSIDE;
        if (n < 0) return comeTo(SIZE);
        sheets[k].renew(lane, n);
        return 1;
    }

    public int lose(int k) {
        if (!isSheet(k)) return UNKNOWN;
        if (sheets[k].isEmpty()) return 0;
        sheets[k].drop();
        return 1;
    }

    public int put(int k, int i, int v) {
        fault = NO_FAULT;
        if (!isSheet(k)) return UNKNOWN;
        int found = sheets[k].faultOfTaking(sheets[k].lane, i, 1);
        if (found != NO_FAULT) return comeTo(found);
        sheets[k].write(i, v);
        return 1;
    }

    public long cell(int k, int i, int lane) {
        fault = NO_FAULT;
        if (!isSheet(k) || !isBelow(lane, LANES)) return LOST;
        fault = sheets[k].faultOfTaking(lane, i, 1);
        if (fault != NO_FAULT) return LOST;
        return sheets[k].cells[i];
    }

    public int copy(int k, int i, int other, int j, int n) {
        fault = NO_FAULT;
        if (!isSheet(k) || !isSheet(other)) return UNKNOWN;
        Sheet from = sheets[k];
        Sheet to = sheets[other];
        if (from.isEmpty() || to.isEmpty()) return comeTo(NULL);
        if (from.lane != to.lane) return comeTo(CAST);
        if (!from.hasCells(i, n) || !to.hasCells(j, n)) return comeTo(INDEX);
        System.arraycopy(from.cells, i, to.cells, j, n);
        return n;
    }

    public int tell(int p) {
        if (!isPost(p)) return UNKNOWN;
        Post post = desk.posts.get(p);
        switch (post.kind) {
            case BUOY: return tellAsBuoy(post);
            case SHIP: return tellAsShip(post);
            default: return tellAsPost(post);
        }
    }

    public int hail(int p) {
        if (!isPost(p)) return UNKNOWN;
        if (desk.posts.get(p).kind == BUOY) {
            leaveInTrace(5);
            return 80;
        }
        leaveInTrace(4);
        return p;
    }

    public int as(int p, int kind) {
        fault = NO_FAULT;
        if (!isPost(p)) return UNKNOWN;
        if (!isBelow(kind, KINDS)) return OUTSIDE;
        // each kind is one of the kinds numbered below it, too
        if (desk.posts.get(p).kind < kind) return comeTo(CAST);
        return 1;
    }

    public int trace() {
        return trace;
    }

    public int fault() {
        return fault;
    }

    public int many(int what) {
        switch (what) {
            case 0: return desk.posts.size();
            case 1: return desk.wires.size();
            case 2: return Integer.bitCount(desk.inView);
            case 3: return yesterday.size();
            case 4: return today.size();
            case 5: return forecasts.size();
            case 6: return desk.hour;
            case 7: return desk.known;
            case 8: return countKept();
            default: return OUTSIDE;
        }
    }

    // ---- what the calls share

    private static boolean isWithin(int v, int low, int high) {
        return v >= low && v <= high;
    }

    private static boolean isBelow(int v, int count) {
        return v >= 0 && v < count;
    }

    private static boolean isPlace(int x, int y) {
        return isBelow(x, SIDE) && isBelow(y, SIDE);
    }

    private static boolean isIn(int set, int p) {
        return (set >> p & 1) != 0;
    }

    private boolean isPost(int p) {
        return isBelow(p, desk.posts.size());
    }

    private boolean isWire(int w) {
        return isBelow(w, desk.wires.size());
    }

    private static boolean isSheet(int k) {
        return isBelow(k, SHEETS);
    }

    private int comeTo(int found) {
        fault = found;
        return -10 - found;
    }

    private void lookAgain() {
        desk.look();
        isChartStale = true;
    }

    /** The chart is reckoned when it is asked for, as most wires and views are never looked at on it. */
    private Chart settledChart() {
        if (isChartStale) {
            chart.settle(desk);
            isChartStale = false;
        }
        return chart;
    }

    private ArrayList<Front> frontsOf(int day) {
        return day == 0 ? yesterday : today;
    }

    private int partnerOf(int day, int f) {
        matching.match(yesterday, today);
        if (day == 0) return matching.partners[f];
        for (int p = 0; p < yesterday.size(); p++) {
            if (matching.partners[p] == f) return p;
        }
        return NONE;
    }

    private int countKept() {
        int count = 0;
        for (int k = 0; k < KEPT_CHARTS; k++) {
            if (isKept[k]) count++;
        }
        return count;
    }

    private void leaveInTrace(int body) {
        trace = 31 * trace + body;
    }

    private int tellAsPost(Post post) {
        leaveInTrace(1);
        return post.height;
    }

    private int tellAsShip(Post post) {
        leaveInTrace(2);
        return tellAsPost(post) + post.gx;
    }

    private int tellAsBuoy(Post post) {
        leaveInTrace(3);
        int asShip = tellAsShip(post);
        return asShip + tellAsPost(post);
    }

    private static int stepsBetween(int place, int other) {
        int dx = Math.abs(place % SIDE - other % SIDE);
        int dy = Math.abs(place / SIDE - other / SIDE);
        return Math.max(dx, dy);
    }

    private static int farBetween(int place, int other) {
        int dx = place % SIDE - other % SIDE;
        int dy = place / SIDE - other / SIDE;
        return dx * dx + dy * dy;
    }

    private static final class Post {
        final int kind, x, y, height, gx, gy;

        Post(int kind, int x, int y, int height, int gx, int gy) {
            this.kind = kind;
            this.x = x;
            this.y = y;
            this.height = height;
            this.gx = gx;
            this.gy = gy;
        }

        /** Its PLACE as 12 y and x, or NONE. */
        int placeAt(int hour) {
            int atX = along(x, gx, hour);
            int atY = along(y, gy, hour);
            return isPlace(atX, atY) ? SIDE * atY + atX : NONE;
        }

        private int along(int from, int goes, int hour) {
            if (kind == POST) return from;
            int at = from + Math.floorDiv(goes * hour, 10);
            if (kind == SHIP) return at;
            int rest = Math.floorMod(at, 22);
            return rest > 11 ? 22 - rest : rest;
        }
    }

    private static final class Wire {
        final int post, hour, came;
        /** Of its POST. */
        private final int height;
        final int[] digits;
        /** How many READINGS each GROUP has: asked for again and again, and never other. */
        final int[] counts;

        Wire(int post, int height, int hour, int came, int[] digits) {
            this.post = post;
            this.height = height;
            this.hour = hour;
            this.came = came;
            this.digits = digits;
            counts = new int[GROUPS];
            for (int group = 0; group < GROUPS; group++) {
                counts[group] = countRight(group);
            }
        }

        private int countRight(int group) {
            int count = 0;
            int fillings = countFillings(group);
            for (int filling = 0; filling < fillings; filling++) {
                if (filled(group, filling) != NONE) count++;
            }
            return count;
        }

        /** The i-th READING of a GROUP, or NONE. */
        int readingAt(int group, int i) {
            int ahead = 0;
            int fillings = countFillings(group);
            for (int filling = 0; filling < fillings; filling++) {
                int found = filled(group, filling);
                if (found != NONE) {
                    if (ahead == i) return found;
                    ahead++;
                }
            }
            return NONE;
        }

        /** The least of the READINGS of PRESS whose LEVEL is nearest to a guess, or NONE. */
        int nearestPress(int guess) {
            int nearest = NONE;
            int least = 0;
            int fillings = countFillings(PRESS);
            for (int filling = 0; filling < fillings; filling++) {
                int found = filled(PRESS, filling);
                if (found != NONE) {
                    int off = Math.abs(levelOf(found) - guess);
                    if (nearest == NONE || off < least) {
                        nearest = found;
                        least = off;
                    }
                }
            }
            return nearest;
        }

        /** The LEVEL of a RIGHT PRESS. */
        int levelOf(int press) {
            int ppp = press / 100;
            int pressure = ppp < 500 ? 10000 + ppp : 9000 + ppp;
            return pressure + Math.floorDiv(12 * height, 100);
        }

        /** In how many ways the garbled ones of a GROUP's first four digits can be filled; the check follows from them. */
        private int countFillings(int group) {
            int ways = 1;
            for (int d = 0; d < GROUP_DIGITS - 1; d++) {
                if (digits[GROUP_DIGITS * group + d] < 0) ways *= 10;
            }
            return ways;
        }

        /** A GROUP with its garbled digits filled by those of a number, as a number of five digits; NONE: that is not RIGHT. */
        private int filled(int group, int filling) {
            int first = GROUP_DIGITS * group;
            int rest = filling;
            int four = 0;
            int weight = 1;
            int sum = 0;
            for (int d = GROUP_DIGITS - 2; d >= 0; d--) {
                int digit = digits[first + d];
                if (digit < 0) {
                    digit = rest % 10;
                    rest = rest / 10;
                }
                four += weight * digit;
                weight *= 10;
                sum += d % 2 == 0 ? digit : 3 * digit;
            }
            int check = digits[first + GROUP_DIGITS - 1];
            if (check >= 0 && check != sum % 10) return NONE;
            if (group == WIND && four / 100 > 36) return NONE;
            return 10 * four + sum % 10;
        }
    }

    /** The POSTS and WIRES, and which of them are IN VIEW. */
    private static final class Desk {
        final ArrayList<Post> posts = new ArrayList<>();
        final ArrayList<Wire> wires = new ArrayList<>();
        int hour = 0;
        int known = LAST_TIME;
        /** By POST: its PLACE at the hour, its WIRE IN VIEW (or NONE), the LEVEL of that, if it has just one READING. */
        final int[] places = new int[MOST_POSTS];
        final int[] shown = new int[MOST_POSTS];
        private final int[] sureLevels = new int[MOST_POSTS];
        /** POSTS as sets: those with a WIRE IN VIEW, and of these those with just one READING of its PRESS. */
        int inView = 0;
        private int sure = 0;

        int countWiresOf(int p) {
            int count = 0;
            for (int w = 0; w < wires.size(); w++) {
                if (wires.get(w).post == p) count++;
            }
            return count;
        }

        /** To be called when the POSTS, the WIRES or THE VIEW have changed. */
        void look() {
            inView = 0;
            sure = 0;
            for (int p = 0; p < posts.size(); p++) {
                places[p] = posts.get(p).placeAt(hour);
                shown[p] = places[p] == NONE ? NONE : latestReadable(p);
                if (shown[p] != NONE) {
                    inView |= 1 << p;
                    Wire wire = wires.get(shown[p]);
                    if (wire.counts[PRESS] == 1) {
                        sure |= 1 << p;
                        sureLevels[p] = wire.levelOf(wire.readingAt(PRESS, 0));
                    }
                }
            }
        }

        /** What came last counts, even if it can't be read: then there is none. */
        private int latestReadable(int p) {
            int latest = NONE;
            int latestCame = 0;
            boolean isReadable = false;
            for (int w = 0; w < wires.size(); w++) {
                Wire wire = wires.get(w);
                boolean isAsked = wire.post == p && wire.hour == hour && wire.came <= known;
                if (isAsked && (latest == NONE || wire.came >= latestCame)) {
                    latest = w;
                    latestCame = wire.came;
                    isReadable = wire.counts[PRESS] > 0;
                }
            }
            return isReadable ? latest : NONE;
        }

        /** Of a set of POSTS that are on THE CHART the one nearest to a PLACE, or NONE. */
        int nearestOf(int set, int place) {
            int nearest = NONE;
            int least = 0;
            for (int p = 0; p < posts.size(); p++) {
                if (isIn(set, p)) {
                    int far = farBetween(places[p], place);
                    if (nearest == NONE || far < least) {
                        nearest = p;
                        least = far;
                    }
                }
            }
            return nearest;
        }

        /** GUESS for a WIRE whose POST is on THE CHART. */
        int guessFor(Wire wire) {
            int left = sure & ~(1 << wire.post);
            int sum = 0;
            int count = 0;
            for (int taken = 0; taken < 3; taken++) {
                int nearest = nearestOf(left, places[wire.post]);
                if (nearest == NONE) break;
                left &= ~(1 << nearest);
                sum += sureLevels[nearest];
                count++;
            }
            return count == 0 ? 10000 : Math.floorDiv(sum, count);
        }

        int mendedPress(Wire wire) {
            return wire.nearestPress(guessFor(wire));
        }

        int mendedLevel(Wire wire) {
            return wire.levelOf(wire.nearestPress(guessFor(wire)));
        }
    }

    /** What the WIRES IN VIEW give: LEVELS, quarrels, doubts, VALUES. */
    private static final class Chart {
        int steepest = 60;
        /** By POST, NONE for those without a WIRE IN VIEW. */
        private final int[] levels = new int[MOST_POSTS];
        /** By POST, the POSTS that it QUARRELS with, as a set. */
        final int[] rivals = new int[MOST_POSTS];
        int doubts = 0;
        final int[] values = new int[PLACES];
        /** What the latest comparison found. */
        int shared = 0;
        int sumOfSizes = 0;
        int sumOfDifferences = 0;
        private final boolean[] isReached = new boolean[PLACES];
        private final int[] reached = new int[PLACES];

        void settle(Desk desk) {
            int count = desk.posts.size();
            for (int p = 0; p < count; p++) {
                int w = desk.shown[p];
                levels[p] = w == NONE ? NONE : desk.mendedLevel(desk.wires.get(w));
            }
            for (int p = 0; p < count; p++) {
                rivals[p] = rivalsOf(desk, p);
            }
            doubts = fewestDoubts(count);
            int trusted = desk.inView & ~doubts;
            for (int place = 0; place < PLACES; place++) {
                int nearest = desk.nearestOf(trusted, place);
                values[place] = nearest == NONE ? NONE : levels[nearest];
            }
        }

        private int rivalsOf(Desk desk, int p) {
            int set = 0;
            if (!isIn(desk.inView, p)) return set;
            for (int q = 0; q < desk.posts.size(); q++) {
                if (q != p && isIn(desk.inView, q)) {
                    int steps = stepsBetween(desk.places[p], desk.places[q]);
                    if (Math.abs(levels[p] - levels[q]) > steepest * steps) set |= 1 << q;
                }
            }
            return set;
        }

        /** Sets are tried from the least number on, so that of equally few the least stays. */
        private int fewestDoubts(int count) {
            int best = 0;
            int fewest = count + 1;
            for (int set = 0; set < 1 << count && fewest > 0; set++) {
                int size = Integer.bitCount(set);
                if (size < fewest && leavesPeace(set, count)) {
                    best = set;
                    fewest = size;
                }
            }
            return best;
        }

        private boolean leavesPeace(int without, int count) {
            for (int p = 0; p < count; p++) {
                if (!isIn(without, p) && (rivals[p] & ~without) != 0) return false;
            }
            return true;
        }

        int countValues() {
            int count = 0;
            for (int place = 0; place < PLACES; place++) {
                if (values[place] != NONE) count++;
            }
            return count;
        }

        int countBelow(int v) {
            int count = 0;
            for (int place = 0; place < PLACES; place++) {
                if (values[place] < v) count++;
            }
            return count;
        }

        int lengthOfLine(int v) {
            int length = 0;
            for (int place = 0; place < PLACES; place++) {
                boolean isBelow = values[place] < v;
                if (place % SIDE < SIDE - 1 && (values[place + 1] < v) != isBelow) length++;
                if (place / SIDE < SIDE - 1 && (values[place + SIDE] < v) != isBelow) length++;
            }
            return length;
        }

        /** How many PIECES those BELOW have, or those that are not. */
        int countPieces(int v, boolean ofBelow) {
            for (int place = 0; place < PLACES; place++) {
                isReached[place] = (values[place] < v) != ofBelow;
            }
            int pieces = 0;
            for (int place = 0; place < PLACES; place++) {
                if (!isReached[place]) {
                    pieces++;
                    reachPiece(place);
                }
            }
            return pieces;
        }

        private void reachPiece(int start) {
            int count = reach(start, 0);
            for (int next = 0; next < count && next < PLACES; next++) {
                int place = reached[next];
                int x = place % SIDE;
                int y = place / SIDE;
                if (x > 0) count = reach(place - 1, count);
                if (x < SIDE - 1) count = reach(place + 1, count);
                if (y > 0) count = reach(place - SIDE, count);
                if (y < SIDE - 1) count = reach(place + SIDE, count);
            }
        }

        private int reach(int place, int count) {
            if (isReached[place] || count >= PLACES) return count;
            isReached[place] = true;
            reached[count] = place;
            return count + 1;
        }

        int countWrong(Desk desk, int v) {
            int count = 0;
            for (int p = 0; p < desk.posts.size(); p++) {
                if (isIn(desk.inView, p) && (levels[p] < v) != (values[desk.places[p]] < v)) count++;
            }
            return count;
        }

        /** PROGNOSIS by (u, v) of a PLACE. */
        int carriedValue(int u, int v, int x, int y) {
            if (!isPlace(x - u, y - v)) return NONE;
            return values[SIDE * (y - v) + x - u];
        }

        void compare(int u, int v, int[] kept) {
            shared = 0;
            sumOfSizes = 0;
            sumOfDifferences = 0;
            for (int place = 0; place < PLACES; place++) {
                int carried = carriedValue(u, v, place % SIDE, place / SIDE);
                if (carried != NONE && kept[place] != NONE) {
                    shared++;
                    sumOfSizes += Math.abs(carried - kept[place]);
                    sumOfDifferences += carried - kept[place];
                }
            }
        }

        /** The (u, v) that brings the VALUES nearest to kept ones, as one number; NONE: no PLACE can be compared. */
        int bestDrift(int[] kept, int n) {
            int best = NONE;
            long bestSum = 0;
            long bestShared = 0;
            for (int u = -n; u <= n; u++) {
                for (int v = -n; v <= n; v++) {
                    compare(u, v, kept);
                    boolean isBetter = best == NONE || sumOfSizes * bestShared < bestSum * shared;
                    if (shared > 0 && isBetter) {
                        best = 100 * (u + FARTHEST) + v + FARTHEST;
                        bestSum = sumOfSizes;
                        bestShared = shared;
                    }
                }
            }
            return best;
        }
    }

    private static final class Front {
        final int kind, a, b, bends;
        /** By x; those beyond a .. b mean nothing. */
        final int[] ys;

        Front(int kind, int a, int b, int bends, int[] ys) {
            this.kind = kind;
            this.a = a;
            this.b = b;
            this.bends = bends;
            this.ys = ys;
        }
    }

    /** Draws FRONTS through GATES. A change of y is told from 0 (2 down) to 4 (2 up); START: there was none yet. */
    private static final class Pen {
        private static final int LEVEL_CHANGE = 2, CHANGES = 5, START = 5, WAYS = 6, IMPOSSIBLE = 1000;
        private final int[] lows = new int[SIDE];
        private final int[] highs = new int[SIDE];
        /** The least BENDS from an x, y on, if it was come to by a change. */
        private final int[] costs = new int[PLACES * WAYS];

        /** Whether the GATES are as told; then they are taken. */
        boolean takesGates(int[] cells, int from, int n) {
            Arrays.fill(lows, 0);
            Arrays.fill(highs, SIDE - 1);
            for (int gate = 0; gate < n; gate++) {
                int x = cells[from + 3 * gate];
                int low = cells[from + 3 * gate + 1];
                int high = cells[from + 3 * gate + 2];
                if (!isPlace(x, low) || !isPlace(x, high) || low > high) return false;
                lows[x] = Math.max(lows[x], low);
                highs[x] = Math.min(highs[x], high);
            }
            return true;
        }

        /** The least y at a of those with the least BENDS; NONE: no FRONT goes through. */
        int bestStart(int a, int b) {
            weigh(a, b);
            int best = NONE;
            int least = IMPOSSIBLE;
            for (int y = 0; y < SIDE; y++) {
                int cost = costs[slotOf(a, y, START)];
                if (cost < least) {
                    best = y;
                    least = cost;
                }
            }
            return best;
        }

        /** The FRONT from the start that was found best. */
        Front drawn(int kind, int a, int b, int start) {
            int[] ys = new int[SIDE];
            int y = start;
            int came = START;
            ys[a] = y;
            for (int x = a; x < b; x++) {
                came = bestChange(x, y, came);
                y += came - LEVEL_CHANGE;
                ys[x + 1] = y;
            }
            return new Front(kind, a, b, costs[slotOf(a, start, START)], ys);
        }

        private void weigh(int a, int b) {
            for (int x = b; x >= a; x--) {
                for (int y = 0; y < SIDE; y++) {
                    for (int came = 0; came < WAYS; came++) {
                        costs[slotOf(x, y, came)] = leastCost(x, y, came, b);
                    }
                }
            }
        }

        private int leastCost(int x, int y, int came, int b) {
            if (!isWithin(y, lows[x], highs[x])) return IMPOSSIBLE;
            if (x == b) return 0;
            int least = IMPOSSIBLE;
            for (int change = 0; change < CHANGES; change++) {
                least = Math.min(least, costBy(x, y, came, change));
            }
            return least;
        }

        private int bestChange(int x, int y, int came) {
            int best = LEVEL_CHANGE;
            int least = IMPOSSIBLE;
            for (int change = 0; change < CHANGES; change++) {
                int cost = costBy(x, y, came, change);
                if (cost < least) {
                    best = change;
                    least = cost;
                }
            }
            return best;
        }

        private int costBy(int x, int y, int came, int change) {
            int next = y + change - LEVEL_CHANGE;
            if (!isPlace(x + 1, next)) return IMPOSSIBLE;
            int bend = came == START ? 0 : Math.abs(change - came);
            return bend + costs[slotOf(x + 1, next, change)];
        }

        private static int slotOf(int x, int y, int came) {
            return WAYS * (SIDE * y + x) + came;
        }
    }

    /** Joins YESTERDAY's FRONTS to TODAY's. */
    private static final class Matching {
        private static final int ALONE = 15, APART = 1000;
        private static final int SETS = 32;
        private final int[][] pairCosts = new int[MOST_FRONTS][MOST_FRONTS];
        /** The least COST of YESTERDAY's from one on and of TODAY's, if a set of these is taken already. */
        private final int[][] leastCosts = new int[MOST_FRONTS + 1][SETS];
        /** By YESTERDAY's number: TODAY's, or NONE. */
        final int[] partners = new int[MOST_FRONTS];

        /** The COST of JOINING; partners are set. */
        int match(ArrayList<Front> yesterday, ArrayList<Front> today) {
            int olds = yesterday.size();
            int news = today.size();
            for (int f = 0; f < olds; f++) {
                for (int g = 0; g < news; g++) {
                    pairCosts[f][g] = pairCost(yesterday.get(f), today.get(g));
                }
            }
            for (int taken = 0; taken < 1 << news; taken++) {
                leastCosts[olds][taken] = ALONE * (news - Integer.bitCount(taken));
            }
            for (int f = olds - 1; f >= 0; f--) {
                for (int taken = 0; taken < 1 << news; taken++) {
                    leastCosts[f][taken] = leastCost(f, taken, news);
                }
            }
            setPartners(olds, news);
            return leastCosts[0][0];
        }

        private static int pairCost(Front old, Front young) {
            int first = Math.max(old.a, young.a);
            int last = Math.min(old.b, young.b);
            if (old.kind != young.kind || first > last) return APART;
            int cost = 0;
            for (int x = first; x <= last; x++) {
                cost += Math.abs(old.ys[x] - young.ys[x]);
            }
            return cost;
        }

        private int leastCost(int f, int taken, int news) {
            int least = ALONE + leastCosts[f + 1][taken];
            for (int g = 0; g < news; g++) {
                if (!isIn(taken, g)) least = Math.min(least, costWith(f, g, taken));
            }
            return least;
        }

        private int costWith(int f, int g, int taken) {
            return pairCosts[f][g] + leastCosts[f + 1][taken | 1 << g];
        }

        private void setPartners(int olds, int news) {
            int taken = 0;
            for (int f = 0; f < olds; f++) {
                partners[f] = firstPartner(f, taken, news);
                if (partners[f] != NONE) taken |= 1 << partners[f];
            }
        }

        private int firstPartner(int f, int taken, int news) {
            for (int g = 0; g < news; g++) {
                if (!isIn(taken, g) && costWith(f, g, taken) == leastCosts[f][taken]) return g;
            }
            return NONE;
        }
    }

    private static final class Forecast {
        /** What the next code must be. */
        private static final int REGION = 0, SIGN = 1, FIRST_DIGIT = 2, DIGIT_OR_COMMA = 3;
        int clauses = 0;
        private final int[] regions = new int[MOST_CLAUSES];
        private final int[] signs = new int[MOST_CLAUSES];
        private final int[] numbers = new int[MOST_CLAUSES];
        private int due = REGION;
        private int digits = 0;

        /** Reads n codes: their FIRST FAULT; NONE: they are a TEXT, which this is then the FORECAST of. */
        int firstFaultOf(int[] codes, int from, int n) {
            for (int at = 0; at < n; at++) {
                if (!takes(codes[from + at])) return at;
            }
            return due == DIGIT_OR_COMMA ? NONE : n;
        }

        private boolean takes(int code) {
            switch (due) {
                case REGION: return takesRegion(code);
                case SIGN: return takesSign(code);
                default: return code == ',' ? takesComma() : takesDigit(code);
            }
        }

        private boolean takesRegion(int code) {
            boolean isRegion = code == 'n' || code == 's' || code == 'w' || code == 'e' || code == 'm';
            if (!isRegion || clauses >= MOST_CLAUSES) return false;
            regions[clauses] = code;
            digits = 0;
            due = SIGN;
            return true;
        }

        private boolean takesSign(int code) {
            if (code != '<' && code != '>') return false;
            signs[clauses] = code;
            due = FIRST_DIGIT;
            return true;
        }

        private boolean takesDigit(int code) {
            if (!isWithin(code, '0', '9') || digits >= MOST_NUMBER_DIGITS) return false;
            if (due == FIRST_DIGIT) clauses++;
            numbers[clauses - 1] = 10 * numbers[clauses - 1] + code - '0';
            digits++;
            due = DIGIT_OR_COMMA;
            return true;
        }

        private boolean takesComma() {
            if (due != DIGIT_OR_COMMA || clauses >= MOST_CLAUSES) return false;
            due = REGION;
            return true;
        }

        /** Its clauses that are TRUE, as bits. */
        int trueClauses(int[] values) {
            int set = 0;
            for (int clause = 0; clause < clauses; clause++) {
                if (isTrue(clause, values)) set |= 1 << clause;
            }
            return set;
        }

        private boolean isTrue(int clause, int[] values) {
            boolean hasValue = false;
            for (int place = 0; place < PLACES; place++) {
                int value = values[place];
                if (value != NONE && isInRegion(regions[clause], place % SIDE, place / SIDE)) {
                    hasValue = true;
                    boolean isAsTold = signs[clause] == '<' ? value < numbers[clause] : value > numbers[clause];
                    if (!isAsTold) return false;
                }
            }
            return hasValue;
        }

        private static boolean isInRegion(int region, int x, int y) {
            switch (region) {
                case 'n': return y < 4;
                case 's': return y > 7;
                case 'w': return x < 4;
                case 'e': return x > 7;
                default: return isWithin(x, 4, 7) && isWithin(y, 4, 7);
            }
        }
    }

    private static final class Sheet {
        private static final int NO_LANE = -1, BYTES = 0, SHORTS = 1;
        int lane = NO_LANE;
        private int size = 0;
        /** One row for all that it ever has, so that a new one costs no room. */
        final int[] cells = new int[MOST_CELLS];

        boolean isEmpty() {
            return lane == NO_LANE;
        }

        void renew(int newLane, int newSize) {
            lane = newLane;
            size = newSize;
            Arrays.fill(cells, 0);
        }

        void drop() {
            lane = NO_LANE;
            size = 0;
        }

        void write(int i, int v) {
            switch (lane) {
                case BYTES: cells[i] = (byte) v; break;
                case SHORTS: cells[i] = (short) v; break;
                default: cells[i] = v;
            }
        }

        boolean hasCells(int i, long count) {
            return i >= 0 && count >= 0 && i + count <= size;
        }

        /** The FAULT of taking a count of cells from i on as those of a row of a LANE, or NO_FAULT. */
        int faultOfTaking(int asLane, int i, long count) {
            if (!isEmpty() && lane != asLane) return CAST;
            if (isEmpty()) return NULL;
            if (count < 0) return SIZE;
            return hasCells(i, count) ? NO_FAULT : INDEX;
        }
    }
}
