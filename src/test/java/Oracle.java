import java.util.ArrayList;
import java.util.Arrays;
import java.util.HashMap;
import java.util.List;
import java.util.Map;
import java.util.regex.Matcher;
import java.util.regex.Pattern;

/**
 * What the document asks, said once more in the slowest way and by other means than the program's,
 * so that runs of calls can be put to both.
 */
final class Oracle {
    private static final int NONE = -9;
    /** By five digits and whether they are a WIND: the same for ever. */
    private static final Map<List<Integer>, List<Integer>> READINGS = new HashMap<>();
    private static final Pattern TEXT = Pattern.compile("[nswem][<>][0-9]{1,5}(,[nswem][<>][0-9]{1,5}){0,4}");

    private static class Post {
        int number, kind, x, y, height, gx, gy;
        Oracle room;

        int tell() {
            room.leave(1);
            return height;
        }

        int hail() {
            room.leave(4);
            return number;
        }
    }

    private static class Ship extends Post {
        @Override
        int tell() {
            room.leave(2);
            return super.tell() + gx;
        }
    }

    private static final class Buoy extends Ship {
        @Override
        int tell() {
            room.leave(3);
            int given = super.tell();
            Post bare = new Post();
            bare.room = room;
            bare.height = height;
            return given + bare.tell();
        }

        @Override
        int hail() {
            room.leave(5);
            return 80;
        }
    }

    private record Wire(int post, int hour, int came, List<Integer> digits) { }

    private record Front(int kind, int a, int b, int bends, List<Integer> ys) {
        int yAt(int x) {
            return ys.get(x - a);
        }
    }

    private final List<Post> posts = new ArrayList<>();
    private final List<Wire> wires = new ArrayList<>();
    private final List<List<Front>> days = new ArrayList<>(List.of(new ArrayList<>(), new ArrayList<>()));
    private final List<String> forecasts = new ArrayList<>();
    private final Map<Integer, int[][]> kept = new HashMap<>();
    private final Object[] sheets = new Object[4];
    /** What follows from the POSTS, WIRES, THE VIEW and STEEP; forgotten when one of these changes. */
    private final Map<Object, Object> memory = new HashMap<>();
    private int steep = 60, hour = 0, known = 99, trace = 0, fault = 0;

    private void leave(int body) {
        trace = trace * 31 + body;
    }

    private static boolean in(int v, int low, int high) {
        return low <= v && v <= high;
    }

    private static int floor(int a, int b) {
        return (int) Math.floor((double) a / b);
    }

    // ---- 1

    int post(int kind, int x, int y, int height, int gx, int gy) {
        boolean told = in(kind, 0, 2) && in(x, 0, 11) && in(y, 0, 11) && in(height, 0, 3000) && in(gx, -20, 20) && in(gy, -20, 20);
        if (!told) return -2;
        if (posts.size() == 12) return -4;
        Post post = kind == 0 ? new Post() : kind == 1 ? new Ship() : new Buoy();
        post.number = posts.size();
        post.kind = kind;
        post.x = x;
        post.y = y;
        post.height = height;
        post.gx = gx;
        post.gy = gy;
        post.room = this;
        posts.add(post);
        memory.clear();
        return post.number;
    }

    private boolean noPost(int p) {
        return !in(p, 0, posts.size() - 1);
    }

    int about(int p, int what) {
        if (noPost(p)) return -1;
        if (!in(what, 0, 6)) return -2;
        Post post = posts.get(p);
        int of = (int) wires.stream().filter(w -> w.post == p).count();
        return new int[] {post.kind, post.x, post.y, post.height, of, inView(p), doubted() >> p & 1}[what];
    }

    private static int thrownBack(int v) {
        int at = v;
        while (at < 0 || at > 11) {
            at = at < 0 ? -at : 22 - at;
        }
        return at;
    }

    int place(int p, int h) {
        if (noPost(p)) return -1;
        if (!in(h, 0, 99)) return -2;
        Post post = posts.get(p);
        if (post.kind == 0) return 12 * post.y + post.x;
        int x = post.x + floor(post.gx * h, 10);
        int y = post.y + floor(post.gy * h, 10);
        if (post.kind == 2) return 12 * thrownBack(y) + thrownBack(x);
        return in(x, 0, 11) && in(y, 0, 11) ? 12 * y + x : NONE;
    }

    // ---- 2

    int wire(int p, int h, int came, int sheet, int lane, int i) {
        fault = 0;
        if (noPost(p) || !in(sheet, 0, 3)) return -1;
        if (!in(lane, 0, 2) || !in(h, 0, 99) || !in(came, 0, 99)) return -2;
        int[] row = taken(sheet, lane, i, 15);
        if (row == null) return -10 - fault;
        if (Arrays.stream(row).anyMatch(d -> !in(d, -1, 9))) return -2;
        if (wires.size() == 30) return -4;
        wires.add(new Wire(p, h, came, Arrays.stream(row).boxed().toList()));
        memory.clear();
        return wires.size() - 1;
    }

    private boolean noWire(int w) {
        return !in(w, 0, wires.size() - 1);
    }

    int told(int w, int what) {
        if (noWire(w)) return -1;
        if (!in(what, 0, 3)) return -2;
        Wire wire = wires.get(w);
        return new int[] {wire.post, wire.hour, wire.came, inView(wire.post) == w ? 1 : 0}[what];
    }

    int digit(int w, int group, int digit) {
        if (noWire(w)) return -1;
        if (!in(group, 0, 2) || !in(digit, 0, 4)) return -2;
        int d = wires.get(w).digits.get(5 * group + digit);
        return d == -1 ? NONE : d;
    }

    /** All numbers of five digits are looked at. */
    private List<Integer> allReadings(int w, int group) {
        List<Integer> five = wires.get(w).digits.subList(5 * group, 5 * group + 5);
        List<Integer> key = new ArrayList<>(five);
        key.add(group == 0 ? 1 : 0);
        if (READINGS.containsKey(key)) return READINGS.get(key);
        List<Integer> all = new ArrayList<>();
        for (int n = 0; n < 100000; n++) {
            int[] d = {n / 10000, n / 1000 % 10, n / 100 % 10, n / 10 % 10, n % 10};
            boolean right = d[4] == (d[0] + 3 * d[1] + d[2] + 3 * d[3]) % 10 && (group != 0 || n / 1000 <= 36);
            for (int k = 0; k < 5 && right; k++) {
                right = five.get(k) == -1 || five.get(k) == d[k];
            }
            if (right) all.add(n);
        }
        READINGS.put(key, all);
        return all;
    }

    int readings(int w, int group) {
        if (noWire(w)) return -1;
        if (!in(group, 0, 2)) return -2;
        return allReadings(w, group).size();
    }

    int reading(int w, int group, int i) {
        if (noWire(w) || i < 0) return -1;
        if (!in(group, 0, 2)) return -2;
        List<Integer> all = allReadings(w, group);
        return i < all.size() ? all.get(i) : -1;
    }

    int view(int h, int k) {
        if (!in(h, 0, 99) || !in(k, 0, 99)) return -2;
        hour = h;
        known = k;
        memory.clear();
        return many(2);
    }

    private int inView(int p) {
        if (place(p, hour) == NONE) return NONE;
        int last = -1;
        for (int came = known; came >= 0 && last < 0; came--) {
            for (int w = wires.size() - 1; w >= 0 && last < 0; w--) {
                Wire wire = wires.get(w);
                if (wire.post == p && wire.hour == hour && wire.came == came) last = w;
            }
        }
        return last >= 0 && !allReadings(last, 1).isEmpty() ? last : NONE;
    }

    private List<Integer> postsInView() {
        List<Integer> all = new ArrayList<>();
        for (int p = 0; p < posts.size(); p++) {
            if (inView(p) != NONE) all.add(p);
        }
        return all;
    }

    private static int far(int place, int other) {
        int dx = place % 12 - other % 12;
        int dy = place / 12 - other / 12;
        return dx * dx + dy * dy;
    }

    private int levelOf(int press, int p) {
        int ppp = press / 100;
        return ppp + (ppp < 500 ? 10000 : 9000) + posts.get(p).height * 12 / 100;
    }

    private int guessed(int w) {
        int own = wires.get(w).post;
        List<Integer> sure = new ArrayList<>(postsInView());
        sure.removeIf(p -> p == own || allReadings(inView(p), 1).size() != 1);
        sure.sort((p, q) -> {
            int byFar = far(place(p, hour), place(own, hour)) - far(place(q, hour), place(own, hour));
            return byFar != 0 ? byFar : p - q;
        });
        int[] levels = sure.stream().limit(3).mapToInt(p -> levelOf(allReadings(inView(p), 1).get(0), p)).toArray();
        return levels.length == 0 ? 10000 : floor(Arrays.stream(levels).sum(), levels.length);
    }

    int guess(int w) {
        if (noWire(w)) return -1;
        return place(wires.get(w).post, hour) == NONE ? -3 : guessed(w);
    }

    int mended(int w) {
        if (noWire(w)) return -1;
        int p = wires.get(w).post;
        List<Integer> all = allReadings(w, 1);
        if (place(p, hour) == NONE || all.isEmpty()) return -3;
        int guess = guessed(w);
        int nearest = all.stream().mapToInt(r -> Math.abs(levelOf(r, p) - guess)).min().orElseThrow();
        return all.stream().filter(r -> Math.abs(levelOf(r, p) - guess) == nearest).findFirst().orElseThrow();
    }

    int level(int w) {
        int press = mended(w);
        return press < 0 ? press : levelOf(press, wires.get(w).post);
    }

    // ---- 3

    int steep(int v) {
        if (!in(v, 1, 500)) return -2;
        int was = steep;
        steep = v;
        memory.clear();
        return was;
    }

    private int levelOfPost(int p) {
        if (memory.get("level " + p) instanceof Integer found) return found;
        int level = level(inView(p));
        memory.put("level " + p, level);
        return level;
    }

    int quarrel(int p, int q) {
        if (noPost(p) || noPost(q)) return -1;
        if (p == q || inView(p) == NONE || inView(q) == NONE) return -3;
        int a = place(p, hour);
        int b = place(q, hour);
        int steps = Math.max(Math.abs(a % 12 - b % 12), Math.abs(a / 12 - b / 12));
        return Math.abs(levelOfPost(p) - levelOfPost(q)) > steep * steps ? 1 : 0;
    }

    int doubted() {
        if (memory.get("doubted") instanceof Integer found) return found;
        List<int[]> pairs = new ArrayList<>();
        for (int p : postsInView()) {
            for (int q : postsInView()) {
                if (p < q && quarrel(p, q) == 1) pairs.add(new int[] {p, q});
            }
        }
        int best = -1;
        for (int size = 0; best < 0; size++) {
            for (int set = 0; set < 4096 && best < 0; set++) {
                int without = set;
                if (Integer.bitCount(set) == size
                        && pairs.stream().allMatch(pair -> (without >> pair[0] & 1) + (without >> pair[1] & 1) > 0)) best = set;
            }
        }
        memory.put("doubted", best);
        return best;
    }

    int value(int x, int y) {
        if (!in(x, 0, 11) || !in(y, 0, 11)) return -1;
        return values()[x][y];
    }

    private int[][] values() {
        if (memory.get("values") instanceof int[][] found) return found;
        int[][] values = new int[12][12];
        for (int x = 0; x < 12; x++) {
            for (int y = 0; y < 12; y++) {
                int least = Integer.MAX_VALUE;
                values[x][y] = NONE;
                for (int p : postsInView()) {
                    int far = far(place(p, hour), 12 * y + x);
                    if ((doubted() >> p & 1) == 0 && far < least) {
                        least = far;
                        values[x][y] = levelOfPost(p);
                    }
                }
            }
        }
        memory.put("values", values);
        return values;
    }

    int line(int v, int what) {
        if (!in(v, 0, 20000) || !in(what, 0, 4)) return -2;
        int[][] values = values();
        if (Arrays.stream(values).flatMapToInt(Arrays::stream).allMatch(one -> one == NONE)) return -3;
        boolean[][] below = new boolean[12][12];
        int length = 0;
        int count = 0;
        for (int x = 0; x < 12; x++) {
            for (int y = 0; y < 12; y++) {
                below[x][y] = values[x][y] < v;
                count += below[x][y] ? 1 : 0;
                length += x > 0 && below[x][y] != below[x - 1][y] ? 1 : 0;
                length += y > 0 && below[x][y] != below[x][y - 1] ? 1 : 0;
            }
        }
        int wrong = 0;
        for (int p : postsInView()) {
            int place = place(p, hour);
            wrong += levelOfPost(p) < v != below[place % 12][place / 12] ? 1 : 0;
        }
        return new int[] {length, pieces(below, true), pieces(below, false), count, wrong}[what];
    }

    private static int pieces(boolean[][] below, boolean of) {
        boolean[][] open = new boolean[12][12];
        for (int x = 0; x < 12; x++) {
            for (int y = 0; y < 12; y++) {
                open[x][y] = below[x][y] == of;
            }
        }
        int pieces = 0;
        for (int x = 0; x < 12; x++) {
            for (int y = 0; y < 12; y++) {
                pieces += eat(open, x, y) ? 1 : 0;
            }
        }
        return pieces;
    }

    private static boolean eat(boolean[][] open, int x, int y) {
        if (!in(x, 0, 11) || !in(y, 0, 11) || !open[x][y]) return false;
        open[x][y] = false;
        eat(open, x - 1, y);
        eat(open, x + 1, y);
        eat(open, x, y - 1);
        eat(open, x, y + 1);
        return true;
    }

    // ---- 4

    int draw(int day, int kind, int a, int b, int sheet, int lane, int i, int n) {
        fault = 0;
        if (!in(sheet, 0, 3)) return -1;
        if (!in(lane, 0, 2) || !in(day, 0, 1) || !in(kind, 0, 2) || !in(a, 0, 11) || !in(b, 0, 11) || a >= b) return -2;
        int[] row = taken(sheet, lane, i, 3L * n);
        if (row == null) return -10 - fault;
        for (int g = 0; g < row.length; g += 3) {
            if (!in(row[g], 0, 11) || !in(row[g + 1], 0, 11) || !in(row[g + 2], 0, 11) || row[g + 1] > row[g + 2]) return -2;
        }
        Front best = bestFront(kind, a, b, row);
        if (best == null) return -3;
        if (days.get(day).size() == 5) return -4;
        days.get(day).add(best);
        return days.get(day).size() - 1;
    }

    private static boolean passes(int x, int y, int[] gates) {
        for (int g = 0; g < gates.length; g += 3) {
            if (gates[g] == x && !in(y, gates[g + 1], gates[g + 2])) return false;
        }
        return in(y, 0, 11);
    }

    /** Of all rows that end alike (y and the change to it) only the best is carried on. */
    private static Front bestFront(int kind, int a, int b, int[] gates) {
        Map<List<Integer>, Front> ends = new HashMap<>();
        for (int y = 0; y < 12; y++) {
            if (passes(a, y, gates)) ends.put(List.of(y, 99), new Front(kind, a, b, 0, List.of(y)));
        }
        for (int x = a + 1; x <= b; x++) {
            Map<List<Integer>, Front> next = new HashMap<>();
            for (Map.Entry<List<Integer>, Front> end : ends.entrySet()) {
                for (int change = -2; change <= 2; change++) {
                    int y = end.getKey().get(0) + change;
                    int came = end.getKey().get(1);
                    if (!passes(x, y, gates)) continue;
                    List<Integer> ys = new ArrayList<>(end.getValue().ys);
                    ys.add(y);
                    int bends = end.getValue().bends + (came == 99 ? 0 : Math.abs(change - came));
                    Front front = new Front(kind, a, b, bends, ys);
                    next.merge(List.of(y, change), front, Oracle::better);
                }
            }
            ends = next;
        }
        return ends.values().stream().reduce(Oracle::better).orElse(null);
    }

    private static Front better(Front one, Front other) {
        if (one.bends != other.bends) return one.bends < other.bends ? one : other;
        for (int k = 0; k < one.ys.size(); k++) {
            if (!one.ys.get(k).equals(other.ys.get(k))) return one.ys.get(k) < other.ys.get(k) ? one : other;
        }
        return one;
    }

    int front(int day, int f, int what) {
        if (!in(day, 0, 1)) return -2;
        if (!in(f, 0, days.get(day).size() - 1)) return -1;
        if (!in(what, 0, 4)) return -2;
        Front front = days.get(day).get(f);
        int[] row = bestRow();
        int joined = NONE;
        for (int p = 0; p < days.get(0).size(); p++) {
            if (day == 0 && p == f && row[p] < 5) joined = row[p];
            if (day == 1 && row[p] == f) joined = p;
        }
        return new int[] {front.kind, front.a, front.b, front.bends, joined}[what];
    }

    int yOf(int day, int f, int x) {
        if (!in(day, 0, 1)) return -2;
        if (!in(f, 0, days.get(day).size() - 1)) return -1;
        Front front = days.get(day).get(f);
        return in(x, front.a, front.b) ? front.yAt(x) : -1;
    }

    /** The COST of a row of partners (5: none), or -1. */
    private int cost(int[] row) {
        int cost = 0;
        int taken = 0;
        for (int p = 0; p < days.get(0).size(); p++) {
            if (row[p] == 5) {
                cost += 15;
                continue;
            }
            if (row[p] >= days.get(1).size() || (taken >> row[p] & 1) == 1) return -1;
            taken |= 1 << row[p];
            Front old = days.get(0).get(p);
            Front young = days.get(1).get(row[p]);
            int common = 0;
            for (int x = 0; x < 12; x++) {
                if (in(x, old.a, old.b) && in(x, young.a, young.b)) {
                    common++;
                    cost += Math.abs(old.yAt(x) - young.yAt(x));
                }
            }
            if (common == 0 || old.kind != young.kind) return -1;
        }
        return cost + 15 * (days.get(1).size() - Integer.bitCount(taken));
    }

    /** All rows are tried, in order. */
    private int[] bestRow() {
        int[] best = null;
        int n = days.get(0).size();
        for (int number = 0; number < Math.pow(6, n); number++) {
            int[] row = new int[n];
            int rest = number;
            for (int p = n - 1; p >= 0; p--) {
                row[p] = rest % 6;
                rest /= 6;
            }
            if (cost(row) >= 0 && (best == null || cost(row) < cost(best))) best = row;
        }
        return best;
    }

    int joining() {
        return cost(bestRow());
    }

    int night() {
        days.set(0, days.get(1));
        days.set(1, new ArrayList<>());
        return days.get(0).size();
    }

    // ---- 5

    int prognosis(int u, int v, int x, int y) {
        if (!in(u, -11, 11) || !in(v, -11, 11)) return -2;
        if (!in(x, 0, 11) || !in(y, 0, 11)) return -1;
        int found = value(x - u, y - v);
        return found == -1 ? NONE : found;
    }

    int keep(int k) {
        if (!in(k, 0, 3)) return -1;
        int[][] now = Arrays.stream(values()).map(int[]::clone).toArray(int[][]::new);
        kept.put(k, now);
        return (int) Arrays.stream(now).flatMapToInt(Arrays::stream).filter(one -> one != NONE).count();
    }

    private long[] compared(int u, int v, int k) {
        long[] sums = new long[3];
        for (int x = 0; x < 12; x++) {
            for (int y = 0; y < 12; y++) {
                int told = prognosis(u, v, x, y);
                int came = kept.get(k)[x][y];
                if (told == NONE || came == NONE) continue;
                sums[0]++;
                sums[1] += Math.abs(told - came);
                sums[2] += told - came;
            }
        }
        return sums;
    }

    long beside(int u, int v, int k, int what) {
        boolean told = in(u, -11, 11) && in(v, -11, 11) && in(what, 0, 2) && kept.containsKey(k);
        return told ? compared(u, v, k)[what] : Long.MIN_VALUE;
    }

    int drift(int k, int n) {
        if (!in(k, 0, 3)) return -1;
        if (!in(n, 0, 4)) return -2;
        if (!kept.containsKey(k)) return -3;
        int best = -3;
        long[] least = null;
        for (int u = -n; u <= n; u++) {
            for (int v = -n; v <= n; v++) {
                long[] sums = compared(u, v, k);
                if (sums[0] > 0 && (least == null || sums[1] * least[0] < least[1] * sums[0])) {
                    least = sums;
                    best = 100 * (u + 11) + (v + 11);
                }
            }
        }
        return best;
    }

    int forecast(int sheet, int lane, int i, int n) {
        fault = 0;
        if (!in(sheet, 0, 3)) return -1;
        if (!in(lane, 0, 2)) return -2;
        int[] row = taken(sheet, lane, i, n);
        if (row == null) return -10 - fault;
        StringBuilder text = new StringBuilder();
        for (int code : row) {
            text.append(in(code, 1, 127) ? (char) code : '?');
        }
        for (int upTo = 1; upTo <= text.length(); upTo++) {
            Matcher matcher = TEXT.matcher(text.substring(0, upTo));
            if (!matcher.matches() && !matcher.hitEnd()) return -100 - (upTo - 1);
        }
        if (!TEXT.matcher(text).matches()) return -100 - text.length();
        if (forecasts.size() == 8) return -4;
        forecasts.add(text.toString());
        return forecasts.size() - 1;
    }

    int verified(int f, int what) {
        if (!in(f, 0, forecasts.size() - 1)) return -1;
        if (!in(what, 0, 2)) return -2;
        String[] clauses = forecasts.get(f).split(",");
        int set = 0;
        for (int c = 0; c < clauses.length; c++) {
            set |= isTrue(clauses[c]) ? 1 << c : 0;
        }
        return new int[] {clauses.length, Integer.bitCount(set), set}[what];
    }

    private boolean isTrue(String clause) {
        int number = Integer.parseInt(clause.substring(2));
        int count = 0;
        int fitting = 0;
        for (int x = 0; x < 12; x++) {
            for (int y = 0; y < 12; y++) {
                boolean inside = switch (clause.charAt(0)) {
                    case 'n' -> y < 4;
                    case 's' -> y > 7;
                    case 'w' -> x < 4;
                    case 'e' -> x > 7;
                    default -> x > 3 && x < 8 && y > 3 && y < 8;
                };
                if (inside && value(x, y) != NONE) {
                    count++;
                    fitting += clause.charAt(1) == '<' ? (value(x, y) < number ? 1 : 0) : value(x, y) > number ? 1 : 0;
                }
            }
        }
        return count > 0 && fitting == count;
    }

    // ---- 6: rows of the machine's own, and its own faults

    /** Cells of a SHEET taken as a row of a LANE; null: fault tells why not. */
    private int[] taken(int k, int lane, int i, long n) {
        try {
            if (sheets[k] != null) laneOf(lane).cast(sheets[k]);
            int length = java.lang.reflect.Array.getLength(sheets[k]);
            if (n < 0) throw new NegativeArraySizeException();
            if (i < 0 || i > length || n > length - i) throw new ArrayIndexOutOfBoundsException();
            int[] row = new int[(int) n];
            for (int c = 0; c < n; c++) {
                row[c] = java.lang.reflect.Array.getInt(sheets[k], i + c);
            }
            return row;
        } catch (NullPointerException | ClassCastException | IndexOutOfBoundsException | NegativeArraySizeException thrown) {
            fault = numberOf(thrown);
            return null;
        }
    }

    private static Class<?> laneOf(int lane) {
        return lane == 0 ? byte[].class : lane == 1 ? short[].class : int[].class;
    }

    private static int numberOf(RuntimeException thrown) {
        if (thrown instanceof NullPointerException) return 1;
        if (thrown instanceof ClassCastException || thrown instanceof ArrayStoreException) return 2;
        return thrown instanceof IndexOutOfBoundsException ? 3 : 4;
    }

    int sheet(int k, int lane, int n) {
        fault = 0;
        if (!in(k, 0, 3)) return -1;
        if (!in(lane, 0, 2) || n > 60) return -2;
        try {
            sheets[k] = lane == 0 ? new byte[n] : lane == 1 ? new short[n] : new int[n];
        } catch (NegativeArraySizeException thrown) {
            fault = 4;
            return -14;
        }
        return 1;
    }

    int lose(int k) {
        if (!in(k, 0, 3)) return -1;
        int had = sheets[k] == null ? 0 : 1;
        sheets[k] = null;
        return had;
    }

    int put(int k, int i, int v) {
        fault = 0;
        if (!in(k, 0, 3)) return -1;
        try {
            if (sheets[k] instanceof byte[] bytes) bytes[i] = (byte) v;
            else if (sheets[k] instanceof short[] shorts) shorts[i] = (short) v;
            else ((int[]) sheets[k])[i] = v;
        } catch (NullPointerException | IndexOutOfBoundsException thrown) {
            fault = numberOf(thrown);
            return -10 - fault;
        }
        return 1;
    }

    long cell(int k, int i, int lane) {
        fault = 0;
        if (!in(k, 0, 3) || !in(lane, 0, 2)) return Long.MIN_VALUE;
        int[] row = taken(k, lane, i, 1);
        return row == null ? Long.MIN_VALUE : row[0];
    }

    int copy(int k, int i, int other, int j, int n) {
        fault = 0;
        if (!in(k, 0, 3) || !in(other, 0, 3)) return -1;
        try {
            System.arraycopy(sheets[k], i, sheets[other], j, n);
        } catch (NullPointerException | ArrayStoreException | IndexOutOfBoundsException thrown) {
            fault = numberOf(thrown);
            return -10 - fault;
        }
        return n;
    }

    int tell(int p) {
        return noPost(p) ? -1 : posts.get(p).tell();
    }

    int hail(int p) {
        return noPost(p) ? -1 : posts.get(p).hail();
    }

    int as(int p, int kind) {
        fault = 0;
        if (noPost(p)) return -1;
        if (!in(kind, 0, 2)) return -2;
        boolean isOne = kind == 0 || kind == 1 && posts.get(p) instanceof Ship || posts.get(p) instanceof Buoy;
        fault = isOne ? 0 : 2;
        return isOne ? 1 : -12;
    }

    int trace() {
        return trace;
    }

    int fault() {
        return fault;
    }

    int many(int what) {
        if (!in(what, 0, 8)) return -2;
        return new int[] {posts.size(), wires.size(), postsInView().size(), days.get(0).size(), days.get(1).size(),
            forecasts.size(), hour, known, kept.size()}[what];
    }
}
