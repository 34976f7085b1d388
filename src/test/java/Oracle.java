import java.math.BigInteger;
import java.util.ArrayList;
import java.util.HashMap;
import java.util.List;
import java.util.Map;
import java.util.Random;

/** The document's rules once more, in their slowest and plainest form, to hold the class against by chance. */
final class Oracle {
    static final int NONE = -1, UNKNOWN = -1000000001, OUTSIDE = -1000000002, NOT = -1000000003, FULL = -1000000004;

    int w, h;
    int[][] base, soft, load;
    final List<int[]> moons = new ArrayList<>(); // u, v, a...
    final List<int[]> houses = new ArrayList<>(); // x, y, k
    final List<int[]> cracks = new ArrayList<>(); // x, y, d, c
    final List<int[]> wells = new ArrayList<>(); // x, y, d
    final List<int[]> deeds = new ArrayList<>(); // a, b
    int step, cx, cy, pushed, steep = 20;
    BigInteger seed = BigInteger.ZERO;
    int[] shift, prop;
    final List<int[]> seen = new ArrayList<>();
    final List<Integer> book = new ArrayList<>();
    final Object[] images = new Object[2];
    String text;

    Oracle(Random r) {
        StringBuilder s = new StringBuilder();
        w = 1 + r.nextInt(6);
        h = 1 + r.nextInt(Math.min(6, 24 / w));
        int b = r.nextInt(100), so = r.nextInt(10);
        base = new int[w][h];
        soft = new int[w][h];
        load = new int[w][h];
        s.append("g").append(w).append(" ").append(h).append(" ").append(b).append(" ").append(so).append(";");
        for (int x = 0; x < w; x++) {
            for (int y = 0; y < h; y++) {
                base[x][y] = b;
                soft[x][y] = so;
            }
        }
        int m = r.nextInt(4);
        boolean small = r.nextBoolean();
        for (int i = 0; i < m; i++) {
            int n = 2 + r.nextInt(r.nextInt(3) == 0 ? 8 : 3);
            int[] row = new int[2 + n];
            row[0] = r.nextInt(9);
            row[1] = r.nextInt(9);
            s.append("m").append(row[0]).append(" ").append(row[1]).append(" ");
            for (int k = 0; k < n; k++) {
                int a = small ? 8 + r.nextInt(3) : r.nextInt(19);
                row[2 + k] = a - 9;
                s.append(k == 0 ? "" : ",").append(a);
            }
            s.append(";");
            moons.add(row);
        }
        boolean[][][] used = new boolean[5][w][h];
        for (int tries = r.nextInt(30); tries > 0; tries--) {
            int x = r.nextInt(w), y = r.nextInt(h), kind = r.nextInt(5);
            String clause = clause(r, x, y, kind, used);
            if (s.length() + clause.length() <= 250) {
                s.append(clause);
                take(clause, used);
            }
        }
        text = s.toString();
        shift = new int[moons.size()];
        prop = new int[houses.size()];
    }

    private int changed = 0;

    private String clause(Random r, int x, int y, int kind, boolean[][][] used) {
        String at = x + " " + y + " ";
        if (kind == 0 && !used[0][x][y] && changed < 12) {
            return "c" + at + r.nextInt(100) + " " + r.nextInt(10) + ";";
        }
        if (kind == 1 && !used[1][x][y] && houses.size() < 6) {
            return "h" + at + r.nextInt(r.nextBoolean() ? 100 : 20) + ";";
        }
        int d = r.nextInt(2);
        if (kind == 2 && !used[2 + d][x][y] && cracks.size() < 6 && (d == 0 ? x + 1 < w : y + 1 < h)) {
            return "k" + at + d + " " + (25 + r.nextInt(12)) + ";";
        }
        if (kind == 3 && !used[4][x][y] && wells.size() < 5) {
            return "w" + at + r.nextInt(100) + ";";
        }
        int a = r.nextInt(301);
        return kind == 4 && deeds.size() < 4 ? "d" + a + " " + (a + r.nextInt(301 - a)) + ";" : "";
    }

    private void take(String clause, boolean[][][] used) {
        if (clause.isEmpty()) {
            return;
        }
        String[] parts = clause.substring(1, clause.length() - 1).split(" ");
        int[] v = new int[parts.length];
        for (int i = 0; i < v.length; i++) {
            v[i] = Integer.parseInt(parts[i]);
        }
        switch (clause.charAt(0)) {
            case 'c' -> {
                base[v[0]][v[1]] = v[2];
                soft[v[0]][v[1]] = v[3];
                used[0][v[0]][v[1]] = true;
                changed++;
            }
            case 'h' -> {
                houses.add(v);
                used[1][v[0]][v[1]] = true;
            }
            case 'k' -> {
                cracks.add(v);
                used[2 + v[2]][v[0]][v[1]] = true;
            }
            case 'w' -> {
                wells.add(v);
                used[4][v[0]][v[1]] = true;
            }
            default -> deeds.add(new int[] {v[0] - 100, v[1] - 100});
        }
    }

    // ---- the rules

    boolean isCell(int x, int y) {
        return x >= 0 && y >= 0 && x < w && y < h;
    }

    int part(int i, int x, int y, int t, int sh) {
        int[] m = moons.get(i);
        return m[2 + (t + sh + m[0] * x + m[1] * y) % (m.length - 2)];
    }

    int pull(int x, int y, int t, int[] shifts, int gone) {
        int sum = 0;
        for (int i = 0; i < moons.size(); i++) {
            sum += i == gone ? 0 : part(i, x, y, t, shifts[i]);
        }
        return sum;
    }

    int stiff(int x, int y) {
        int s = soft[x][y] - load[x][y] / 10;
        return s < 0 ? 0 : s;
    }

    int high(int x, int y, int t, int[] shifts, int gone) {
        return base[x][y] + stiff(x, y) * pull(x, y, t, shifts, gone);
    }

    int high(int x, int y, int t) {
        return high(x, y, t, shift, NONE);
    }

    static final int[][] WAY = {{0, 0}, {0, -1}, {1, 0}, {0, 1}, {-1, 0}};

    int lean(int x, int y, int t, int gone) {
        int worst = 0;
        for (int k = 1; k < 5; k++) {
            int a = x + WAY[k][0], b = y + WAY[k][1];
            if (isCell(a, b)) {
                worst = Math.max(worst, Math.abs(high(a, b, t, shift, gone) - high(x, y, t, shift, gone)));
            }
        }
        return worst;
    }

    int period() {
        for (int p = 1;; p++) {
            boolean all = true;
            for (int[] m : moons) {
                all &= p % (m.length - 2) == 0;
            }
            if (all) {
                return p;
            }
        }
    }

    boolean breaksAt(int i, int t) {
        int[] k = houses.get(i);
        return lean(k[0], k[1], t, NONE) > k[2] + prop[i];
    }

    int need(int i) {
        int[] k = houses.get(i);
        for (int p = 0;; p++) {
            boolean stands = true;
            for (int t = 0; t < period() && stands; t++) {
                stands = lean(k[0], k[1], t, NONE) <= k[2] + p;
            }
            if (stands) {
                return p;
            }
        }
    }

    boolean open(int k, int t) {
        int[] c = cracks.get(k);
        return pull(c[0], c[1], t, shift, NONE) > c[3] - 30;
    }

    /** What is pushed, or NONE. */
    int push(int x, int y, int way, int t) {
        if (way == 0) {
            return 0;
        }
        int a = x + WAY[way][0], b = y + WAY[way][1];
        if (!isCell(a, b)) {
            return NONE;
        }
        for (int k = 0; k < cracks.size(); k++) {
            int[] c = cracks.get(k);
            int ex = c[0] + (c[2] == 0 ? 1 : 0), ey = c[1] + (c[2] == 1 ? 1 : 0);
            boolean there = c[0] == x && c[1] == y && ex == a && ey == b;
            boolean back = c[0] == a && c[1] == b && ex == x && ey == y;
            if ((there || back) && open(k, t + 1)) {
                return NONE;
            }
        }
        int slope = high(a, b, t + 1) - high(x, y, t + 1);
        return slope > steep ? NONE : slope > 0 ? slope : 0;
    }

    int draw(int n) {
        seed = seed.multiply(BigInteger.valueOf(1103515245)).add(BigInteger.valueOf(12345)).mod(BigInteger.TWO.pow(31));
        return seed.divide(BigInteger.valueOf(65536)).mod(BigInteger.valueOf(n)).intValue();
    }

    static boolean off(int v, int a, int b) {
        return v < a || v > b;
    }

    boolean noStep(int t) {
        return off(t, 0, 900000);
    }

    // ---- the calls, as the document names them

    int told(int what) {
        int[] all = {w, h, moons.size(), houses.size(), cracks.size(), wells.size(), deeds.size(), 0, step, period(),
            10 * cx + cy, pushed, steep, seen.size(), book.size()};
        return off(what, 0, 14) ? OUTSIDE : all[what];
    }

    int cell(int x, int y, int what) {
        if (!isCell(x, y)) {
            return UNKNOWN;
        }
        int[] all = {base[x][y], soft[x][y], load[x][y], stiff(x, y), pull(x, y, step, shift, NONE), high(x, y, step),
            lean(x, y, step, NONE)};
        return off(what, 0, 6) ? OUTSIDE : all[what];
    }

    int height(int x, int y, int t) {
        return !isCell(x, y) ? UNKNOWN : off(t, 0, 999999) ? OUTSIDE : high(x, y, t);
    }

    int moon(int i, int what) {
        if (off(i, 0, moons.size() - 1)) {
            return UNKNOWN;
        }
        int[] m = moons.get(i);
        int[] all = {m.length - 2, m[0], m[1], shift[i], part(i, 0, 0, step, shift[i])};
        return off(what, 0, 4) ? OUTSIDE : all[what];
    }

    int house(int i, int what) {
        if (off(i, 0, houses.size() - 1)) {
            return UNKNOWN;
        }
        int[] k = houses.get(i);
        int[] all = {10 * k[0] + k[1], k[2], prop[i], breaksAt(i, step) ? 1 : 0, need(i)};
        return off(what, 0, 4) ? OUTSIDE : all[what];
    }

    int crack(int k, int t) {
        return off(k, 0, cracks.size() - 1) ? UNKNOWN : off(t, 0, 999999) ? OUTSIDE : open(k, t) ? 1 : 0;
    }

    int pass(int n) {
        if (off(n, 1, 9999)) {
            return OUTSIDE;
        }
        return step + n > 900000 ? FULL : (step += n);
    }

    int roll(int way) {
        if (off(way, 0, 4)) {
            return OUTSIDE;
        }
        int p = push(cx, cy, way, step);
        if (p == NONE) {
            return NOT;
        }
        if (step == 900000) {
            return FULL;
        }
        go(way, p);
        return p;
    }

    private void go(int way, int p) {
        cx += WAY[way][0];
        cy += WAY[way][1];
        step++;
        pushed = Math.min(999999999, pushed + p);
    }

    int steep(int v) {
        int was = steep;
        if (off(v, 0, 99)) {
            return OUTSIDE;
        }
        steep = v;
        return was;
    }

    int load(int x, int y, int v) {
        if (!isCell(x, y)) {
            return UNKNOWN;
        }
        int was = load[x][y];
        if (off(v, 0, 90)) {
            return OUTSIDE;
        }
        load[x][y] = v;
        return was;
    }

    int prop(int i, int v) {
        if (off(i, 0, houses.size() - 1)) {
            return UNKNOWN;
        }
        int was = prop[i];
        if (off(v, 0, 999)) {
            return OUTSIDE;
        }
        prop[i] = v;
        return was;
    }

    int shift(int i, int v) {
        if (off(i, 0, moons.size() - 1)) {
            return UNKNOWN;
        }
        int was = shift[i];
        if (off(v, 0, 999)) {
            return OUTSIDE;
        }
        shift[i] = v % (moons.get(i).length - 2);
        return was;
    }

    int drift(int n) {
        if (off(n, 1, 99)) {
            return OUTSIDE;
        }
        if (step > 899000) {
            return FULL;
        }
        for (int i = 0; i < n; i++) {
            int way = draw(5);
            int p = push(cx, cy, way, step);
            go(p == NONE ? 0 : way, p == NONE ? 0 : p);
            if (draw(12) == 0) {
                int c = draw(w * h);
                int more = draw(30);
                load[c % w][c / w] = Math.min(90, load[c % w][c / w] + more);
            }
        }
        return 10 * cx + cy;
    }

    int level(int set, int e, int t) {
        if (set < 0 || set >= 1 << w * h) {
            return UNKNOWN;
        }
        if (set == 0 || off(e, 0, 99) || noStep(t)) {
            return OUTSIDE;
        }
        for (int i = 0; i < period(); i++) {
            boolean level = true;
            for (int a = 0; a < w * h; a++) {
                for (int b = 0; b < w * h; b++) {
                    if ((set & 1 << a) != 0 && (set & 1 << b) != 0) {
                        level &= high(a % w, a / w, t + i) - high(b % w, b / w, t + i) <= e;
                    }
                }
            }
            if (level) {
                return i;
            }
        }
        return NONE;
    }

    int aslant(int t) {
        if (noStep(t)) {
            return OUTSIDE;
        }
        for (int i = 0; i < period() && w * h > 1; i++) {
            boolean like = false;
            for (int c = 0; c < w * h; c++) {
                for (int k = 1; k < 5; k++) {
                    int x = c % w + WAY[k][0], y = c / w + WAY[k][1];
                    like |= isCell(x, y) && high(x, y, t + i) == high(c % w, c / w, t + i);
                }
            }
            if (!like) {
                return i;
            }
        }
        return NONE;
    }

    int turn(int x, int y, int t) {
        if (!isCell(x, y)) {
            return UNKNOWN;
        }
        if (off(t, 1, 900000)) {
            return OUTSIDE;
        }
        for (int i = 0; i < period(); i++) {
            int a = high(x, y, t + i - 1) - high(x, y, t + i), b = high(x, y, t + i + 1) - high(x, y, t + i);
            if (a != 0 && b != 0 && a < 0 == b < 0) {
                return i;
            }
        }
        return NONE;
    }

    int most(int x, int y, int t, int what) {
        if (!isCell(x, y)) {
            return UNKNOWN;
        }
        if (noStep(t) || off(what, 0, 1)) {
            return OUTSIDE;
        }
        for (int p = 27;; p--) {
            for (int i = 0; i < period(); i++) {
                if (pull(x, y, t + i, shift, NONE) == p) {
                    return what == 0 ? t + i : p;
                }
            }
        }
    }

    int bell(int x, int y, int limit, int t, int what) {
        if (!isCell(x, y)) {
            return UNKNOWN;
        }
        if (off(limit, 0, 999) || noStep(t) || off(what, 0, 1)) {
            return OUTSIDE;
        }
        int first = NONE, many = 0;
        for (int i = period() - 1; i >= 0; i--) {
            if (lean(x, y, t + i, NONE) > limit) {
                first = i;
                many++;
            }
        }
        return what == 0 ? first : many;
    }

    int breaks(int t, int what) {
        if (noStep(t) || off(what, 0, 1)) {
            return OUTSIDE;
        }
        for (int i = 0; i < period(); i++) {
            for (int k = 0; k < houses.size(); k++) {
                if (breaksAt(k, t + i)) {
                    return what == 0 ? t + i : k;
                }
            }
        }
        return NONE;
    }

    int props(int size) {
        if (off(size, 1, 20)) {
            return OUTSIDE;
        }
        int many = 0;
        for (int i = 0; i < houses.size(); i++) {
            for (int has = 0; has < need(i); has += size) {
                many++;
            }
        }
        return many;
    }

    boolean isPair(int p) {
        return p >= 0 && isCell(p / 10, p % 10);
    }

    int soonest(int from, int to, int t) {
        if (!isPair(from) || !isPair(to)) {
            return UNKNOWN;
        }
        if (noStep(t)) {
            return OUTSIDE;
        }
        boolean[][] at = new boolean[w][h];
        at[from / 10][from % 10] = true;
        for (int n = 0; n <= 60; n++) {
            if (at[to / 10][to % 10]) {
                return n;
            }
            boolean[][] next = new boolean[w][h];
            for (int c = 0; c < w * h; c++) {
                for (int k = 0; k < 5; k++) {
                    int x = c % w, y = c / w;
                    if (at[x][y] && push(x, y, k, t + n) != NONE) {
                        next[x + WAY[k][0]][y + WAY[k][1]] = true;
                    }
                }
            }
            at = next;
        }
        return NONE;
    }

    /** For each cell the best that leads to it, built forwards: what was pushed and the steps so far. */
    int least(int from, int to, int t, int n, int i) {
        if (!isPair(from) || !isPair(to)) {
            return UNKNOWN;
        }
        if (noStep(t) || off(n, 1, 40)) {
            return OUTSIDE;
        }
        Map<Integer, String> paths = new HashMap<>();
        Map<Integer, Integer> costs = new HashMap<>();
        paths.put(from, "");
        costs.put(from, 0);
        String best = from == to ? "" : null;
        int bestCost = 0;
        for (int s = 0; s < n && from != to; s++) {
            Map<Integer, String> nextPaths = new HashMap<>();
            Map<Integer, Integer> nextCosts = new HashMap<>();
            for (int p : paths.keySet()) {
                for (int k = 0; k < 5; k++) {
                    int push = push(p / 10, p % 10, k, t + s);
                    if (push == NONE) {
                        continue;
                    }
                    int q = p + 10 * WAY[k][0] + WAY[k][1];
                    int cost = costs.get(p) + push;
                    String path = paths.get(p) + k;
                    if (q == to) {
                        if (best == null || cost < bestCost || cost == bestCost && path.compareTo(best) < 0) {
                            best = path;
                            bestCost = cost;
                        }
                    } else if (!nextCosts.containsKey(q) || cost < nextCosts.get(q)
                        || cost == nextCosts.get(q) && path.compareTo(nextPaths.get(q)) < 0) {
                        nextCosts.put(q, cost);
                        nextPaths.put(q, path);
                    }
                }
            }
            paths = nextPaths;
            costs = nextCosts;
        }
        if (best == null) {
            return NONE;
        }
        return i == NONE ? bestCost : i < 0 || i >= best.length() ? NONE : best.charAt(i) - '0';
    }

    int water(int v, int t, int what) {
        if (off(v, 0, 9999) || noStep(t) || off(what, 0, 2)) {
            return OUTSIDE;
        }
        if (wells.isEmpty()) {
            return NOT;
        }
        int[] floor = new int[wells.size()];
        int lowest = Integer.MAX_VALUE;
        for (int i = 0; i < floor.length; i++) {
            int[] k = wells.get(i);
            floor[i] = high(k[0], k[1], t) - k[2];
            lowest = Math.min(lowest, floor[i]);
        }
        // In sixtieths every level of one to five wells is whole.
        int level = 60 * lowest;
        while (true) {
            int holds = 0, wet = 0;
            for (int i = 0; i < floor.length; i++) {
                if (60 * floor[i] < level) {
                    holds += level - 60 * floor[i];
                    wet |= 1 << i;
                }
            }
            if (holds == 60 * v) {
                int below = 1;
                while (level * below % 60 != 0) {
                    below++;
                }
                return what == 0 ? level * below / 60 : what == 1 ? below : wet;
            }
            level++;
        }
    }

    int within(int d, int t) {
        int set = 0;
        for (int c = 0; c < w * h; c++) {
            int v = high(c % w, c / w, t);
            set |= deeds.get(d)[0] <= v && v <= deeds.get(d)[1] ? 1 << c : 0;
        }
        return set;
    }

    int whose(int d, int t) {
        return off(d, 0, deeds.size() - 1) ? UNKNOWN : noStep(t) ? OUTSIDE : within(d, t);
    }

    int stays(int d) {
        if (off(d, 0, deeds.size() - 1)) {
            return UNKNOWN;
        }
        int set = -1;
        for (int t = 0; t < period(); t++) {
            set &= within(d, t);
        }
        return set;
    }

    int see(int x, int y, int t, int height) {
        if (!isCell(x, y)) {
            return UNKNOWN;
        }
        if (off(t, 0, 999) || off(height, -999, 999)) {
            return OUTSIDE;
        }
        if (seen.size() == 12) {
            return FULL;
        }
        seen.add(new int[] {x, y, t, height});
        return seen.size();
    }

    List<int[]> allFits() {
        List<int[]> all = new ArrayList<>();
        int many = 1;
        for (int[] m : moons) {
            many *= m.length - 2;
        }
        for (int k = 0; k < many; k++) {
            int[] s = new int[moons.size()];
            int rest = k;
            for (int i = s.length - 1; i >= 0; i--) {
                s[i] = rest % (moons.get(i).length - 2);
                rest /= moons.get(i).length - 2;
            }
            boolean fit = true;
            for (int[] o : seen) {
                fit &= high(o[0], o[1], o[2], s, NONE) == o[3];
            }
            if (fit) {
                all.add(s);
            }
        }
        return all;
    }

    int fits(int i, int k) {
        if (i == NONE) {
            return allFits().size();
        }
        if (off(k, 0, moons.size() - 1)) {
            return UNKNOWN;
        }
        List<int[]> all = allFits();
        return off(i, 0, all.size() - 1) ? NONE : all.get(i)[k];
    }

    int look(int what) {
        if (off(what, 0, 2)) {
            return OUTSIDE;
        }
        List<int[]> all = allFits();
        int best = all.size(), pair = NONE, at = NONE;
        for (int t = 0; t < 12; t++) {
            for (int c = 0; c < w * h; c++) {
                Map<Integer, Integer> many = new HashMap<>();
                int worst = 0;
                for (int[] s : all) {
                    worst = Math.max(worst, many.merge(high(c % w, c / w, t, s, NONE), 1, Integer::sum));
                }
                if (worst < best) {
                    best = worst;
                    pair = c % w * 10 + c / w;
                    at = t;
                }
            }
        }
        return pair == NONE ? NONE : what == 0 ? pair : what == 1 ? at : best;
    }

    int odds(int k, int q, int x, int y, int limit, int t) {
        if (off(k, 0, moons.size() - 1) || !isCell(x, y)) {
            return UNKNOWN;
        }
        if (off(q, 0, 100) || off(limit, 0, 999) || noStep(t)) {
            return OUTSIDE;
        }
        long with = 1000000000L * q / 100;
        return (int) ((lean(x, y, t, NONE) > limit ? with : 0) + (lean(x, y, t, k) > limit ? 1000000000L - with : 0));
    }

    int write(int way) {
        if (off(way, 0, 4)) {
            return OUTSIDE;
        }
        if (book.size() == 30) {
            return FULL;
        }
        book.add(way);
        return book.size();
    }

    int tear() {
        int had = book.size() + seen.size();
        book.clear();
        seen.clear();
        return had;
    }

    int judge(int what) {
        if (off(what, 0, 1)) {
            return OUTSIDE;
        }
        int x = cx, y = cy, sum = 0;
        for (int i = 0; i < book.size(); i++) {
            int p = push(x, y, book.get(i), step + i);
            if (p == NONE) {
                return what == 0 ? i : sum;
            }
            sum += p;
            x += WAY[book.get(i)][0];
            y += WAY[book.get(i)][1];
        }
        return what == 0 ? NONE : sum;
    }

    int seed(int v) {
        int was = seed.intValue();
        if (v < 0) {
            return OUTSIDE;
        }
        seed = BigInteger.valueOf(v);
        return was;
    }

    int keep(int i) {
        if (off(i, 0, 1)) {
            return UNKNOWN;
        }
        int[][] loads = new int[w][];
        for (int x = 0; x < w; x++) {
            loads[x] = load[x].clone();
        }
        images[i] = new Object[] {new int[] {step, cx, cy, pushed, steep, seed.intValue()}, shift.clone(), prop.clone(), loads};
        return 1;
    }

    int goBack(int i) {
        if (off(i, 0, 1)) {
            return UNKNOWN;
        }
        if (images[i] == null) {
            return NOT;
        }
        Object[] image = (Object[]) images[i];
        int[] v = (int[]) image[0];
        step = v[0];
        cx = v[1];
        cy = v[2];
        pushed = v[3];
        steep = v[4];
        seed = BigInteger.valueOf(v[5]);
        shift = ((int[]) image[1]).clone();
        prop = ((int[]) image[2]).clone();
        for (int x = 0; x < w; x++) {
            load[x] = ((int[][]) image[3])[x].clone();
        }
        return 1;
    }
}
