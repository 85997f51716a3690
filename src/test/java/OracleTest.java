import java.math.BigInteger;
import java.util.ArrayList;
import java.util.List;
import java.util.Random;

/** Random runs against plain counterparts that follow the document's words without any short cut. */
public final class OracleTest {
    public static void main(String[] args) {
        for (int seed = 0; seed < 300; seed++) {
            ways(new Random(seed));
            axes(new Random(seed));
            shares(new Random(seed));
            locks(new Random(seed));
            seats(new Random(seed));
        }
        Check.end();
    }

    // ---- ways: a new flow for each time, by single people

    private static void ways(Random random) {
        StageHouse x = new StageHouse();
        for (int turn = 0; turn < 2; turn++) {
            int nodes = 2 + random.nextInt(random.nextInt(5) == 0 ? 10 : 5);
            int[][] ways = anyWays(x, random, nodes);
            for (int again = 0; again < 2; again++) {
                compareTimes(x, random, nodes, ways);
            }
            x.clearWays();
        }
    }

    private static int[][] anyWays(StageHouse x, Random random, int nodes) {
        int count = random.nextInt(2) == 0 ? 1 + random.nextInt(6) : 8 + random.nextInt(13);
        int[][] ways = new int[count][];
        int widest = random.nextInt(3) == 0 ? 50 : 4;
        int longest = random.nextInt(4) == 0 ? 20 : 5;
        for (int w = 0; w < count; w++) {
            int from = random.nextInt(nodes);
            int to = random.nextInt(nodes + 2);
            to = to >= nodes || to == from ? 11 : to;
            ways[w] = new int[] {from, to, 1 + random.nextInt(widest), 1 + random.nextInt(longest)};
            Check.due("way", x.way(from, to, ways[w][2], ways[w][3]), w);
        }
        return ways;
    }

    private static void compareTimes(StageHouse x, Random random, int nodes, int[][] ways) {
        int[] crowds = new int[12];
        int people = 0;
        for (int v = 0; v < Math.min(11, nodes); v++) {
            crowds[v] = random.nextInt(3) == 0 ? 0 : random.nextInt(random.nextInt(3) == 0 ? 61 : 12);
            people += crowds[v];
            x.crowd(v, crowds[v]);
        }
        int want = -1;
        for (int end = 0; end <= 50 && want < 0; end++) {
            if (sent(ways, crowds, end) == people) {
                want = end;
            }
        }
        Check.due("least time", x.empty(), want);
    }

    private static int sent(int[][] ways, int[] crowds, int end) {
        int spots = 12 * (end + 1);
        int[][] room = new int[spots + 2][spots + 2];
        for (int v = 0; v < 11; v++) {
            room[spots][v * (end + 1)] = crowds[v];
            for (int t = 0; t < end; t++) {
                room[v * (end + 1) + t][v * (end + 1) + t + 1] = 1000;
            }
        }
        for (int t = 0; t <= end; t++) {
            room[11 * (end + 1) + t][spots + 1] = 1000;
            for (int[] way : ways) {
                if (t + way[3] <= end) {
                    room[way[0] * (end + 1) + t][way[1] * (end + 1) + t + way[3]] += way[2];
                }
            }
        }
        int sum = 0;
        while (augment(room, spots, spots + 1)) {
            sum++;
        }
        return sum;
    }

    private static boolean augment(int[][] room, int from, int to) {
        int[] before = new int[room.length];
        java.util.Arrays.fill(before, -1);
        before[from] = from;
        int[] queue = new int[room.length];
        int tail = 1;
        queue[0] = from;
        for (int head = 0; head < tail && before[to] < 0; head++) {
            for (int next = 0; next < room.length; next++) {
                if (before[next] < 0 && room[queue[head]][next] > 0) {
                    before[next] = queue[head];
                    queue[tail++] = next;
                }
            }
        }
        if (before[to] < 0) {
            return false;
        }
        for (int at = to; at != from; at = before[at]) {
            room[before[at]][at]--;
            room[at][before[at]]++;
        }
        return true;
    }

    // ---- axes

    private static int brake(int w, int acc) {
        int sum = 0;
        for (int v = w - acc; v > 0; v -= acc) {
            sum += v;
        }
        return sum;
    }

    private static void axes(Random random) {
        StageHouse x = new StageHouse();
        int low = random.nextInt(100);
        int high = low + 1 + random.nextInt(random.nextInt(2) == 0 ? 50 : 3000);
        int speed = 1 + random.nextInt(random.nextInt(2) == 0 ? 20 : 999);
        int acc = 1 + random.nextInt(random.nextInt(2) == 0 ? 9 : 999);
        x.axis(4, low, high, speed, acc);
        int place = low;
        int pace = 0;
        int target = -1;
        int seen = low;
        int faults = 0;
        for (int turn = 0; turn < 85; turn++) {
            if (random.nextInt(8) == 0) {
                target = low + random.nextInt(high - low + 1);
                boolean may = (faults & 1) == 0;
                Check.due("to", x.to(4, target) ? 1 : 0, may ? 1 : 0);
                target = may ? target : -1;
            }
            if (random.nextInt(15) == 0) {
                faults = random.nextInt(8);
                x.faults(4, faults);
                target = (faults & 1) != 0 ? -1 : target;
            }
            x.tick(1);
            if (target < 0) {
                pace = Integer.signum(pace) * Math.max(0, Math.abs(pace) - acc);
            } else {
                int sign = target >= place ? 1 : -1;
                int d = Math.abs(target - place);
                int w = pace * sign;
                int top = (faults & 4) != 0 ? Math.max(1, speed / 2) : speed;
                if (w < 0) {
                    w = Math.min(0, w + acc);
                } else {
                    int best = -1;
                    for (int s = Math.max(0, w - acc); s <= Math.min(top, w + acc); s++) {
                        best = s + brake(s, acc) <= d ? s : best;
                    }
                    w = best >= 0 ? best : Math.max(0, w - acc);
                }
                pace = w * sign;
            }
            place += pace;
            if (place == target && pace == 0) {
                target = -1;
            }
            seen = (faults & 2) != 0 ? seen : place;
            Check.due("place", x.axisAt(4, 1), place);
            Check.due("speed", x.axisAt(4, 2), pace);
            Check.due("target", x.axisAt(4, 3), target);
            Check.due("seen", x.axisAt(4, 4), seen);
        }
    }

    // ---- shares: elimination over fractions

    private static void shares(Random random) {
        StageHouse x = new StageHouse();
        x.section(0, random.nextInt(100000));
        x.row(0, 0, 10);
        x.ask(0, 0, 10, 0, 0, 1);
        x.pay(0, x.hold(0, 3));
        int taken = x.told(0);
        BigInteger[][] rows = new BigInteger[3][4];
        for (int p = 0; p < 3; p++) {
            for (int q = 0; q < 4; q++) {
                rows[p][q] = BigInteger.valueOf(p == q ? 100 : 0);
            }
        }
        StringBuilder text = new StringBuilder();
        int named = 0;
        int steep = random.nextInt(3) == 0 ? 101 : 40;
        for (int p = 2; p >= 0; p--) {
            if (random.nextInt(5) == 0) {
                continue;
            }
            named++;
            text.append(p).append(':');
            int terms = 1 + random.nextInt(4);
            for (int t = 0; t < terms; t++) {
                text.append(t > 0 ? " + " : " ");
                int n = random.nextInt(steep);
                int kind = random.nextInt(4);
                if (kind == 0) {
                    n = random.nextInt(100000);
                    text.append(n);
                    rows[p][3] = rows[p][3].add(BigInteger.valueOf(100L * n));
                } else if (kind == 1) {
                    text.append(n).append(" % of taken");
                    rows[p][3] = rows[p][3].add(BigInteger.valueOf((long) n * taken));
                } else {
                    int q = random.nextInt(3);
                    text.append(n).append("%of ").append(q);
                    rows[p][q] = rows[p][q].subtract(BigInteger.valueOf(n));
                }
            }
            text.append(";\n");
        }
        Check.due(text.toString(), Check.shares(x, text.toString()), named);
        boolean answer = eliminate(rows);
        for (int p = 0; p < 3; p++) {
            Check.due(text + " answer", x.share(p, 3), answer ? 1 : 0);
            BigInteger top = answer ? rows[p][3].multiply(BigInteger.valueOf(rows[p][p].signum())) : BigInteger.ZERO;
            BigInteger under = answer ? rows[p][p].abs() : BigInteger.ONE;
            BigInteger rest = top.mod(under);
            BigInteger whole = top.subtract(rest).divide(under);
            BigInteger common = rest.gcd(under);
            Check.due(text + " whole", x.share(p, 0), whole.longValueExact());
            Check.due(text + " rest", x.share(p, 1), rest.divide(common).longValueExact());
            Check.due(text + " under", x.share(p, 2), answer ? under.divide(common).longValueExact() : 0);
        }
    }

    private static boolean eliminate(BigInteger[][] rows) {
        for (int c = 0; c < 3; c++) {
            int pivot = c;
            while (pivot < 3 && rows[pivot][c].signum() == 0) {
                pivot++;
            }
            if (pivot == 3) {
                return false;
            }
            BigInteger[] swap = rows[c];
            rows[c] = rows[pivot];
            rows[pivot] = swap;
            for (int r = 0; r < 3; r++) {
                BigInteger by = rows[r][c];
                for (int k = 0; k < 4 && r != c; k++) {
                    rows[r][k] = rows[r][k].multiply(rows[c][c]).subtract(rows[c][k].multiply(by));
                }
            }
        }
        return true;
    }

    // ---- locks: the value is worked out while the text is made

    private static int tokens;

    private static void locks(Random random) {
        StageHouse x = new StageHouse();
        boolean[] events = new boolean[16];
        for (int e = 0; e < 16; e++) {
            events[e] = random.nextBoolean();
            x.event(e, events[e]);
        }
        x.axis(2, 40, 100, 3, 3);
        for (int i = 0; i < 5; i++) {
            StringBuilder text = new StringBuilder();
            tokens = 0;
            boolean value = or(random, text, events, 0);
            if (tokens > 60) {
                Check.due("too long " + text, Check.lock(x, 0, text.toString()) <= -10 ? 2 : 0, 2);
                Check.due("range", x.fault(), 2);
            } else {
                Check.due(text.toString(), Check.lock(x, 0, text.toString()), 0);
                Check.due(text.toString(), x.axisAt(0, 6), value ? 1 : 0);
            }
        }
    }

    private static boolean or(Random random, StringBuilder text, boolean[] events, int depth) {
        boolean value = and(random, text, events, depth);
        while (random.nextInt(3) == 0) {
            text.append(" | ");
            tokens++;
            value |= and(random, text, events, depth);
        }
        return value;
    }

    private static boolean and(Random random, StringBuilder text, boolean[] events, int depth) {
        boolean value = not(random, text, events, depth);
        while (random.nextInt(3) == 0) {
            text.append("&");
            tokens++;
            value &= not(random, text, events, depth);
        }
        return value;
    }

    private static boolean not(Random random, StringBuilder text, boolean[] events, int depth) {
        int kind = random.nextInt(depth < 12 ? 7 : 3);
        if (kind == 0 || kind == 1) {
            int e = random.nextInt(16);
            text.append("event ").append(e);
            tokens += 2;
            return events[e];
        }
        if (kind == 2) {
            int n = 1 + random.nextInt(2);
            int bound = 38 + random.nextInt(5);
            boolean below = random.nextBoolean();
            text.append("axis ").append(n).append(below ? '<' : '>').append(bound);
            tokens += 4;
            return n == 2 && (below ? 40 < bound : 40 > bound);
        }
        tokens++;
        if (kind < 5) {
            text.append("!");
            return !not(random, text, events, depth + 1);
        }
        text.append("(");
        tokens++;
        boolean value = or(random, text, events, depth + 1);
        text.append(")");
        return value;
    }

    // ---- seats

    private static void seats(Random random) {
        StageHouse x = new StageHouse();
        int[][] rows = new int[40][];
        int[] sections = new int[40];
        boolean[] cut = new boolean[4];
        List<int[]> holds = new ArrayList<>();
        for (int i = 0; i < 3 + random.nextInt(4); i++) {
            int r = random.nextInt(8);
            rows[r] = new int[1 + random.nextInt(30)];
            sections[r] = random.nextInt(2);
            x.row(r, sections[r], rows[r].length);
        }
        int now = 0;
        for (int turn = 0; turn < 60; turn++) {
            int kind = random.nextInt(10);
            if (kind == 0) {
                int desk = random.nextInt(4);
                cut[desk] = !cut[desk];
                x.line(desk, !cut[desk]);
            } else if (kind == 1) {
                now = x.tick(1);
                for (int h = 0; h < holds.size(); h++) {
                    if (holds.get(h) != null && holds.get(h)[3] <= now) {
                        mark(rows, holds.get(h), 0);
                        holds.set(h, null);
                    }
                }
            } else {
                int desk = random.nextInt(4);
                int s = random.nextInt(2);
                int n = 1 + random.nextInt(random.nextInt(4) == 0 ? 10 : 3);
                int till = now + 1 + random.nextInt(9);
                int[] best = best(rows, sections, cut, desk, s, n);
                int h = 0;
                while (h < holds.size() && holds.get(h) != null) {
                    h++;
                }
                int got = x.ask(desk, s, n, 0, 0, till);
                Check.due("ask", got, best == null ? -1 : h);
                if (best != null) {
                    int[] hold = {best[2], best[3], n, till};
                    if (h == holds.size()) {
                        holds.add(hold);
                    } else {
                        holds.set(h, hold);
                    }
                    mark(rows, hold, 1);
                    Check.due("row", x.hold(h, 0), best[2]);
                    Check.due("first", x.hold(h, 1), best[3]);
                }
            }
        }
        for (int r = 0; r < 9; r++) {
            for (int k = random.nextInt(2); k < 31; k += 2) {
                Check.due("seat", x.seat(r, k), rows[r] == null || k >= rows[r].length ? -1 : rows[r][k]);
            }
        }
    }

    private static void mark(int[][] rows, int[] hold, int state) {
        for (int k = 0; k < hold[2]; k++) {
            rows[hold[0]][hold[1] + k] = state;
        }
    }

    /** Lone ones, row and distance, row, seat: the least of these fours. */
    static int[] best(int[][] rows, int[] sections, boolean[] cut, int desk, int s, int n) {
        List<int[]> all = new ArrayList<>();
        for (int r = 0; r < 40; r++) {
            for (int k = 0; rows[r] != null && sections[r] == s && k + n <= rows[r].length; k++) {
                boolean may = true;
                for (int i = k; i < k + n; i++) {
                    int owner = (r + i) % 4;
                    may &= rows[r][i] == 0 && (cut[desk] ? owner == desk : !cut[owner]);
                }
                if (may) {
                    int lone = 0;
                    if (free(rows[r], k - 1) && !free(rows[r], k - 2)) {
                        lone++;
                    }
                    if (free(rows[r], k + n) && !free(rows[r], k + n + 1)) {
                        lone++;
                    }
                    all.add(new int[] {lone, 3 * r + Math.abs(k + k + n - 1 - (rows[r].length - 1)), r, k});
                }
            }
        }
        all.sort((a, b) -> java.util.Arrays.compare(a, b));
        return all.isEmpty() ? null : all.get(0);
    }

    private static boolean free(int[] row, int k) {
        return k >= 0 && k < row.length && row[k] == 0;
    }
}
