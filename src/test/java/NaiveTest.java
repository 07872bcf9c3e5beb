import java.math.BigInteger;
import java.util.ArrayList;
import java.util.List;
import java.util.Random;

/** Promises 8 to 36 against a slow model that is written another way, on blocks by seeds. */
public final class NaiveTest {
    private static final int P = 1000003;

    private final Random random;
    private int strips;
    private int pictures;
    private int points;
    private int rows;
    private int[] strip;
    private int[] toldTurn;
    private int[][] row;
    private int[][] control;
    private int[][] centre;
    private String text;
    private int statements;

    private int sets;
    private int[] turn;
    private int[][] place;
    private int[][] spot;
    private int[][] drift;
    private boolean[] dropped;

    private NaiveTest(int seed) {
        random = new Random(seed);
    }

    public static void main(String[] args) {
        for (int seed = 0; seed < 400; seed++) new NaiveTest(seed).run(seed);
        Checks.finish("NaiveTest");
    }

    private int below(int n) {
        return random.nextInt(n);
    }

    // ---- blocks by seeds

    private void invent(int size) {
        strips = 1 + below(3);
        pictures = 1 + below(size == 0 ? 3 : 7);
        points = 1 + below(size == 0 ? 4 : 9);
        boolean likely = below(3) > 0;
        StringBuilder t = new StringBuilder();
        for (int s = 0; s < strips; s++) t.append("strip s").append((char) ('a' + s)).append(';');
        strip = new int[pictures];
        toldTurn = new int[pictures];
        int[] trueTurn = new int[pictures];
        int[][] at = new int[pictures][2];
        for (int p = 0; p < pictures; p++) {
            strip[p] = below(strips);
            trueTurn[p] = below(4);
            toldTurn[p] = below(2) == 0 ? 4 : likely ? trueTurn[p] : below(4);
            at[p][0] = below(40);
            at[p][1] = below(40);
            t.append("picture p").append((char) ('a' + p)).append(" in s").append((char) ('a' + strip[p]));
            t.append(" turn ").append(toldTurn[p] == 4 ? "any" : "" + toldTurn[p]).append(";\n");
        }
        for (int q = 0; q < points; q++) t.append("point q").append((char) ('a' + q)).append(';');
        statements = strips + pictures + points;
        inventRows(t, likely, trueTurn, at);
        inventControls(t);
        text = t.toString();
    }

    private void inventRows(StringBuilder t, boolean likely, int[] trueTurn, int[][] at) {
        int density = 1 + below(3);
        List<int[]> pairs = new ArrayList<>();
        for (int p = 0; p < pictures; p++) {
            for (int q = 0; q < points; q++) {
                if (below(4) < density) pairs.add(below(pairs.size() + 1), new int[] {p, q});
            }
        }
        rows = Math.min(30, pairs.size());
        row = new int[rows][];
        for (int r = 0; r < rows; r++) {
            int p = pairs.get(r)[0];
            int q = pairs.get(r)[1];
            int u = below(likely ? 60 : 10000);
            int v = below(likely ? 60 : 10000);
            if (likely && below(8) > 0) {
                int dx = 60 + 13 * q % 41 - at[p][0];
                int dy = 60 + 29 * q % 37 - at[p][1];
                int k = trueTurn[p];
                u = k == 0 ? dx : k == 1 ? dy : k == 2 ? -dx : -dy;
                v = k == 0 ? dy : k == 1 ? -dx : k == 2 ? -dy : dx;
                u = Math.max(0, u + 200 * (k > 0 ? 1 : 0) + below(3));
                v = Math.max(0, v + 200 * (k > 0 ? 1 : 0) + below(3));
            }
            row[r] = new int[] {p, q, u, v, 1 + below(9)};
            t.append("row p").append((char) ('a' + p)).append(" q").append((char) ('a' + q)).append(" at ");
            t.append(u).append(' ').append(v).append(" weight ").append(row[r][4]).append(";");
        }
        statements += rows;
    }

    private void inventControls(StringBuilder t) {
        control = new int[points][];
        centre = new int[pictures][];
        int many = 0;
        for (int q = 0; q < points; q++) {
            if (below(3) > 0 || many == 10) continue;
            many++;
            control[q] = new int[] {60 + below(50), 60 + below(50), 1 + below(2)};
            t.append("control q").append((char) ('a' + q)).append(" at ").append(control[q][0]).append(' ');
            t.append(control[q][1]).append(" set ").append(control[q][2]).append(";");
            statements++;
        }
        int often = below(3);
        for (int p = 0; p < pictures; p++) {
            if (below(3) >= often) continue;
            centre[p] = new int[] {below(80), below(80), 1 + below(9)};
            t.append("centre p").append((char) ('a' + p)).append(" at ").append(centre[p][0]).append(' ');
            t.append(centre[p][1]).append(" weight ").append(centre[p][2]).append(";");
            statements++;
        }
    }

    // ---- the slow model

    private boolean fixed(int q) {
        return control[q] != null && (sets >> (control[q][2] - 1) & 1) == 1;
    }

    private int turned(int t, int r, int axis) {
        int x = row[r][2] * 100;
        int y = row[r][3] * 100;
        for (int k = 0; k < t; k++) {
            int kept = x;
            x = -y;
            y = kept;
        }
        return axis == 0 ? x : y;
    }

    private int turned(int r, int axis) {
        return turned(turn[row[r][0]], r, axis);
    }

    private boolean drifting(int s) {
        for (int p = 0; p < pictures; p++) {
            if (strip[p] == s && centre[p] != null) return true;
        }
        return false;
    }

    private long miss(int r, int axis) {
        return spot[row[r][1]][axis] - place[row[r][0]][axis] - turned(r, axis);
    }

    private long doubt(int r) {
        return row[r][4] * (miss(r, 0) * miss(r, 0) + miss(r, 1) * miss(r, 1));
    }

    private long sum() {
        long sum = 0;
        for (int r = 0; r < rows; r++) {
            if (!dropped[r]) sum += doubt(r);
        }
        for (int p = 0; p < pictures; p++) {
            for (int axis = 0; axis < 2 && centre[p] != null; axis++) {
                long miss = place[p][axis] - drift[strip[p]][axis] - 100L * centre[p][axis];
                sum += centre[p][2] * miss * miss;
            }
        }
        return sum;
    }

    private void fresh() {
        sets = 3;
        dropped = new boolean[rows];
        start();
    }

    private int start() {
        turn = new int[pictures];
        place = new int[pictures][2];
        spot = new int[points][2];
        drift = new int[strips][2];
        for (int p = 0; p < pictures; p++) turn[p] = toldTurn[p] % 4;
        boolean[] started = new boolean[pictures];
        int alone = 0;
        for (int n = 0; n < pictures; n++) {
            int next = -1;
            for (int p = pictures - 1; p >= 0; p--) {
                int links = links(p, started).size();
                if (!started[p] && links > (toldTurn[p] == 4 ? 1 : 0)) next = p;
            }
            if (next >= 0) {
                startFrom(next, links(next, started));
            } else {
                alone++;
                for (int p = pictures - 1; p >= 0; p--) next = started[p] ? next : p;
            }
            started[next] = true;
        }
        for (int q = 0; q < points; q++) {
            for (int axis = 0; axis < 2; axis++) {
                int least = -1;
                for (int r = rows - 1; r >= 0; r--) least = !dropped[r] && row[r][1] == q ? r : least;
                if (least >= 0) spot[q][axis] = place[row[least][0]][axis] + turned(least, axis);
                if (fixed(q)) spot[q][axis] = 100 * control[q][axis];
            }
        }
        return alone;
    }

    /** Of each shared point by numbers: own row, place across and along. */
    private List<int[]> links(int p, boolean[] started) {
        List<int[]> links = new ArrayList<>();
        for (int q = 0; q < points; q++) {
            int own = -1;
            int from = -1;
            for (int r = 0; r < rows; r++) {
                if (dropped[r] || row[r][1] != q) continue;
                if (row[r][0] == p) own = r;
                if (started[row[r][0]] && from < 0) from = r;
            }
            if (own < 0 || from < 0) continue;
            int[] at = place[row[from][0]];
            links.add(new int[] {own, at[0] + turned(from, 0), at[1] + turned(from, 1)});
        }
        return links;
    }

    private void startFrom(int p, List<int[]> links) {
        int[] first = links.get(0);
        if (toldTurn[p] == 4) {
            long least = Long.MAX_VALUE;
            for (int t = 0; t < 4; t++) {
                long unlike = 0;
                for (int[] link : links) {
                    unlike += Math.abs(turned(t, link[0], 0) - turned(t, first[0], 0) - link[1] + first[1]);
                    unlike += Math.abs(turned(t, link[0], 1) - turned(t, first[0], 1) - link[2] + first[2]);
                }
                if (unlike < least) turn[p] = t;
                least = Math.min(least, unlike);
            }
        }
        for (int axis = 0; axis < 2; axis++) place[p][axis] = first[1 + axis] - turned(first[0], axis);
    }

    /** Goes down hill from the old place, by steps that halve; the lesser and the old one win where two are alike. */
    private boolean best(int[] at, int axis) {
        int old = at[axis];
        for (int step = 1 << 24; step > 0; step >>= 1) {
            for (int side = -1; side <= 1; side += 2) {
                while (true) {
                    long before = sum();
                    at[axis] += side * step;
                    if (sum() < before) continue;
                    at[axis] -= side * step;
                    break;
                }
            }
        }
        long least = sum();
        int found = at[axis];
        at[axis] = found - 1;
        if (sum() == least) found--;
        at[axis] = old;
        if (sum() != least) at[axis] = found;
        return at[axis] != old;
    }

    private boolean round() {
        boolean altered = false;
        for (int q = 0; q < points; q++) {
            boolean used = false;
            for (int r = 0; r < rows; r++) used |= !dropped[r] && row[r][1] == q;
            for (int axis = 0; axis < 2 && used && !fixed(q); axis++) altered |= best(spot[q], axis);
        }
        for (int p = 0; p < pictures; p++) {
            boolean used = centre[p] != null;
            for (int r = 0; r < rows; r++) used |= !dropped[r] && row[r][0] == p;
            for (int axis = 0; axis < 2 && used; axis++) altered |= best(place[p], axis);
        }
        for (int s = 0; s < strips; s++) {
            for (int axis = 0; axis < 2 && drifting(s); axis++) altered |= best(drift[s], axis);
        }
        return altered;
    }

    private int rounds(int n) {
        for (int k = 0; k < n; k++) {
            if (!round()) return k;
        }
        return n;
    }

    /** Pictures, then points: whether two are joined, by powers of paths. */
    private boolean[][] joined(int without) {
        int n = pictures + points;
        boolean[][] j = new boolean[n][n];
        for (int i = 0; i < n; i++) j[i][i] = true;
        for (int r = 0; r < rows; r++) {
            if (dropped[r] || r == without) continue;
            j[row[r][0]][pictures + row[r][1]] = true;
            j[pictures + row[r][1]][row[r][0]] = true;
        }
        for (int a = 0; a < pictures; a++) {
            for (int b = 0; b < pictures; b++) {
                if (strip[a] == strip[b] && centre[a] != null && centre[b] != null) j[a][b] = true;
            }
        }
        for (int k = 0; k < n; k++) {
            for (int a = 0; a < n; a++) {
                for (int b = 0; b < n; b++) j[a][b] |= j[a][k] && j[k][b];
            }
        }
        return j;
    }

    private boolean loose(boolean[][] joined, int which) {
        for (int q = 0; q < points; q++) {
            if (fixed(q) && joined[which][pictures + q]) return false;
        }
        return true;
    }

    private boolean canShow(int r) {
        if (dropped[r]) return false;
        boolean[][] j = joined(r);
        int p = row[r][0];
        int q = pictures + row[r][1];
        return j[p][q] || !loose(j, p) && !loose(j, q);
    }

    private int worst() {
        int worst = -1;
        for (int r = rows - 1; r >= 0; r--) {
            if (canShow(r) && (worst < 0 || doubt(r) >= doubt(worst))) worst = r;
        }
        return worst;
    }

    private int clean(long limit) {
        boolean[] before = dropped.clone();
        int n = 0;
        while (true) {
            rounds(50);
            int worst = worst();
            if (worst < 0 || doubt(worst) <= limit || n == 20) break;
            dropped[worst] = true;
            n++;
        }
        int back = 0;
        for (int r = 0; r < rows; r++) {
            if (!dropped[r] || before[r] || doubt(r) > limit) continue;
            dropped[r] = false;
            back++;
        }
        if (back > 0) rounds(50);
        return n - back;
    }

    // ---- comparing

    private void compare(String when, PictureBlock x) {
        Checks.due(when + " has 7", x.has(7), sets);
        boolean[][] j = joined(-1);
        int down = 0;
        int inUse = 0;
        for (boolean is : dropped) down += is ? 1 : 0;
        for (int q = 0; q < points; q++) inUse += fixed(q) ? 1 : 0;
        Checks.due(when + " has 6", x.has(6), down);
        Checks.due(when + " has 8", x.has(8), inUse);
        for (int p = 0; p < pictures; p++) {
            int used = 0;
            for (int r = 0; r < rows; r++) used += !dropped[r] && row[r][0] == p ? 1 : 0;
            int[] due = {strip[p], turn[p], toldTurn[p] / 4, place[p][0], place[p][1], used,
                loose(j, p) ? 1 : 0, centre[p] == null ? 0 : 1, PictureBlock.NOTHING};
            for (int what = 0; what < 9; what++) Checks.due(when + " picture " + p + " " + what, x.picture(p, what), due[what]);
        }
        for (int q = 0; q < points; q++) {
            int used = 0;
            for (int r = 0; r < rows; r++) used += !dropped[r] && row[r][1] == q ? 1 : 0;
            int[] due = {spot[q][0], spot[q][1], used, control[q] == null ? 0 : 1, fixed(q) ? 1 : 0,
                loose(j, pictures + q) ? 1 : 0, PictureBlock.NOTHING};
            for (int what = 0; what < 7; what++) Checks.due(when + " point " + q + " " + what, x.point(q, what), due[what]);
        }
        for (int r = 0; r < rows; r++) {
            int[] due = {row[r][0], row[r][1], row[r][2], row[r][3], row[r][4], dropped[r] ? 1 : 0,
                (int) miss(r, 0), (int) miss(r, 1), canShow(r) ? 1 : 0, PictureBlock.NOTHING};
            for (int what = 0; what < 10; what++) Checks.due(when + " row " + r + " " + what, x.row(r, what), due[what]);
        }
        for (int s = 0; s < strips; s++) {
            for (int axis = 0; axis < 2; axis++) {
                int due = drifting(s) ? drift[s][axis] : PictureBlock.NOTHING;
                Checks.due(when + " drift " + s, x.drift(s, axis), due);
            }
        }
        Checks.due(when + " sum", x.sum(), sum());
    }

    private void compareNet(String when, PictureBlock x) {
        boolean[][] j = joined(-1);
        int parts = 0;
        for (int a = 0; a < pictures; a++) {
            boolean first = true;
            for (int b = 0; b < pictures; b++) {
                Checks.due(when + " hang", x.hang(a, b), j[a][b] ? 1 : 0);
                if (b < a && j[a][b]) first = false;
            }
            parts += first ? 1 : 0;
        }
        Checks.due(when + " parts", x.parts(), parts);
        int blind = 0;
        for (int r = 0; r < rows; r++) {
            blind += !dropped[r] && !canShow(r) ? 1 : 0;
            Checks.due(when + " doubt", x.doubt(r), doubt(r));
            boolean[][] less = joined(r);
            int needs = 0;
            for (int p = 0; p < pictures; p++) needs += !loose(j, p) && loose(less, p) ? 1 : 0;
            Checks.due(when + " needs", x.needs(r), dropped[r] ? -1 : needs);
        }
        Checks.due(when + " blind", x.blind(), blind);
        Checks.due(when + " worst", x.worst(), worst());
    }

    private int rowOf(int p, int q) {
        for (int r = 0; r < rows; r++) {
            if (!dropped[r] && row[r][0] == p && row[r][1] == q) return r;
        }
        return -1;
    }

    private List<Integer> common(int a, int b) {
        List<Integer> common = new ArrayList<>();
        for (int q = 0; q < points; q++) {
            if (rowOf(a, q) >= 0 && rowOf(b, q) >= 0) common.add(q);
        }
        return common;
    }

    private int step(int a, int b, int axis) {
        List<Integer> common = common(a, b);
        if (common.isEmpty()) return PictureBlock.NOTHING;
        long sum = 0;
        for (int q : common) sum += turned(rowOf(a, q), axis) - turned(rowOf(b, q), axis);
        // below 0 the floor lies further down
        long many = common.size();
        return (int) (sum >= 0 ? sum / many : -((-sum + many - 1) / many));
    }

    private int loop(int a, int b, int c, int axis) {
        int one = step(a, b, axis);
        int two = step(b, c, axis);
        int three = step(c, a, axis);
        int none = PictureBlock.NOTHING;
        return one == none || two == none || three == none ? none : one + two + three;
    }

    private void compareTies(String when, PictureBlock x) {
        int gap = -1;
        int which = -1;
        for (int a = 0; a < pictures; a++) {
            for (int b = 0; b < pictures; b++) {
                Checks.due(when + " tie 0", x.tie(a, b, 0), a == b ? PictureBlock.NOTHING : common(a, b).size());
                for (int axis = 0; axis < 2 && a != b; axis++) {
                    Checks.due(when + " tie", x.tie(a, b, 1 + axis), step(a, b, axis));
                }
                int c = below(pictures);
                int due = a == b || b == c || a == c ? PictureBlock.NOTHING : loop(a, b, c, 1);
                Checks.due(when + " loop", x.loop(a, b, c, 1), due);
                for (c = b + 1; c < pictures && a < b; c++) {
                    if (loop(a, b, c, 0) == PictureBlock.NOTHING) continue;
                    int size = Math.abs(loop(a, b, c, 0)) + Math.abs(loop(a, b, c, 1));
                    if (size > gap) which = a * 10000 + b * 100 + c;
                    gap = Math.max(gap, size);
                }
            }
        }
        Checks.due(when + " gap 0", x.gap(0), which);
        Checks.due(when + " gap 1", x.gap(1), gap);
        compareTree(when, x);
    }

    private void compareTree(String when, PictureBlock x) {
        List<int[]> all = new ArrayList<>();
        for (int a = 0; a < pictures; a++) {
            for (int b = a + 1; b < pictures; b++) {
                if (!common(a, b).isEmpty()) all.add(new int[] {-common(a, b).size(), a, b});
            }
        }
        all.sort((one, two) -> one[0] != two[0] ? one[0] - two[0] : one[1] != two[1] ? one[1] - two[1] : one[2] - two[2]);
        int[] part = new int[pictures];
        for (int p = 0; p < pictures; p++) part[p] = p;
        List<int[]> tree = new ArrayList<>();
        for (int[] tie : all) {
            int from = part[tie[1]];
            int to = part[tie[2]];
            if (from == to) continue;
            tree.add(tie);
            for (int p = 0; p < pictures; p++) part[p] = part[p] == from ? to : part[p];
        }
        Checks.due(when + " tree", x.tree(-1), tree.size());
        for (int k = 0; k < tree.size(); k++) {
            Checks.due(when + " tree " + k, x.tree(k), 100 * tree.get(k)[1] + tree.get(k)[2]);
        }
        Checks.due(when + " tree behind", x.tree(tree.size()), -1);
        for (int n = 1; n <= 20; n += 1 + n / 4) {
            boolean[] planned = new boolean[rows];
            for (int[] tie : tree) {
                List<Integer> common = common(tie[1], tie[2]);
                for (int q : common.subList(0, Math.min(n, common.size()))) {
                    planned[rowOf(tie[1], q)] = true;
                    planned[rowOf(tie[2], q)] = true;
                }
            }
            int due = 0;
            for (boolean is : planned) due += is ? 1 : 0;
            Checks.due(when + " plan " + n, x.plan(n), due);
        }
    }

    // ---- as a whole: the equations by differences of the sum, exact, and their determinant

    private void compareWhole(String when, PictureBlock x) {
        List<int[]> unknowns = new ArrayList<>();
        for (int p = 0; p < pictures; p++) {
            if (x.picture(p, 5) > 0 || centre[p] != null) unknowns.add(new int[] {0, p});
            else Checks.due(when + " whole of an idle picture", x.whole(0, p, 0), -1);
        }
        for (int q = 0; q < points; q++) {
            if (fixed(q)) Checks.due(when + " whole of control", x.whole(1, q, 1), 100 * control[q][1] % P);
            else if (x.point(q, 2) > 0) unknowns.add(new int[] {1, q});
            else Checks.due(when + " whole of an idle point", x.whole(1, q, 0), -1);
        }
        for (int s = 0; s < strips; s++) {
            if (drifting(s)) unknowns.add(new int[] {2, s});
            else Checks.due(when + " whole of no drift", x.whole(2, s, 0), -1);
        }
        for (int axis = 0; axis < 2; axis++) {
            BigInteger[][] equations = equations(unknowns, axis);
            int n = unknowns.size();
            boolean can = determinant(equations, n).mod(BigInteger.valueOf(P)).signum() != 0;
            long[] answers = new long[n];
            for (int i = 0; i < n; i++) {
                answers[i] = x.whole(unknowns.get(i)[0], unknowns.get(i)[1], axis);
                Checks.due(when + " whole can be", answers[i] >= 0 && answers[i] < P, can);
            }
            for (int i = 0; i < n && can; i++) {
                BigInteger left = equations[i][n];
                for (int k = 0; k < n; k++) left = left.add(equations[i][k].multiply(BigInteger.valueOf(answers[k])));
                Checks.due(when + " whole holds", left.mod(BigInteger.valueOf(P)).longValue(), 0);
            }
        }
    }

    private int[] held(int[] unknown) {
        return unknown[0] == 0 ? place[unknown[1]] : unknown[0] == 1 ? spot[unknown[1]] : drift[unknown[1]];
    }

    /** Half the derivative of the sum, by each unknown: rows of factors and what stands alone. */
    private BigInteger[][] equations(List<int[]> unknowns, int axis) {
        int n = unknowns.size();
        int[] kept = new int[n];
        for (int i = 0; i < n; i++) {
            kept[i] = held(unknowns.get(i))[axis];
            held(unknowns.get(i))[axis] = 0;
        }
        BigInteger[][] equations = new BigInteger[n][n + 1];
        for (int i = 0; i < n; i++) {
            long alone = slope(unknowns.get(i), axis);
            equations[i][n] = BigInteger.valueOf(alone);
            for (int k = 0; k < n; k++) {
                held(unknowns.get(k))[axis] = 1;
                equations[i][k] = BigInteger.valueOf(slope(unknowns.get(i), axis) - alone);
                held(unknowns.get(k))[axis] = 0;
            }
        }
        for (int i = 0; i < n; i++) held(unknowns.get(i))[axis] = kept[i];
        return equations;
    }

    /** Half of the derivative: a quarter of the difference of the sums at 1 more and at 1 less. */
    private long slope(int[] unknown, int axis) {
        held(unknown)[axis]++;
        long more = sum();
        held(unknown)[axis] -= 2;
        long less = sum();
        held(unknown)[axis]++;
        return (more - less) / 4;
    }

    private static BigInteger determinant(BigInteger[][] equations, int n) {
        BigInteger[][] m = new BigInteger[n][];
        for (int i = 0; i < n; i++) m[i] = equations[i].clone();
        BigInteger before = BigInteger.ONE;
        int sign = 1;
        for (int k = 0; k < n; k++) {
            int pivot = k;
            while (pivot < n && m[pivot][k].signum() == 0) pivot++;
            if (pivot == n) return BigInteger.ZERO;
            if (pivot != k) {
                BigInteger[] kept = m[k];
                m[k] = m[pivot];
                m[pivot] = kept;
                sign = -sign;
            }
            for (int i = k + 1; i < n; i++) {
                for (int j = k + 1; j < n; j++) {
                    m[i][j] = m[i][j].multiply(m[k][k]).subtract(m[i][k].multiply(m[k][j])).divide(before);
                }
            }
            before = m[k][k];
        }
        return before.multiply(BigInteger.valueOf(sign));
    }

    // ---- one block

    private void run(int seed) {
        invent(seed % 2);
        String when = "seed " + seed;
        PictureBlock x = Checks.made(text, statements);
        fresh();
        compare(when + " fresh", x);
        compareNet(when + " fresh", x);
        compareTies(when + " fresh", x);
        compareWhole(when + " fresh", x);
        Checks.due(when + " rounds 1", x.rounds(1), rounds(1));
        compare(when + " round", x);
        alter(when, x);
        Checks.due(when + " start", x.start(), start());
        compare(when + " start", x);
        Checks.due(when + " rounds", x.rounds(12), rounds(12));
        compare(when + " rounds", x);
        compareNet(when + " rounds", x);
        compareTies(when + " rounds", x);
        compareWhole(when + " rounds", x);
        if (seed % 5 < 2) cleanAndDiffer(seed, when, x);
    }

    /** Drops rows, puts sets in use, slips, measures anew. */
    private void alter(String when, PictureBlock x) {
        for (int n = below(4); n > 0 && rows > 0; n--) {
            int r = below(rows);
            Checks.due(when + " drop", x.drop(r, true), !dropped[r]);
            dropped[r] = true;
        }
        sets = below(4);
        int inUse = 0;
        for (int q = 0; q < points; q++) {
            if (!fixed(q)) continue;
            inUse++;
            spot[q] = new int[] {100 * control[q][0], 100 * control[q][1]};
        }
        Checks.due(when + " sets", x.sets(sets), inUse);
        compare(when + " sets", x);
        int n = 1 + below(60);
        int most = below(3) == 0 ? 999 : below(4);
        int seed = below(3) == 0 ? Integer.MAX_VALUE : below(1000000);
        Checks.due(when + " slips", x.slips(n, most, seed), rows == 0 ? -1 : 3 * n);
        if (rows > 0) slip(n, most, seed);
        if (rows > 0) {
            int r = below(rows);
            row[r][2] = below(10000);
            Checks.due(when + " measure", x.measure(r, row[r][2], row[r][3]), true);
        }
        compare(when + " slips", x);
    }

    private void slip(int n, int most, int seed) {
        BigInteger state = BigInteger.valueOf(seed);
        int[] drawn = new int[3];
        for (int k = 0; k < n; k++) {
            for (int d = 0; d < 3; d++) {
                state = state.multiply(BigInteger.valueOf(1103515245)).add(BigInteger.valueOf(12345));
                state = state.mod(BigInteger.ONE.shiftLeft(31));
                int of = d == 0 ? rows : 2 * most + 1;
                drawn[d] = state.shiftRight(6).mod(BigInteger.valueOf(of)).intValue();
            }
            int[] slipped = row[drawn[0]];
            for (int axis = 0; axis < 2; axis++) {
                int at = slipped[2 + axis] + drawn[1 + axis] - most;
                slipped[2 + axis] = at < 0 ? 0 : at > 9999 ? 9999 : at;
            }
        }
    }

    private void cleanAndDiffer(int seed, String when, PictureBlock x) {
        int[] before = Checks.image(x);
        for (int p = 0; p < pictures; p++) {
            for (int axis = 0; axis < 2; axis++) {
                int due = bySet(before, 1, p, axis) - bySet(before, 2, p, axis);
                Checks.due(when + " differ", x.differ(p, axis), due);
            }
        }
        compare(when + " differ", x);
        if (rows > 0) compareAlters(when, x);
        compare(when + " alters", x);
        long limit = new long[] {0, 100, 30000, 1000000, 1000000000000L}[below(5)];
        Checks.due(when + " clean", x.clean(limit), clean(limit));
        compare(when + " clean", x);
        Checks.due(when + " on", Checks.on(x, before), true);
        int[] after = Checks.image(x);
        Checks.due(when + " image length", after.length, before.length);
        for (int k = 0; k < before.length; k++) Checks.due(when + " octet " + k, after[k], before[k]);
        Checks.due(when + " octet behind", x.octet(before.length), -1);
    }

    /** By the calls themselves, on another object. */
    private int bySet(int[] image, int set, int p, int axis) {
        PictureBlock y = other(image);
        y.sets(set);
        y.start();
        y.rounds(200);
        return y.picture(p, 3 + axis);
    }

    private PictureBlock other(int[] image) {
        PictureBlock y = Checks.made(text, statements);
        for (int r = 0; r < rows; r++) y.measure(r, row[r][2], row[r][3]);
        Checks.due("another object", Checks.on(y, image), true);
        return y;
    }

    private void compareAlters(String when, PictureBlock x) {
        int[] image = Checks.image(x);
        int r = below(rows);
        int u = below(10000);
        int v = below(200);
        PictureBlock without = other(image);
        without.rounds(200);
        PictureBlock with = other(image);
        with.measure(r, u, v);
        with.rounds(200);
        for (int more = 0; more < 100000; more = 3 * more + 1) {
            int due = 0;
            for (int p = 0; p < pictures; p++) {
                int across = Math.abs(with.picture(p, 3) - without.picture(p, 3));
                int along = Math.abs(with.picture(p, 4) - without.picture(p, 4));
                due += Math.max(across, along) > more ? 1 : 0;
            }
            Checks.due(when + " alters", x.alters(r, u, v, more), due);
        }
    }
}
