/** Promises 3 to 36: edges that the document names and wrong inputs, reckoned by hand. */
public final class EdgesTest {
    private static final int NONE = PictureBlock.NONE;
    private static final int NOTHING = PictureBlock.NOTHING;
    private static final int[] WRONG = {-1, Integer.MIN_VALUE, Integer.MAX_VALUE, 1000};
    private static final String SMALL = "strip s; strip t; picture a in s turn 0; picture b in s turn 1; point p; point q;"
        + "row a p at 10 20 weight 1; row b p at 5 7 weight 2; row a q at 3 4 weight 1;"
        + "control p at 30 40 set 1; centre b at 1 2 weight 3;";

    public static void main(String[] args) {
        small();
        nothingSuch();
        halves();
        starts();
        wholes();
        wholesByThePrime();
        largest();
        hangs();
        drops();
        cleans();
        putBacks();
        ties();
        trees();
        setsApart();
        measures();
        slipsKept();
        images();
        sumGoesRound();
        imagesRefused();
        Checks.finish("EdgesTest");
    }

    private static void small() {
        PictureBlock x = Checks.made(SMALL, 11);
        Checks.due("b across", x.picture(1, 3), 1700);
        Checks.due("b along", x.picture(1, 4), 1500);
        Checks.due("miss", x.row(0, 6), 2000);
        Checks.due("miss", x.row(1, 7), 2000);
        Checks.due("sum", x.sum(), 36750000);
        Checks.due("doubt", x.doubt(1), 16000000);
        Checks.due("worst where none can show", x.worst(), NONE);
        Checks.due("rounds", x.rounds(1), 1);
        Checks.due("a across", x.picture(0, 3), 1000);
        Checks.due("b across", x.picture(1, 3), 1540);
        Checks.due("b along", x.picture(1, 4), 1520);
        Checks.due("drift", x.drift(0, 0), 1440);
        Checks.due("drift", x.drift(0, 1), 1320);
        Checks.due("no drift", x.drift(1, 0), NOTHING);
        Checks.due("rounds 0", x.rounds(0), NONE);
        Checks.due("rounds 501", x.rounds(501), NONE);
        Checks.due("a across still", x.picture(0, 3), 1000);
        Checks.due("rounds 500", x.rounds(500) < 500, true);
        Checks.due("at rest", x.rounds(500), 0);
        // whole: row 1 and the centre can both be met, so a = 2000 2000, b = 3700 3500, drift 3600 3300
        Checks.due("whole a", x.whole(0, 0, 0), 2000);
        Checks.due("whole b", x.whole(0, 1, 1), 3500);
        Checks.due("whole q", x.whole(1, 1, 0), 2300);
        Checks.due("whole drift", x.whole(2, 0, 1), 3300);
        Checks.due("whole drift of t", x.whole(2, 1, 1), NONE);
        Checks.due("start", x.start(), 1);
        Checks.due("drift after start", x.drift(0, 0), 0);
        Checks.due("sum after start", x.sum(), 36750000);
    }

    private static void nothingSuch() {
        PictureBlock x = Checks.made(SMALL, 11);
        for (int bad : WRONG) {
            Checks.due("has", x.has(bad), NONE);
            Checks.due("fault", x.fault(bad), NONE);
            Checks.due("picture", x.picture(bad, 0), NOTHING);
            Checks.due("picture what", x.picture(0, bad), NOTHING);
            Checks.due("point", x.point(bad, 0), NOTHING);
            Checks.due("point what", x.point(0, bad), NOTHING);
            Checks.due("row", x.row(bad, 0), NOTHING);
            Checks.due("row what", x.row(0, bad), NOTHING);
            Checks.due("drift", x.drift(bad, 0), NOTHING);
            Checks.due("drift axis", x.drift(0, bad), NOTHING);
            Checks.due("whole kind", x.whole(bad, 0, 0), NONE);
            Checks.due("whole axis", x.whole(0, 0, bad), NONE);
            Checks.due("whole control axis", x.whole(1, 0, bad), NONE);
            for (int kind = 0; kind < 3; kind++) Checks.due("whole", x.whole(kind, bad, 0), NONE);
            Checks.due("sets", x.sets(bad), NONE);
            Checks.due("hang", x.hang(bad, 0), NONE);
            Checks.due("hang", x.hang(0, bad), NONE);
            Checks.due("needs", x.needs(bad), NONE);
            Checks.due("doubt", x.doubt(bad), -1);
            Checks.due("drop", x.drop(bad, true), false);
            Checks.due("put back", x.drop(bad, false), false);
            Checks.due("tie", x.tie(bad, 0, 0), NOTHING);
            Checks.due("tie", x.tie(0, bad, 0), NOTHING);
            Checks.due("tie what", x.tie(0, 1, bad), NOTHING);
            Checks.due("gap", x.gap(bad), NONE);
            Checks.due("plan", x.plan(bad), NONE);
            Checks.due("differ", x.differ(bad, 0), NOTHING);
            Checks.due("differ axis", x.differ(0, bad), NOTHING);
            Checks.due("alters", x.alters(bad, 1, 1, 0), NONE);
            Checks.due("measure", x.measure(bad, 1, 1), false);
            Checks.due("octet", x.octet(bad), NONE);
            if (bad != -1) Checks.due("tree", x.tree(bad), NONE);
        }
        Checks.due("tie of one", x.tie(1, 1, 0), NOTHING);
        Checks.due("tie what", x.tie(0, 1, 3), NOTHING);
        Checks.due("point of q", x.point(2, 0), NOTHING);
        Checks.due("row 3", x.row(3, 0), NOTHING);
        Checks.due("has 9", x.has(9), NONE);
        Checks.due("sets 4", x.sets(4), NONE);
        Checks.due("sets as they were", x.has(7), 3);
        Checks.due("sum as it was", x.sum(), 36750000);
    }

    /** Two pulls half way: the old one where it is one of both, else the lesser. */
    private static void halves() {
        // a is pulled to 0 and 100 twice and once: 33; with p in a put by its own row the point halves
        String text = "strip s;picture a in s turn 0;picture b in s turn 0;point p;point q;"
            + "row a p at 0 0 weight 1;row b p at 0 0 weight 1;control q at 0 0 set 1;row a q at 0 0 weight 9;row b q at 0 0 weight 9;";
        PictureBlock x = Checks.made(text, 10);
        int[] image = Checks.image(x);
        // sets, a, b, p: a at 0, b at 1, p at what is asked
        int[] b = Checks.withInt(image, 11, 1);
        int[][] cases = {{0, 0}, {1, 1}, {2, 0}, {-1, 0}, {-5, 0}, {9, 0}};
        for (int[] c : cases) {
            Checks.due("on", Checks.on(x, Checks.withInt(b, 19, c[0])), true);
            x.rounds(1);
            Checks.due("half from " + c[0], x.point(0, 0), c[1]);
        }
        int[] low = Checks.withInt(image, 11, -1);
        int[][] lower = {{0, 0}, {-1, -1}, {1, -1}, {-2, -1}};
        for (int[] c : lower) {
            Checks.due("on", Checks.on(x, Checks.withInt(low, 19, c[0])), true);
            x.rounds(1);
            Checks.due("half below 0 from " + c[0], x.point(0, 0), c[1]);
        }
    }

    private static void starts() {
        Checks.due("start without", new PictureBlock().start(), 0);
        // any with one shared point is not started from it; with two it is
        String two = "strip s;picture a in s turn 0;picture b in s turn any;point p;point q;"
            + "row a p at 0 0 weight 1;row a q at 10 0 weight 1;row b p at 50 50 weight 1;";
        PictureBlock x = Checks.made(two, 8);
        Checks.due("start of two", x.start(), 2);
        Checks.due("b stays", x.picture(1, 3), 0);
        Checks.due("turn of b", x.picture(1, 1), 0);
        Checks.due("b was any", x.picture(1, 2), 1);
        x = Checks.made(two + "row b q at 50 60 weight 1;", 9);
        // from p to q: 1000 0 in a; 0 1000 in b, which turn 3 makes 1000 0
        Checks.due("start of one", x.start(), 1);
        Checks.due("turn of b", x.picture(1, 1), 3);
        Checks.due("b across", x.picture(1, 3), -5000);
        Checks.due("b along", x.picture(1, 4), 5000);
        Checks.due("drop", x.drop(3, true), true);
        Checks.due("start without it", x.start(), 2);
        Checks.due("turn of b again", x.picture(1, 1), 0);
        // like turns: both points at one place in b, so each turn is alike
        x = Checks.made(two + "row b q at 50 50 weight 1;", 9);
        Checks.due("first of like turns", x.picture(1, 1), 0);
        // the row with the least number puts a shared point, whichever picture it is in
        x = Checks.made("strip s;picture a in s turn 0;picture b in s turn 0;picture c in s turn 0;point p;point q;"
            + "row b q at 7 0 weight 1;row a q at 1 0 weight 1;row b p at 3 0 weight 1;row a p at 1 0 weight 1;"
            + "row c q at 0 0 weight 1;", 11);
        // b by p (the lesser number): 100 - 300 = -200; c by q from row 0: -200 + 700 = 500
        Checks.due("b", x.picture(1, 3), -200);
        Checks.due("c", x.picture(2, 3), 500);
        Checks.due("q", x.point(1, 0), 500);
        Checks.due("p", x.point(0, 0), 100);
        Checks.due("sets of none", x.sets(0), 0);
        // points of control not in use stand as the others do
        x = Checks.made("strip s;picture a in s turn 2;point p;control p at 1 2 set 1;point q;control q at 5 6 set 2;"
            + "row a p at 3 4 weight 1;", 7);
        Checks.due("sets 2", x.sets(2), 1);
        Checks.due("p as it stood", x.point(0, 0), 100);
        Checks.due("start", x.start(), 1);
        Checks.due("p by its row", x.point(0, 0), -300);
        Checks.due("q", x.point(1, 1), 600);
        Checks.due("sets 0", x.sets(0), 0);
        Checks.due("q stays", x.point(1, 1), 600);
        x.start();
        Checks.due("q without rows", x.point(1, 1), 0);
        Checks.due("sets 3", x.sets(3), 2);
        Checks.due("p where told", x.point(0, 1), 200);
    }

    private static void wholes() {
        PictureBlock x = Checks.made("strip s;picture a in s turn 0;point p;point q;row a p at 1 2 weight 1;", 5);
        Checks.due("loose", x.whole(0, 0, 0), NONE);
        Checks.due("loose point", x.whole(1, 0, 0), NONE);
        Checks.due("idle point", x.whole(1, 1, 0), NONE);
        x = Checks.made("strip s;picture a in s turn 0;picture b in s turn 0;point p;point q;row a p at 1 2 weight 2;"
            + "control p at 9999 0 set 1;control q at 0 5 set 2;", 8);
        Checks.due("held", x.whole(0, 0, 0), 999800);
        Checks.due("below 0", x.whole(0, 0, 1), 1000003 - 200);
        Checks.due("control", x.whole(1, 0, 0), 999900);
        Checks.due("control without rows", x.whole(1, 1, 1), 500);
        Checks.due("idle picture", x.whole(0, 1, 0), NONE);
        x.sets(2);
        Checks.due("loose then", x.whole(0, 0, 0), NONE);
        Checks.due("not in use then", x.whole(1, 0, 0), NONE);
        Checks.due("control all the same", x.whole(1, 1, 1), 500);
        // a mean that is no whole number: 100 / 3 modulo the prime
        x = Checks.made("strip s;picture a in s turn 0;point p;point q;row a p at 0 0 weight 2;row a q at 0 0 weight 1;"
            + "control p at 0 0 set 1;control q at 1 0 set 1;", 8);
        Checks.due("a third", 3L * x.whole(0, 0, 0) % 1000003, 100);
    }

    /** Four pictures and five points, the last of control, with rows of these weights that all fit. */
    private static PictureBlock weighted(int[][] weights) {
        StringBuilder t = new StringBuilder("strip s;");
        int statements = 11;
        for (int p = 0; p < 4; p++) t.append("picture p").append((char) ('a' + p)).append(" in s turn 0;");
        for (int q = 0; q < 5; q++) t.append("point q").append((char) ('a' + q)).append(';');
        t.append("control qe at 45 67 set 1;");
        for (int p = 0; p < 4; p++) {
            for (int q = 0; q < 5; q++) {
                if (weights[p][q] == 0) continue;
                t.append("row p").append((char) ('a' + p)).append(" q").append((char) ('a' + q)).append(" at ");
                t.append(20 + 3 * q - 4 * p).append(' ').append(30 - q + p).append(" weight ").append(weights[p][q]).append(';');
                statements++;
            }
        }
        return Checks.made(t.toString(), statements);
    }

    private static void wholesByThePrime() {
        // a divisor on the way is 0 modulo the prime: lines must be put in another order
        int[][][] swapped = {{{2, 3, 0, 0, 2}, {7, 7, 4, 7, 1}, {8, 1, 7, 5, 1}, {4, 8, 3, 4, 9}},
            {{4, 6, 6, 3, 7}, {9, 9, 2, 8, 7}, {0, 0, 6, 8, 0}, {2, 9, 7, 4, 6}}};
        for (int[][] weights : swapped) {
            PictureBlock x = weighted(weights);
            for (int p = 0; p < 4; p++) {
                Checks.due("picture across", x.whole(0, p, 0), 4500 - 3200 + 400 * p);
                Checks.due("picture along", x.whole(0, p, 1), 6700 - 2600 - 100 * p);
            }
            for (int q = 0; q < 5; q++) {
                Checks.due("point across", x.whole(1, q, 0), 4500 - 1200 + 300 * q);
                Checks.due("point along", x.whole(1, q, 1), 6700 + 400 - 100 * q);
            }
        }
        // the equations have one answer, but not modulo the prime
        int[][][] never = {{{6, 9, 0, 7, 5}, {7, 0, 8, 6, 5}, {9, 0, 3, 6, 5}, {9, 1, 0, 1, 1}},
            {{2, 5, 0, 5, 0}, {9, 5, 6, 5, 4}, {2, 3, 6, 1, 5}, {0, 7, 5, 3, 0}}};
        for (int[][] weights : never) {
            PictureBlock x = weighted(weights);
            for (int p = 0; p < 4; p++) Checks.due("can't be", x.whole(0, p, 0), NONE);
            for (int q = 0; q < 4; q++) Checks.due("can't be", x.whole(1, q, 1), NONE);
            Checks.due("control all the same", x.whole(1, 4, 1), 6700);
            Checks.due("not loose", x.picture(0, 6), 0);
        }
    }

    /** As many pictures, points and drifts as can be, hung up on one another and on one point of control. */
    private static void largest() {
        StringBuilder t = new StringBuilder();
        for (int s = 0; s < 6; s++) t.append("strip ").append((char) ('a' + s)).append(';');
        for (int p = 0; p < 12; p++) {
            t.append("picture ").append((char) ('g' + p)).append(" in ").append((char) ('a' + p % 6)).append(" turn 0;");
        }
        for (int q = 0; q < 20; q++) t.append("point ").append(pointName(q)).append(';');
        for (int p = 0; p < 12; p++) {
            for (int q = p; q < (p == 11 ? 20 : p + 2); q++) {
                t.append("row ").append((char) ('g' + p)).append(' ').append(pointName(q)).append(" at 1 2 weight 3;");
            }
        }
        for (int s = 0; s < 6; s++) t.append("centre ").append((char) ('g' + s)).append(" at 1 1 weight 1;");
        PictureBlock loose = Checks.made(t.toString(), 6 + 12 + 20 + 31 + 6);
        Checks.due("without control", loose.whole(0, 11, 0), NONE);
        PictureBlock x = Checks.made(t + "control s at 50 60 set 1;", 6 + 12 + 20 + 31 + 6 + 1);
        Checks.due("picture", x.whole(0, 11, 0), 4900);
        Checks.due("picture", x.whole(0, 0, 1), 5800);
        Checks.due("point", x.whole(1, 19, 1), 6000);
        Checks.due("drift", x.whole(2, 5, 0), 4800);
        Checks.due("drift", x.whole(2, 0, 1), 5700);
        Checks.due("parts", x.parts(), 1);
        Checks.due("blind", x.blind(), 31);
        Checks.due("tree", x.tree(-1), 11);
        Checks.due("image", x.image(), 1 + 9 * 12 + 8 * 20 + 8 * 6 + 31 + 1);
        x.rounds(500);
        Checks.due("doubt of nothing", x.clean(0), 0);
    }

    private static String pointName(int q) {
        return q < 8 ? "" + (char) ('s' + q) : "z" + (char) ('a' + q);
    }

    private static void hangs() {
        PictureBlock x = Checks.made("strip s;strip t;picture a in s turn 0;picture b in s turn 0;picture c in t turn 0;"
            + "picture d in s turn 0;point p;point q;row a p at 1 1 weight 1;row c q at 1 1 weight 1;row d q at 1 1 weight 1;"
            + "control p at 1 1 set 1;centre a at 1 1 weight 1;centre b at 1 1 weight 1;centre c at 1 1 weight 1;", 15);
        Checks.due("parts", x.parts(), 2);
        Checks.due("by centres", x.hang(0, 1), 1);
        Checks.due("of other strips", x.hang(0, 2), 0);
        Checks.due("by a point", x.hang(2, 3), 1);
        Checks.due("itself", x.hang(3, 3), 1);
        Checks.due("b not loose", x.picture(1, 6), 0);
        Checks.due("d loose", x.picture(3, 6), 1);
        Checks.due("q loose", x.point(1, 5), 1);
        Checks.due("p not loose", x.point(0, 5), 0);
        Checks.due("needs", x.needs(0), 2);
        Checks.due("needs of loose", x.needs(1), 0);
        Checks.due("blind", x.blind(), 3);
        x.drop(0, true);
        Checks.due("needs of a dropped one", x.needs(0), NONE);
        Checks.due("control without rows is not loose", x.point(0, 5), 0);
        Checks.due("blind without", x.blind(), 2);
        Checks.due("worst of blind", x.worst(), NONE);
    }

    private static void drops() {
        PictureBlock x = Checks.made(SMALL, 11);
        Checks.due("put back what is there", x.drop(0, false), false);
        Checks.due("drop", x.drop(0, true), true);
        Checks.due("again", x.drop(0, true), false);
        Checks.due("dropped", x.row(0, 5), 1);
        Checks.due("its miss", x.row(0, 6), 2000);
        Checks.due("can't show", x.row(0, 8), 0);
        Checks.due("its doubt", x.doubt(0), 8000000);
        Checks.due("sum without", x.sum(), 28750000);
        Checks.due("rows in use", x.picture(0, 5), 1);
        Checks.due("rows of p", x.point(0, 2), 1);
        Checks.due("has 6", x.has(6), 1);
        Checks.due("put back", x.drop(0, false), true);
        Checks.due("sum with", x.sum(), 36750000);
    }

    private static String star(int rows, int far) {
        StringBuilder t = new StringBuilder("strip s;picture a in s turn 0;picture b in s turn 0;picture c in s turn 0;");
        int made = 0;
        for (int q = 0; q < 10; q++) {
            t.append("point q").append((char) ('a' + q)).append(";control q").append((char) ('a' + q)).append(" at 50 50 set 1;");
        }
        for (int p = 0; p < 3; p++) {
            for (int q = 0; q < 10 && made < rows; q++) {
                int off = q == 0 ? 0 : far;
                t.append("row ").append((char) ('a' + p)).append(" q").append((char) ('a' + q));
                t.append(" at ").append(50 + off * q * q).append(" 50 weight 1;");
                made++;
            }
        }
        return t.toString();
    }

    private static void cleans() {
        PictureBlock x = Checks.made(star(10, 0), 34);
        Checks.due("below 0", x.clean(-1), NONE);
        Checks.due("lowest", x.clean(Long.MIN_VALUE), NONE);
        Checks.due("nothing to drop", x.clean(0), 0);
        x.measure(3, 90, 50);
        Checks.due("above all", x.clean(Long.MAX_VALUE), 0);
        // a has the mean of nine 0 and one -4000: -400; the miss of row 3 is -3600, of the others 400
        Checks.due("mean", x.picture(0, 3), -400);
        Checks.due("doubt", x.doubt(3), 12960000);
        Checks.due("not above", x.clean(12960000), 0);
        Checks.due("above", x.clean(12959999), 1);
        Checks.due("mean without", x.picture(0, 3), 0);
        Checks.due("dropped", x.row(3, 5), 1);
        Checks.due("again", x.clean(0), 0);
        Checks.due("has 6", x.has(6), 1);
        // 30 rows of three pictures, no two of a picture alike: 27 could go, no more than 20 do, one dropped ahead of it or not
        x = Checks.made(star(30, 31), 54);
        x.drop(0, true);
        Checks.due("20 at most", x.clean(0), 20);
        Checks.due("counted without those ahead of it", x.has(6), 21);
        Checks.due("row 0 stays dropped", x.row(0, 5), 1);
        Checks.due("the other ones later", x.clean(0), 6);
    }

    /** Three rows far off hide one that is nearly right: it is dropped first, and put back at last. */
    private static void putBacks() {
        StringBuilder t = new StringBuilder("strip s;picture a in s turn 0;");
        int[] at = {0, 0, 0, 130, 100, 100, 100, 100};
        for (int q = 0; q < at.length; q++) {
            t.append("point q").append((char) ('a' + q)).append(";control q").append((char) ('a' + q));
            t.append(" at 100 0 set 1;row a q").append((char) ('a' + q)).append(" at ").append(at[q]).append(" 0 weight 1;");
        }
        long[] limits = {16000000, 9000000, 8999999};
        int[] gone = {3, 3, 4};
        int[] place = {-750, -750, 0};
        for (int k = 0; k < limits.length; k++) {
            PictureBlock x = Checks.made(t.toString(), 26);
            Checks.due("drop", x.drop(7, true), true);
            Checks.due("clean", x.clean(limits[k]), gone[k]);
            Checks.due("row that hid", x.row(3, 5), k == 2 ? 1 : 0);
            Checks.due("row dropped ahead of it", x.row(7, 5), 1);
            Checks.due("place", x.picture(0, 3), place[k]);
            Checks.due("has 6", x.has(6), gone[k] + 1);
        }
    }

    private static void ties() {
        // steps: row values are given in units, times 100; a less b over two points: (100 - 0), (0 - 100 ... )
        PictureBlock x = Checks.made("strip s;picture a in s turn 0;picture b in s turn 0;picture c in s turn 0;"
            + "picture d in s turn 0;point p;point q;point r;row a p at 0 0 weight 1;row a q at 0 0 weight 1;"
            + "row a r at 0 0 weight 1;row b p at 1 0 weight 1;row b q at 0 0 weight 1;row b r at 0 0 weight 1;"
            + "row c r at 0 3 weight 1;", 15);
        Checks.due("points", x.tie(0, 1, 0), 3);
        Checks.due("floor below 0", x.tie(0, 1, 1), -34);
        Checks.due("floor above 0", x.tie(1, 0, 1), 33);
        Checks.due("along", x.tie(2, 0, 2), 300);
        Checks.due("no points", x.tie(0, 3, 0), 0);
        Checks.due("no step", x.tie(0, 3, 1), NOTHING);
        Checks.due("loop", x.loop(0, 1, 2, 0), -34);
        Checks.due("loop back", x.loop(2, 1, 0, 0), 33);
        Checks.due("loop along", x.loop(0, 1, 2, 1), 0);
        Checks.due("no loop", x.loop(0, 1, 3, 0), NOTHING);
        Checks.due("like ones", x.loop(0, 1, 0, 0), NOTHING);
        Checks.due("like ones", x.loop(0, 0, 1, 0), NOTHING);
        Checks.due("like ones", x.loop(0, 1, 1, 0), NOTHING);
        Checks.due("none such", x.loop(0, 1, 4, 0), NOTHING);
        Checks.due("none such", x.loop(-1, 1, 2, 0), NOTHING);
        Checks.due("no axis", x.loop(0, 1, 2, 2), NOTHING);
        Checks.due("no axis", x.loop(0, 1, 2, -1), NOTHING);
        Checks.due("gap", x.gap(0), 102);
        Checks.due("gap size", x.gap(1), 34);
        Checks.due("gap of others", x.gap(2), NONE);
        x.drop(6, true);
        Checks.due("no gap", x.gap(0), NONE);
        Checks.due("no gap size", x.gap(1), NONE);
        Checks.due("loop without a row", x.loop(0, 1, 2, 0), NOTHING);
    }

    private static void trees() {
        // a b c d all have p; b d have q too: the tree is 1-3, then 0-1, 0-2
        PictureBlock x = Checks.made("strip s;picture a in s turn 0;picture b in s turn 0;picture c in s turn 0;"
            + "picture d in s turn 0;picture e in s turn 0;point p;point q;row a p at 0 0 weight 1;row b p at 0 0 weight 1;"
            + "row c p at 0 0 weight 1;row d p at 0 0 weight 1;row b q at 0 0 weight 1;row d q at 0 0 weight 1;", 14);
        Checks.due("how many", x.tree(-1), 3);
        Checks.due("strongest", x.tree(0), 103);
        Checks.due("then", x.tree(1), 1);
        Checks.due("then", x.tree(2), 2);
        Checks.due("behind", x.tree(3), NONE);
        Checks.due("below", x.tree(-2), NONE);
        Checks.due("plan 1", x.plan(1), 4);
        Checks.due("plan 2", x.plan(2), 6);
        Checks.due("plan 20", x.plan(20), 6);
        Checks.due("plan 0", x.plan(0), NONE);
        Checks.due("plan 21", x.plan(21), NONE);
        x.drop(5, true);
        Checks.due("without a row", x.tree(0), 1);
        Checks.due("plan without it", x.plan(20), 4);
    }

    private static void setsApart() {
        PictureBlock x = Checks.made("strip s;picture a in s turn 0;point p;point q;row a p at 10 10 weight 1;row a q at 20 20 weight 1;"
            + "control p at 30 30 set 1;control q at 45 50 set 2;centre a at 0 0 weight 1;", 9);
        x.rounds(3);
        int[] before = Checks.image(x);
        Checks.due("differ across", x.differ(0, 0), 2000 - 2500);
        Checks.due("differ along", x.differ(0, 1), 2000 - 3000);
        int[] after = Checks.image(x);
        for (int k = 0; k < before.length; k++) Checks.due("all stays", after[k], before[k]);
        Checks.due("both in use", x.has(8), 2);
        Checks.due("sets 1", x.sets(1), 1);
        Checks.due("differ whatever is in use", x.differ(0, 0), -500);
        Checks.due("set 1 still", x.has(7), 1);
    }

    private static void measures() {
        PictureBlock x = Checks.made("strip s;picture a in s turn 0;point p;row a p at 10 10 weight 1;control p at 30 30 set 1;", 5);
        Checks.due("alters 0", x.alters(0, 11, 10, 0), 1);
        Checks.due("alters 99", x.alters(0, 10, 9, 99), 1);
        Checks.due("alters 100", x.alters(0, 11, 9, 100), 0);
        Checks.due("alters below 0", x.alters(0, 11, 10, -1), NONE);
        Checks.due("alters nothing", x.alters(0, 10, 10, 0), 0);
        Checks.due("all stays", x.row(0, 2), 10);
        Checks.due("place stays", x.picture(0, 3), 0);
        int[][] wrong = {{-1, 0}, {0, -1}, {10000, 0}, {0, 10000}};
        for (int[] w : wrong) {
            Checks.due("measure wrong", x.measure(0, w[0], w[1]), false);
            Checks.due("alters wrong", x.alters(0, w[0], w[1], 0), NONE);
        }
        Checks.due("still", x.row(0, 3), 10);
        Checks.due("measure", x.measure(0, 9999, 0), true);
        Checks.due("u", x.row(0, 2), 9999);
        Checks.due("measure", x.measure(0, 0, 9999), true);
        Checks.due("u", x.row(0, 2), 0);
        Checks.due("v", x.row(0, 3), 9999);
        Checks.due("miss", x.row(0, 7), 3000 - 999900);
        x.drop(0, true);
        Checks.due("a dropped one alters nothing", x.alters(0, 500, 500, 0), 0);
        Checks.due("a dropped one is measured", x.measure(0, 5, 6), true);
        Checks.due("its u", x.row(0, 2), 5);
    }

    private static void slipsKept() {
        PictureBlock x = Checks.made("strip s;picture a in s turn 0;point p;row a p at 10 10 weight 1;", 4);
        int[][] wrong = {{0, 1, 1}, {61, 1, 1}, {-1, 1, 1}, {1, -1, 1}, {1, 1000, 1}, {1, 1, -1}};
        for (int[] w : wrong) Checks.due("slips wrong", x.slips(w[0], w[1], w[2]), NONE);
        Checks.due("u still", x.row(0, 2), 10);
        Checks.due("most 0", x.slips(60, 0, 0), 180);
        Checks.due("u still", x.row(0, 2), 10);
        // seed 0: x is 12345, then 1406932606, 654583775: floor of a 64th modulo 7: 21983321 and 10227871
        Checks.due("slip", x.slips(1, 3, 0), 3);
        Checks.due("u slipped", x.row(0, 2), 10 + 21983321 % 7 - 3);
        Checks.due("v slipped", x.row(0, 3), 10 + 10227871 % 7 - 3);
        for (int n = 0; n < 20; n++) {
            Checks.due("slips", x.slips(60, 999, n), 180);
            boolean kept = x.row(0, 2) >= 0 && x.row(0, 2) <= 9999 && x.row(0, 3) >= 0 && x.row(0, 3) <= 9999;
            Checks.due("kept", kept, true);
        }
        Checks.due("slips without rows", Checks.made("point p;", 1).slips(1, 1, 1), NONE);
    }

    private static void images() {
        PictureBlock x = Checks.made(SMALL, 11);
        x.drop(1, true);
        int[] image = Checks.image(x);
        Checks.due("length", image.length, 1 + 2 * 9 + 2 * 8 + 2 * 8 + 3 + 1);
        Checks.due("sets", image[0], 3);
        Checks.due("turn of b", image[10], 1);
        Checks.due("b across", image[13] * 256 + image[14], 1700);
        Checks.due("rows", image[51] * 100 + image[52] * 10 + image[53], 10);
        int[] right = Checks.sealed(image);
        Checks.due("last", image[image.length - 1], right[right.length - 1]);
        x.rounds(1);
        x.measure(0, 77, 78);
        x.drop(1, false);
        x.sets(0);
        Checks.due("octet of the latest", x.octet(0), 3);
        Checks.due("on", Checks.on(x, image), true);
        Checks.due("the tape went", x.end(1), false);
        Checks.due("sets again", x.has(7), 3);
        Checks.due("dropped again", x.row(1, 5), 1);
        Checks.due("measured stays", x.row(0, 2), 77);
        Checks.due("b again", x.picture(1, 3), 1700);
        Checks.due("drift again", x.drift(0, 0), 0);
        int[] far = Checks.withInt(Checks.withInt(image, 2, 100000000), 6, -100000000);
        far = Checks.withInt(Checks.withInt(far, 27, -100000000), 35, 100000000);
        far = Checks.withInt(far, 31, 100000000);
        Checks.due("far on", Checks.on(x, far), true);
        Checks.due("far a", x.picture(0, 3), 100000000);
        Checks.due("far a along", x.picture(0, 4), -100000000);
        Checks.due("far q", x.point(1, 0), -100000000);
        Checks.due("far drift", x.drift(0, 0), 100000000);
        // row 2: miss -200000000 - 300 and 100000000 along; the centre: 1700 - 100000000 - 100
        long across = -200000300L;
        long along = x.point(1, 1) + 100000000L - 400L;
        Checks.due("far doubt", x.doubt(2), across * across + along * along);
    }

    private static void sumGoesRound() {
        StringBuilder t = new StringBuilder("strip s;picture a in s turn 0;");
        for (int q = 0; q < 15; q++) {
            t.append("point q").append((char) ('a' + q)).append(";row a q").append((char) ('a' + q)).append(" at 0 0 weight 9;");
        }
        PictureBlock x = Checks.made(t.toString(), 32);
        int[] image = Checks.image(x);
        for (int k = 0; k < 32; k++) image = Checks.withInt(image, 2 + 4 * k, k < 2 ? -100000000 : 100000000);
        Checks.due("on", Checks.on(x, image), true);
        Checks.due("doubt", x.doubt(14), 720000000000000000L);
        Checks.due("sum goes round", x.sum(), 15 * 720000000000000000L);
        Checks.due("below 0", x.sum() < 0, true);
        Checks.due("rounds", x.rounds(1), 1);
        Checks.due("points at the picture", x.point(3, 0), -100000000);
    }

    private static void imagesRefused() {
        String text = SMALL.replace("turn 1", "turn any");
        PictureBlock x = Checks.made(text, 11);
        int[] image = Checks.image(x);
        x.rounds(1);
        int[] kept = Checks.image(x);
        int last = image.length - 1;
        int[] unsealed = image.clone();
        unsealed[last] = (unsealed[last] + 1) % 241;
        int[] shorter = new int[last];
        System.arraycopy(image, 0, shorter, 0, last);
        int[] longer = new int[last + 2];
        System.arraycopy(image, 0, longer, 0, last);
        int[][] refused = {unsealed, Checks.sealed(shorter), Checks.sealed(longer), new int[0],
            Checks.with(image, 0, 4), Checks.with(image, 0, 255), Checks.with(image, 1, 1),
            Checks.with(image, 10, 4), Checks.withInt(image, 2, 100000001), Checks.withInt(image, 6, -100000001),
            Checks.withInt(image, 27, 100000001), Checks.withInt(image, 31, Integer.MIN_VALUE),
            Checks.withInt(image, 2, -100000001), Checks.withInt(image, 6, 100000001),
            Checks.withInt(image, 27, -100000001), Checks.withInt(image, 31, 100000001),
            Checks.withInt(image, 19, 2999), Checks.withInt(image, 23, 4001),
            Checks.withInt(image, 35, 100000001), Checks.withInt(image, 39, -100000001),
            Checks.withInt(image, 43, 1), Checks.withInt(image, 47, -1),
            Checks.with(image, 51, 2), Checks.with(image, 53, 255)};
        for (int k = 0; k < refused.length; k++) {
            Checks.due("refused " + k, Checks.on(x, refused[k]), false);
            Checks.due("the tape went " + k, x.end(1), false);
            int[] now = Checks.image(x);
            for (int i = 0; i < kept.length; i++) Checks.due("all stays " + k, now[i], kept[i]);
        }
        for (int turn = 0; turn < 4; turn++) {
            Checks.due("any turn", Checks.on(x, Checks.with(image, 10, turn)), true);
            Checks.due("turn", x.picture(1, 1), turn);
        }
        Checks.due("control free without its set", Checks.on(x, Checks.withInt(Checks.with(image, 0, 2), 19, 2999)), true);
        Checks.due("its place", x.point(0, 0), 2999);
    }
}
