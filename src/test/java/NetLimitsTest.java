/** Term III as far as ties, promises 17 to 29: each sentence that names a limit, an edge or a refusal, by itself. */
public final class NetLimitsTest {
    private static final int NONE = PictureBlock.NONE;
    private static final int NOTHING = PictureBlock.NOTHING;
    private static final int[] EXTREMES = {-1, Integer.MIN_VALUE, Integer.MAX_VALUE};
    private static final String FOUR = "strip s;strip t;picture a in s turn 0;picture b in s turn 0;picture c in s turn 0;"
        + "picture d in t turn 0;point p;point q;point r;";

    public static void main(String[] args) {
        byARow();
        byCentres();
        fromOneToTheNext();
        loose();
        canShowByAnotherWay();
        canShowByControl();
        cantShow();
        parts();
        hang();
        blind();
        needs();
        needsOfNoneSuch();
        doubt();
        worst();
        worstWithout();
        drop();
        cleanBelowZero();
        cleanAboveTheLimit();
        cleanFewerThan20();
        clean50Rounds();
        cleanPutsBack();
        cleanPutsBackTheFirst();
        cleanPutsBackSlowly();
        cleanCounts();
        tieSteps();
        tieOfNoneSuch();
        loops();
        loopOfNoneSuch();
        gaps();
        gapLesserAhead();
        gapWithout();
        tree();
        treeOfLikeOnes();
        treeTwice();
        treeOfNoneSuch();
        plan();
        planToldWrong();
        Checks.finish("NetLimitsTest");
    }

    // ---- Term III: what hangs together

    private static void byARow() {
        Checks.sentence("III: HANGS TOGETHER: a PICTURE and a POINT by a ROW in use");
        String text = FOUR + "row a p at 1 1 weight 1;row b p at 1 1 weight 1;row c q at 1 1 weight 1;control p at 1 1 set 1;control q at 1 1 set 1;";
        for (int row = 0; row < 2; row++) {
            PictureBlock x = Checks.told(text);
            Checks.due("by a point", x.hang(0, 1), 1);
            Checks.due("points of control don't hang together", x.hang(0, 2), 0);
            Checks.due("a strip alone doesn't", x.hang(1, 2), 0);
            x.drop(row, true);
            Checks.due("a row dropped", x.hang(0, 1), 0);
            x.drop(row, false);
            Checks.due("put back", x.hang(0, 1), 1);
        }
    }

    private static void byCentres() {
        Checks.sentence("III: PICTURES of a STRIP by their centres");
        PictureBlock x = Checks.told(FOUR + "centre a at 1 1 weight 1;centre b at 1 1 weight 1;centre d at 1 1 weight 1;");
        Checks.due("both", x.hang(0, 1), 1);
        Checks.due("one alone", x.hang(0, 2), 0);
        Checks.due("of another strip", x.hang(0, 3), 0);
        Checks.due("parts", x.parts(), 3);
        Checks.due("all loose", x.picture(0, 6), 1);
    }

    private static void fromOneToTheNext() {
        Checks.sentence("III: and so on from one to the next");
        String text = FOUR + "row a p at 1 1 weight 1;row b p at 1 1 weight 1;centre b at 1 1 weight 1;centre c at 1 1 weight 1;"
            + "row c q at 1 1 weight 1;row d q at 1 1 weight 1;row d r at 1 1 weight 1;control r at 1 1 set 1;";
        PictureBlock x = Checks.told(text);
        Checks.due("a and d", x.hang(0, 3), 1);
        Checks.due("parts", x.parts(), 1);
        for (int p = 0; p < 4; p++) Checks.due("not loose", x.picture(p, 6), 0);
        x.drop(4, true);
        for (int p = 0; p < 4; p++) Checks.due("loose", x.picture(p, 6), 1);
        Checks.due("r not", x.point(2, 5), 0);
        Checks.due("q", x.point(1, 5), 1);
    }

    private static void loose() {
        Checks.sentence("III: LOOSE is what hangs together with no POINT of CONTROL in use");
        PictureBlock x = Checks.told(FOUR + "row a p at 1 1 weight 1;row b q at 1 1 weight 1;control p at 1 1 set 1;control r at 1 1 set 2;");
        int[][] pictures = {{1, 1, 1, 1}, {0, 1, 1, 1}, {1, 1, 1, 1}, {0, 1, 1, 1}};
        int[][] points = {{1, 1, 1}, {0, 1, 1}, {1, 1, 0}, {0, 1, 0}};
        for (int sets = 0; sets < 4; sets++) {
            x.sets(sets);
            for (int p = 0; p < 4; p++) Checks.due("picture " + p + " with sets " + sets, x.picture(p, 6), pictures[sets][p]);
            for (int q = 0; q < 3; q++) Checks.due("point " + q + " with sets " + sets, x.point(q, 5), points[sets][q]);
        }
        x.drop(0, true);
        Checks.due("a without its row", x.picture(0, 6), 1);
        Checks.due("p is control without rows", x.point(0, 5), 0);
    }

    private static void canShowByAnotherWay() {
        Checks.sentence("III: CAN SHOW a miss, if without it its PICTURE and its POINT still hang together");
        PictureBlock x = Checks.told(FOUR + "row a p at 1 1 weight 1;row a q at 1 1 weight 1;row b p at 1 1 weight 1;row b q at 1 1 weight 1;"
            + "row c q at 1 1 weight 1;");
        for (int r = 0; r < 4; r++) Checks.due("round about, though loose", x.row(r, 8), 1);
        Checks.due("no other way", x.row(4, 8), 0);
        x.drop(3, true);
        for (int r = 0; r < 5; r++) Checks.due("no way about left", x.row(r, 8), 0);
        x = Checks.told(FOUR + "row a p at 1 1 weight 1;row b p at 1 1 weight 1;centre a at 1 1 weight 1;centre b at 1 1 weight 1;");
        Checks.due("by centres", x.row(0, 8), 1);
    }

    private static void canShowByControl() {
        Checks.sentence("III: or neither is LOOSE then");
        PictureBlock x = Checks.told(FOUR + "row a p at 1 1 weight 1;row a q at 1 1 weight 1;control p at 1 1 set 1;control q at 1 1 set 2;");
        Checks.due("p", x.row(0, 8), 1);
        Checks.due("q", x.row(1, 8), 1);
        x.sets(1);
        Checks.due("a is loose without row 0", x.row(0, 8), 0);
        Checks.due("q is loose without row 1", x.row(1, 8), 0);
        x.sets(2);
        Checks.due("p is loose without row 0", x.row(0, 8), 0);
        x.sets(0);
        Checks.due("all loose", x.row(0, 8), 0);
    }

    private static void cantShow() {
        Checks.sentence("III: A ROW in use: a dropped one can't");
        PictureBlock x = Checks.told(FOUR + "row a p at 1 1 weight 1;row a q at 1 1 weight 1;row b p at 1 1 weight 1;row b q at 1 1 weight 1;");
        x.drop(0, true);
        Checks.due("dropped", x.row(0, 8), 0);
        Checks.due("blind", x.blind(), 3);
        x.drop(0, false);
        Checks.due("put back", x.row(0, 8), 1);
        Checks.due("blind", x.blind(), 0);
    }

    // ---- promises 17 to 20

    private static void parts() {
        Checks.sentence("17: In how many parts PICTURES hang together");
        Checks.due("no text", new PictureBlock().parts(), 0);
        Checks.due("no pictures", Checks.told("strip s;point p;control p at 1 1 set 1;").parts(), 0);
        Checks.due("one alone", Checks.told("strip s;picture a in s turn 0;point p;").parts(), 1);
        String twelve = "strip s;" + Checks.times(12, "picture p% in s turn 0;");
        Checks.due("twelve apart", Checks.told(twelve).parts(), 12);
        Checks.due("all by centres", Checks.told(twelve + Checks.times(12, "centre p% at 0 0 weight 1;")).parts(), 1);
        Checks.due("all but two by centres", Checks.told(twelve + Checks.times(10, "centre p% at 0 0 weight 1;")).parts(), 3);
    }

    private static void hang() {
        Checks.sentence("18: Whether two PICTURES hang together: 1, 0; NONE when there are none such");
        PictureBlock x = Checks.told(FOUR + "row a p at 1 1 weight 1;row d p at 1 1 weight 1;");
        int[][] due = {{1, 0, 0, 1}, {0, 1, 0, 0}, {0, 0, 1, 0}, {1, 0, 0, 1}};
        for (int a = 0; a < 4; a++) {
            for (int b = 0; b < 4; b++) Checks.due("hang " + a + " " + b, x.hang(a, b), due[a][b]);
            Checks.due("second 4", x.hang(a, 4), NONE);
            Checks.due("first 4", x.hang(4, a), NONE);
            for (int bad : EXTREMES) Checks.due("second " + bad, x.hang(a, bad), NONE);
            for (int bad : EXTREMES) Checks.due("first " + bad, x.hang(bad, a), NONE);
        }
        Checks.due("both 4", x.hang(4, 4), NONE);
        for (int bad : EXTREMES) Checks.due("both " + bad, x.hang(bad, bad), NONE);
        Checks.due("no text", new PictureBlock().hang(0, 0), NONE);
    }

    private static void blind() {
        Checks.sentence("19: How many ROWS in use can show no miss");
        Checks.due("no text", new PictureBlock().blind(), 0);
        Checks.due("no rows", Checks.told(FOUR).blind(), 0);
        PictureBlock x = Checks.told(FOUR + "row a p at 1 1 weight 1;row a q at 1 1 weight 1;row b p at 1 1 weight 1;row b q at 1 1 weight 1;"
            + "row c q at 1 1 weight 1;row d r at 1 1 weight 1;");
        Checks.due("two", x.blind(), 2);
        x.drop(4, true);
        Checks.due("one of them dropped", x.blind(), 1);
        x.drop(0, true);
        Checks.due("all that are left", x.blind(), 4);
        for (int r = 1; r < 6; r++) x.drop(r, true);
        Checks.due("all dropped", x.blind(), 0);
        x.drop(0, false);
        Checks.due("row 0", x.blind(), 1);
        x.drop(0, true);
        x.drop(5, false);
        Checks.due("the last row", x.blind(), 1);
    }

    private static final String HELD = FOUR + "row a p at 1 1 weight 1;row a q at 1 1 weight 1;row b q at 1 1 weight 1;row b r at 1 1 weight 1;"
        + "row c r at 1 1 weight 1;control p at 1 1 set 1;";

    private static void needs() {
        Checks.sentence("20: How many PICTURES that are not LOOSE would be so, were a ROW dropped");
        PictureBlock x = Checks.told(HELD + "row d r at 1 1 weight 1;");
        int[] due = {4, 3, 3, 2, 1, 1};
        for (int r = 0; r < 6; r++) Checks.due("needs " + r, x.needs(r), due[r]);
        Checks.stays("as if dropped", x, y -> y.needs(0));
        x.drop(3, true);
        int[] then = {2, 1, 1, NONE, 0, 0};
        for (int r = 0; r < 6; r++) Checks.due("c and d being loose, needs " + r, x.needs(r), then[r]);
        x.sets(0);
        Checks.due("all loose", x.needs(0), 0);
        // twelve pictures: the point that becomes loose is none of them
        String twelve = "strip s;" + Checks.times(12, "picture p% in s turn 0;") + "point q;point r;control r at 1 1 set 1;";
        x = Checks.told(twelve + "row pa q at 1 1 weight 1;" + Checks.times(12, "row p% r at 1 1 weight 1;"));
        Checks.due("q would be, no picture", x.needs(0), 0);
        Checks.due("a would be, and q", x.needs(1), 1);
        Checks.due("the last picture would be", x.needs(12), 1);
    }

    private static void needsOfNoneSuch() {
        Checks.sentence("20: NONE when there is none such, or it is dropped");
        PictureBlock x = Checks.told(HELD);
        Checks.due("row 5", x.needs(5), NONE);
        for (int bad : EXTREMES) Checks.due("row " + bad, x.needs(bad), NONE);
        x.drop(0, true);
        Checks.due("dropped", x.needs(0), NONE);
        x.drop(0, false);
        Checks.due("put back", x.needs(0), 3);
        Checks.due("no text", new PictureBlock().needs(0), NONE);
    }

    // ---- promises 21 to 24

    private static void doubt() {
        Checks.sentence("21: DOUBT of a ROW, dropped or not; -1 when there is none such");
        PictureBlock x = Checks.told("strip s;picture a in s turn 0;point p;point q;row a p at 3 4 weight 9;row a q at 1 1 weight 1;"
            + "control p at 0 0 set 1;");
        Checks.due("weight times both squares", x.doubt(0), 9 * (90000 + 160000));
        Checks.due("nothing missed", x.doubt(1), 0);
        x.drop(0, true);
        Checks.due("dropped", x.doubt(0), 2250000);
        Checks.due("row 2", x.doubt(2), -1);
        for (int bad : EXTREMES) Checks.due("row " + bad, x.doubt(bad), -1);
        Checks.due("no text", new PictureBlock().doubt(0), -1);
        // above what an int holds: a miss of 999900 both ways by weight 9
        x = Checks.told("strip s;picture a in s turn 0;point p;row a p at 9999 9999 weight 9;control p at 0 0 set 1;");
        Checks.due("most", x.doubt(0), 18L * 999900 * 999900);
    }

    private static final String FAN = "strip s;picture a in s turn 0;picture b in s turn 0;point p;point q;point r;row a p at 0 0 weight 1;"
        + "row a q at 1 0 weight 1;row a r at 0 1 weight 1;control p at 0 0 set 1;control q at 0 0 set 1;control r at 0 0 set 1;";

    private static void worst() {
        Checks.sentence("22: THE WORST: of ROWS in use that CAN SHOW one that with the greatest DOUBT, the first of like ones");
        PictureBlock x = Checks.told(FAN);
        Checks.due("the first of two", x.worst(), 1);
        x.measure(2, 1, 1);
        Checks.due("the greatest", x.worst(), 2);
        x.drop(2, true);
        Checks.due("in use", x.worst(), 1);
        x.drop(1, true);
        Checks.due("none is left that can", x.worst(), NONE);
        x.drop(1, false);
        x.measure(1, 0, 0);
        Checks.due("a doubt of 0, the first of like ones", x.worst(), 0);
        x = Checks.told(FAN + "point z;row b z at 9 9 weight 9;control z at 0 0 set 2;");
        Checks.due("the greatest of all", x.doubt(3) > x.doubt(1), true);
        Checks.due("can show none", x.row(3, 8), 0);
        Checks.due("so another", x.worst(), 1);
        x = Checks.told(FAN.replace("1 0 weight 1", "1 0 weight 2").replace("0 1 weight 1", "0 1 weight 3"));
        Checks.due("by weight", x.worst(), 2);
    }

    private static void worstWithout() {
        Checks.sentence("22: NONE without");
        Checks.due("no text", new PictureBlock().worst(), NONE);
        Checks.due("no rows", Checks.told(FOUR).worst(), NONE);
        Checks.due("none that can", Checks.told(HELD).worst(), NONE);
        PictureBlock x = Checks.told(FAN);
        for (int r = 0; r < 3; r++) x.drop(r, true);
        Checks.due("all dropped", x.worst(), NONE);
        x = Checks.told(FAN);
        x.sets(0);
        Checks.due("control out of use", x.worst(), NONE);
    }

    private static void drop() {
        Checks.sentence("23: A ROW is dropped (or put back): true; false when it is so already, or there is none such");
        PictureBlock x = Checks.told(FAN);
        Checks.refused("put back what is there", x, y -> y.drop(1, false) ? 1 : 0, 0);
        Checks.due("drop", x.drop(1, true), true);
        Checks.refused("again", x, y -> y.drop(1, true) ? 1 : 0, 0);
        Checks.due("dropped", x.row(1, 5), 1);
        Checks.due("that alone", x.has(6), 1);
        Checks.due("put back", x.drop(1, false), true);
        Checks.due("there", x.row(1, 5), 0);
        Checks.due("again", x.drop(1, false), false);
        PictureBlock none = Checks.told(FAN);
        int[] wrong = {3, 59, 60, -1, Integer.MIN_VALUE, Integer.MAX_VALUE};
        for (int row : wrong) {
            Checks.due("drop " + row, none.drop(row, true), false);
            Checks.due("put back " + row, none.drop(row, false), false);
        }
        Checks.same("all stays", Checks.all(none), Checks.all(Checks.told(FAN)));
        Checks.due("no text", new PictureBlock().drop(0, true), false);
    }

    private static void cleanBelowZero() {
        Checks.sentence("24: CLEANED by a limit (0 at least); NONE when the limit is below 0");
        long[] below = {-1, -1000000, Integer.MIN_VALUE, Long.MIN_VALUE};
        for (long limit : below) Checks.refused("clean " + limit, Checks.told(FAN), x -> x.clean(limit), NONE);
        Checks.due("0", Checks.told(FAN).clean(0) > 0, true);
        Checks.due("most", Checks.told(FAN).clean(Long.MAX_VALUE), 0);
        Checks.due("no text", new PictureBlock().clean(0), 0);
        Checks.due("no text", new PictureBlock().clean(-1), NONE);
    }

    /** One picture, rows that put it at these places, all weighing the same, each by control of its own. */
    private static String puts(int... places) {
        StringBuilder t = new StringBuilder("strip s;picture a in s turn 0;");
        for (int k = 0; k < places.length; k++) {
            char letter = (char) ('a' + k);
            t.append("point q").append(letter).append(";control q").append(letter).append(" at 100 0 set 1;");
            t.append("row a q").append(letter).append(" at ").append(100 - places[k]).append(" 0 weight 1;");
        }
        return t.toString();
    }

    private static void cleanAboveTheLimit() {
        Checks.sentence("III: CLEANED: is there a WORST, its DOUBT above the limit: it is dropped; else on");
        // four at 0 and one at 50: they rest at 10, so the one misses by 40, the others by 10
        int[] limits = {16000000, 15999999, 16000001};
        for (int limit : limits) {
            PictureBlock x = Checks.told(puts(0, 0, 0, 0, 50));
            boolean above = limit == 15999999;
            Checks.due("clean by " + limit, x.clean(limit), above ? 1 : 0);
            Checks.due("the row", x.row(4, 5), above ? 1 : 0);
            Checks.due("rounds were made all the same", x.picture(0, 3), above ? 0 : 1000);
        }
        PictureBlock x = Checks.told(puts(7));
        Checks.due("no worst", x.clean(0), 0);
        Checks.due("rounds were made", x.picture(0, 3), 700);
        x = Checks.told(puts(0, 0, 0, 0, 0, 0, 50, 60));
        Checks.due("again and again", x.clean(0), 2);
        Checks.due("one", x.row(6, 5), 1);
        Checks.due("other", x.row(7, 5), 1);
        Checks.due("place", x.picture(0, 3), 0);
    }

    private static void cleanFewerThan20() {
        Checks.sentence("III: and were fewer than 20 dropped");
        StringBuilder t = new StringBuilder("strip s;" + Checks.times(3, "picture p% in s turn 0;") + Checks.times(10, "point q%;")
            + Checks.times(10, "control q% at 9 0 set 1;"));
        for (int p = 0; p < 3; p++) {
            for (int q = 0; q < 10; q++) {
                t.append("row p").append((char) ('a' + p)).append(" q").append((char) ('a' + q)).append(" at ").append(q * q + q / 9 * p);
                t.append(" 0 weight 1;");
            }
        }
        PictureBlock x = Checks.told(t.toString());
        Checks.due("20 at most", x.clean(0), 20);
        Checks.due("dropped", x.has(6), 20);
        Checks.due("there is still a worst", x.worst() >= 0 && x.doubt(x.worst()) > 0, true);
        Checks.due("it rests behind the 20th", x.rounds(500), 0);
        // one row of each picture is left at last, which can show nothing
        Checks.due("the others by another one", x.clean(0), 7);
        Checks.due("none is left", x.worst(), NONE);
        x = Checks.told(t.toString());
        for (int r = 0; r < 30; r += 5) x.drop(r, true);
        Checks.due("six dropped ahead of it don't count", x.clean(0), 20);
        Checks.due("dropped", x.has(6), 26);
    }

    /** What the document says of cleaning, by the other calls; no row was dropped ahead of it. */
    private static int cleanByCalls(PictureBlock x, long limit) {
        x.rounds(50);
        int dropped = 0;
        for (int worst = x.worst(); worst >= 0 && x.doubt(worst) > limit && dropped < 20; worst = x.worst()) {
            x.drop(worst, true);
            dropped++;
            x.rounds(50);
        }
        boolean[] back = new boolean[x.has(3)];
        int many = 0;
        for (int r = 0; r < back.length; r++) {
            back[r] = x.row(r, 5) == 1 && x.doubt(r) <= limit;
            if (back[r]) many++;
        }
        for (int r = 0; r < back.length; r++) {
            if (back[r]) x.drop(r, false);
        }
        if (many > 0) x.rounds(50);
        return dropped - many;
    }

    private static void clean50Rounds() {
        Checks.sentence("III: ROUNDS till they REST (50 at most)");
        PictureBlock x = Checks.told(PlaceLimitsTest.chain());
        PictureBlock y = Checks.told(PlaceLimitsTest.chain());
        Checks.due("nothing dropped", x.clean(Long.MAX_VALUE), 0);
        Checks.due("50", y.rounds(50), 50);
        Checks.same("as behind 50", Checks.all(x), Checks.all(y));
        Checks.due("it doesn't rest there", y.rounds(1), 1);
        long[] limits = {0, 10000000, 1000000000, 30000000000L};
        for (long limit : limits) {
            x = Checks.told(PlaceLimitsTest.chain());
            y = Checks.told(PlaceLimitsTest.chain());
            Checks.due("clean by " + limit, x.clean(limit), cleanByCalls(y, limit));
            Checks.same("as by calls", Checks.all(x), Checks.all(y));
        }
    }

    /** Four at 100 hide two that are nearly right: the two go first, then the four; at last the place is 0. */
    private static final int[] HIDING = {100, 100, 100, 100, -32, -34, 0, 0, 0, 0};

    private static void cleanPutsBack() {
        Checks.sentence("III: those dropped here whose DOUBT (by places as they are) is not above the limit are put back, all at once");
        int[] limits = {11560000, 11559999, 10240000, 10239999};
        int[] net = {4, 5, 5, 6};
        int[] place = {-1100, -640, -640, 0};
        for (int k = 0; k < limits.length; k++) {
            PictureBlock x = Checks.told(puts(HIDING));
            Checks.due("clean by " + limits[k], x.clean(limits[k]), net[k]);
            Checks.due("has 6", x.has(6), net[k]);
            Checks.due("row 4", x.row(4, 5), net[k] == 6 ? 1 : 0);
            Checks.due("row 5", x.row(5, 5), net[k] >= 5 ? 1 : 0);
            for (int r = 0; r < 4; r++) Checks.due("row far off", x.row(r, 5), 1);
            Checks.due("if there were any, rounds till they rest", x.picture(0, 3), place[k]);
            Checks.due("at rest", x.rounds(500), 0);
        }
    }

    private static void cleanPutsBackTheFirst() {
        Checks.sentence("III: those dropped here: the first ROW and the last one");
        // the one that hides is right at last, wherever it stands
        int[][] places = {{-34, -32, 100, 100, 100, 100, 0, 0, 0, 0}, {100, 100, 100, 100, 0, 0, 0, 0, -32, -34}};
        int[] first = {0, 9};
        for (int k = 0; k < 2; k++) {
            PictureBlock x = Checks.told(puts(places[k]));
            Checks.due("clean", x.clean(11560000), 4);
            Checks.due("put back", x.row(first[k], 5), 0);
            Checks.due("place", x.picture(0, 3), -1100);
        }
        Checks.sentence("III: those dropped here: not by another one ahead of it");
        PictureBlock x = Checks.told(puts(HIDING));
        Checks.due("by 0", x.clean(10239999), 6);
        Checks.due("by more", x.clean(20000000), 0);
        Checks.due("row 4 stays dropped", x.row(4, 5), 1);
        Checks.due("has 6", x.has(6), 6);
    }

    private static void cleanPutsBackSlowly() {
        Checks.sentence("III: and, if there were any, ROUNDS till they REST (50 at most)");
        // a row of pictures that hangs on the first one comes after it slowly
        StringBuilder t = new StringBuilder(puts(HIDING));
        for (char next = 'b'; next < 'k'; next++) {
            t.append("picture ").append(next).append(" in s turn 0;point r").append(next).append(";row ").append((char) (next - 1));
            t.append(" r").append(next).append(" at 0 0 weight 1;row ").append(next).append(" r").append(next).append(" at 0 0 weight 1;");
        }
        int[] limits = {20000000, 11560000, 5000000};
        int[] net = {4, 5, 6};
        for (int k = 0; k < limits.length; k++) {
            PictureBlock x = Checks.told(t.toString());
            PictureBlock y = Checks.told(t.toString());
            Checks.due("clean by " + limits[k], x.clean(limits[k]), net[k]);
            Checks.due("by calls", cleanByCalls(y, limits[k]), net[k]);
            Checks.same("as by calls", Checks.all(x), Checks.all(y));
            Checks.due("it doesn't rest there", x.rounds(1), 1);
        }
    }

    private static void cleanCounts() {
        Checks.sentence("24: how many are dropped behind that that were not ahead of it");
        PictureBlock x = Checks.told(puts(HIDING));
        // one that would be put back, were it dropped here, and one that is far off
        x.drop(9, true);
        x.drop(0, true);
        Checks.due("clean", x.clean(20000000), 3);
        Checks.due("row 9 stays dropped", x.row(9, 5), 1);
        Checks.due("row 0 stays dropped", x.row(0, 5), 1);
        Checks.due("has 6", x.has(6), 5);
        Checks.due("again", x.clean(20000000), 0);
        Checks.due("has 6", x.has(6), 5);
    }

    // ---- promises 25 to 29

    private static void tieSteps() {
        Checks.sentence("III: its step: floor of the mean, over these POINTS, of what is TURNED in the first one less what is in the second one");
        PictureBlock x = Checks.told(FOUR.replace("picture d in t turn 0", "picture d in t turn 1") + "row a p at 0 0 weight 1;"
            + "row a q at 0 0 weight 2;row a r at 0 0 weight 3;row b p at 1 0 weight 4;row b q at 0 0 weight 5;row b r at 0 2 weight 6;"
            + "row d r at 3 1 weight 1;");
        Checks.due("points", x.tie(0, 1, 0), 3);
        Checks.due("points", x.tie(1, 0, 0), 3);
        Checks.due("-100 / 3", x.tie(0, 1, 1), -34);
        Checks.due("-200 / 3", x.tie(0, 1, 2), -67);
        Checks.due("100 / 3", x.tie(1, 0, 1), 33);
        Checks.due("200 / 3", x.tie(1, 0, 2), 66);
        Checks.due("turned across", x.tie(0, 3, 1), 100);
        Checks.due("turned along", x.tie(0, 3, 2), -300);
        x.drop(3, true);
        Checks.due("by ROWS in use", x.tie(0, 1, 0), 2);
        Checks.due("by ROWS in use", x.tie(0, 1, 1), 0);
        Checks.due("by ROWS in use", x.tie(0, 1, 2), -100);
    }

    private static void tieOfNoneSuch() {
        Checks.sentence("25: NOTHING when there are none such, for others, or a step without POINTS");
        PictureBlock x = Checks.told(FOUR + "row a p at 0 0 weight 1;row b p at 1 1 weight 1;row c q at 1 1 weight 1;");
        Checks.due("without points: how many", x.tie(0, 2, 0), 0);
        Checks.due("step", x.tie(0, 2, 1), NOTHING);
        Checks.due("step", x.tie(0, 2, 2), NOTHING);
        Checks.due("without rows: how many", x.tie(3, 0, 0), 0);
        Checks.due("step", x.tie(3, 0, 1), NOTHING);
        for (int what = 0; what < 3; what++) {
            for (int p = 0; p < 4; p++) {
                Checks.due("like ones", x.tie(p, p, what), NOTHING);
                Checks.due("second 4", x.tie(p, 4, what), NOTHING);
                Checks.due("first 4", x.tie(4, p, what), NOTHING);
                for (int bad : EXTREMES) Checks.due("second " + bad, x.tie(p, bad, what), NOTHING);
                for (int bad : EXTREMES) Checks.due("first " + bad, x.tie(bad, p, what), NOTHING);
            }
        }
        int[] others = {3, -1, Integer.MIN_VALUE, Integer.MAX_VALUE};
        for (int what : others) {
            Checks.due("what " + what, x.tie(0, 1, what), NOTHING);
            Checks.due("what " + what, x.tie(0, 2, what), NOTHING);
        }
        x.drop(0, true);
        Checks.due("its row dropped: how many", x.tie(0, 1, 0), 0);
        Checks.due("step", x.tie(0, 1, 1), NOTHING);
        Checks.due("no text", new PictureBlock().tie(0, 1, 0), NOTHING);
    }

    /** Four pictures, each two of which have one point, all at 1 1 but for c in the point with d. */
    private static String sixTies(String cWithD) {
        return "strip s;" + Checks.times(4, "picture % in s turn 0;") + Checks.times(6, "point q%;")
            + "row a qa at 1 1 weight 1;row b qa at 1 1 weight 1;row a qb at 1 1 weight 1;row c qb at 1 1 weight 1;"
            + "row a qc at 1 1 weight 1;row d qc at 1 1 weight 1;row b qd at 1 1 weight 1;row c qd at 1 1 weight 1;"
            + "row b qe at 1 1 weight 1;row d qe at 1 1 weight 1;row c qf at " + cWithD + " weight 1;row d qf at 1 1 weight 1;";
    }

    private static void loops() {
        Checks.sentence("26: A LOOP of three unlike PICTURES, across (0) or along (1)");
        PictureBlock x = Checks.told(sixTies("6 8"));
        int[][] due = {{0, 1, 2, 0, 0}, {0, 1, 3, 0, 0}, {0, 2, 3, 500, 700}, {2, 3, 0, 500, 700}, {3, 2, 0, -500, -700}, {1, 2, 3, 500, 700}};
        for (int[] d : due) {
            Checks.due("across", x.loop(d[0], d[1], d[2], 0), d[3]);
            Checks.due("along", x.loop(d[0], d[1], d[2], 1), d[4]);
        }
        // the steps are taken the way about, each with its own floor
        x = Checks.told("strip s;" + Checks.times(3, "picture % in s turn 0;") + "point p;point q;" + Checks.times(3, "row % p at 0 0 weight 1;")
            + "row a q at 0 0 weight 1;row b q at 0 0 weight 1;row c q at 0 0 weight 1;point r;row a r at 0 0 weight 1;row b r at 1 0 weight 1;");
        Checks.due("about", x.loop(0, 1, 2, 0), -34);
        Checks.due("back", x.loop(2, 1, 0, 0), 33);
    }

    private static void loopOfNoneSuch() {
        Checks.sentence("26: NOTHING when two have no TIE, or there are none such");
        PictureBlock x = Checks.told(sixTies("6 8"));
        for (int axis = 0; axis < 2; axis++) {
            Checks.due("first and second alike", x.loop(1, 1, 2, axis), NOTHING);
            Checks.due("second and third alike", x.loop(1, 2, 2, axis), NOTHING);
            Checks.due("third and first alike", x.loop(2, 1, 2, axis), NOTHING);
            Checks.due("all alike", x.loop(2, 2, 2, axis), NOTHING);
            int[] none = {4, -1, Integer.MIN_VALUE, Integer.MAX_VALUE};
            for (int bad : none) {
                Checks.due("first " + bad, x.loop(bad, 1, 2, axis), NOTHING);
                Checks.due("second " + bad, x.loop(1, bad, 2, axis), NOTHING);
                Checks.due("third " + bad, x.loop(1, 2, bad, axis), NOTHING);
            }
        }
        int[] axes = {2, 3, -1, Integer.MIN_VALUE, Integer.MAX_VALUE};
        for (int axis : axes) Checks.due("axis " + axis, x.loop(0, 1, 2, axis), NOTHING);
        // a and b are tied by rows 0 and 1 alone; whichever is dropped, no loop has both
        for (int row = 0; row < 2; row++) {
            x = Checks.told(sixTies("6 8"));
            x.drop(row, true);
            Checks.due("first and second", x.loop(0, 1, 2, 0), NOTHING);
            Checks.due("second and third", x.loop(2, 0, 1, 0), NOTHING);
            Checks.due("third and first", x.loop(1, 2, 0, 0), NOTHING);
            Checks.due("another one", x.loop(0, 2, 3, 0), 500);
        }
        Checks.due("no text", new PictureBlock().loop(0, 1, 2, 0), NOTHING);
    }

    private static void gaps() {
        Checks.sentence("27: The three PICTURES (the lesser ahead) whose LOOP (across and along, without signs, together) is greatest, "
            + "the first of like ones: 10000, 100, 1 times their numbers (what 0), that (1)");
        String[] places = {"1 1", "6 1", "1 7", "0 1", "1 0", "6 7", "0 9"};
        int[] which = {102, 203, 203, 203, 203, 203, 203};
        int[] size = {0, 500, 600, 100, 100, 1100, 900};
        for (int k = 0; k < places.length; k++) {
            PictureBlock x = Checks.told(sixTies(places[k]));
            Checks.due("what 0 of " + places[k], x.gap(0), which[k]);
            Checks.due("what 1 of " + places[k], x.gap(1), size[k]);
        }
        PictureBlock x = Checks.told(sixTies("6 7"));
        x.drop(2, true);
        Checks.due("a and c without a tie", x.gap(0), 10203);
        Checks.due("as great", x.gap(1), 1100);
        String last = "strip s;" + Checks.times(12, "picture p% in s turn 0;") + "point q;row pl q at 0 0 weight 1;row pk q at 7 0 weight 1;"
            + "row pj q at 3 0 weight 1;";
        x = Checks.told(last);
        Checks.due("the last three", x.gap(0), 91011);
        Checks.due("no gap", x.gap(1), 0);
    }

    private static void gapLesserAhead() {
        Checks.sentence("27: (the lesser ahead): the LOOP is taken that way about");
        // a b c make 33 by floors, the other way about -34
        PictureBlock x = Checks.told("strip s;" + Checks.times(3, "picture % in s turn 0;") + "point p;point q;point r;"
            + "row a p at 1 0 weight 1;row b p at 0 0 weight 1;row a q at 0 0 weight 1;row b q at 0 0 weight 1;row a r at 0 0 weight 1;"
            + "row b r at 0 0 weight 1;row c r at 0 0 weight 1;");
        Checks.due("this way", x.loop(0, 1, 2, 0), 33);
        Checks.due("that way", x.loop(0, 2, 1, 0), -34);
        Checks.due("which", x.gap(0), 102);
        Checks.due("how much", x.gap(1), 33);
    }

    private static void gapWithout() {
        Checks.sentence("27: NONE without any LOOP, or for others");
        PictureBlock x = Checks.told(FOUR + "row a p at 0 0 weight 1;row b p at 1 1 weight 1;row b q at 1 1 weight 1;row c q at 1 1 weight 1;");
        Checks.due("which", x.gap(0), NONE);
        Checks.due("how much", x.gap(1), NONE);
        Checks.due("no text", new PictureBlock().gap(0), NONE);
        Checks.due("no text", new PictureBlock().gap(1), NONE);
        x = Checks.told(sixTies("6 7"));
        int[] others = {2, 3, -1, Integer.MIN_VALUE, Integer.MAX_VALUE};
        for (int what : others) Checks.due("what " + what, x.gap(what), NONE);
        Checks.due("there was one", x.gap(1), 1100);
        x.drop(10, true);
        x.drop(0, true);
        Checks.due("there is none any more", x.gap(0), NONE);
        Checks.due("nor how much", x.gap(1), NONE);
    }

    private static void tree() {
        Checks.sentence("III: THE TREE: again and again the strongest TIE (of most POINTS) of two PICTURES that THE TREE does not join yet");
        // c and d have three points, b and d two, b and c two, a and c one, a and b one
        PictureBlock x = Checks.told("strip s;" + Checks.times(4, "picture % in s turn 0;") + Checks.times(4, "point q%;")
            + Checks.times(3, "row c q% at 0 0 weight 1;") + Checks.times(3, "row d q% at 0 0 weight 1;")
            + "row b qa at 0 0 weight 1;row b qb at 0 0 weight 1;row a qd at 0 0 weight 1;row c qd at 0 0 weight 1;row b qd at 0 0 weight 1;");
        Checks.due("b and c", x.tie(1, 2, 0), 3);
        int[] due = {102, 203, 1};
        Checks.due("how many", x.tree(NONE), 3);
        for (int k = 0; k < 3; k++) Checks.due("tie " + k, x.tree(k), due[k]);
        x.drop(10, true);
        int[] then = {203, 102, 2};
        for (int k = 0; k < 3; k++) Checks.due("tie " + k, x.tree(k), then[k]);
        x.drop(8, true);
        Checks.due("a hangs by its row no more", x.tree(NONE), 2);
        Checks.due("a tie has points", x.tree(2), NONE);
    }

    private static void treeOfLikeOnes() {
        Checks.sentence("III: of like ones the least first PICTURE, then second one; the first one is the lesser by number");
        String twelve = "strip s;" + Checks.times(12, "picture p% in s turn 0;") + "point q;point r;";
        PictureBlock x = Checks.told(twelve + Checks.times(12, "row p% q at 0 0 weight 1;"));
        Checks.due("all alike", x.tree(NONE), 11);
        for (int k = 0; k < 11; k++) Checks.due("tie " + k, x.tree(k), k + 1);
        Checks.due("behind", x.tree(11), NONE);
        x = Checks.told(twelve + "row pl q at 0 0 weight 1;row pk q at 0 0 weight 1;row pd r at 0 0 weight 1;row pc r at 0 0 weight 1;");
        Checks.due("two apart", x.tree(NONE), 2);
        Checks.due("least first", x.tree(0), 203);
        Checks.due("the last two", x.tree(1), 1011);
        x = Checks.told(twelve + Checks.times(2, "row p% q at 0 0 weight 1;") + "row pc q at 0 0 weight 1;row pb r at 0 0 weight 1;row pc r at 0 0 weight 1;");
        Checks.due("strongest", x.tree(0), 102);
        Checks.due("least second", x.tree(1), 1);
        Checks.due("b and c are joined by now, a and c too", x.tree(2), NONE);
    }

    private static void treeTwice() {
        Checks.sentence("III: two PICTURES that THE TREE does not join yet: whichever way they are joined");
        // a and d by four points, b and d by three, a and b by two: that joins none any more
        PictureBlock x = Checks.told("strip s;" + Checks.times(4, "picture % in s turn 0;") + Checks.times(5, "point q%;")
            + Checks.times(3, "row a q% at 0 0 weight 1;") + Checks.times(5, "row d q% at 0 0 weight 1;")
            + "row b qd at 0 0 weight 1;row b qe at 0 0 weight 1;row b qa at 0 0 weight 1;row a qe at 0 0 weight 1;row c qe at 0 0 weight 1;");
        for (int twice = 0; twice < 2; twice++) {
            Checks.due("how many", x.tree(NONE), 3);
            Checks.due("a and d", x.tree(0), 3);
            Checks.due("b and d", x.tree(1), 103);
            Checks.due("a and c", x.tree(2), 2);
            Checks.due("plan", x.plan(20), 4 + 5 + 3 + 1);
        }
    }

    private static void treeOfNoneSuch() {
        Checks.sentence("28: the k-th TIE, 100 times its first PICTURE and the second one (k NONE: how many); NONE when there is none such");
        PictureBlock x = Checks.told(FOUR + "row a p at 0 0 weight 1;row b p at 1 1 weight 1;row b q at 1 1 weight 1;row c q at 1 1 weight 1;");
        Checks.due("how many", x.tree(NONE), 2);
        Checks.due("first", x.tree(0), 1);
        Checks.due("second", x.tree(1), 102);
        int[] wrong = {2, 3, 11, 12, -2, Integer.MIN_VALUE, Integer.MAX_VALUE};
        for (int k : wrong) Checks.due("tie " + k, x.tree(k), NONE);
        Checks.due("no ties: how many", Checks.told(FOUR).tree(NONE), 0);
        Checks.due("no ties", Checks.told(FOUR).tree(0), NONE);
        Checks.due("no text: how many", new PictureBlock().tree(NONE), 0);
        Checks.due("no text", new PictureBlock().tree(0), NONE);
    }

    private static void plan() {
        Checks.sentence("III: THE PLAN of n: ROWS of the first n POINTS (by numbers) that both PICTURES of each TIE of THE TREE have: each counted once");
        // a and b have points 0 and 2, a and c points 2 and 3; point 2 has the least rows
        PictureBlock x = Checks.told("strip s;" + Checks.times(3, "picture % in s turn 0;") + Checks.times(4, "point q%;")
            + Checks.times(3, "row % qc at 0 0 weight 1;") + "row a qd at 0 0 weight 1;row c qd at 0 0 weight 1;row a qa at 0 0 weight 1;"
            + "row b qa at 0 0 weight 1;row b qb at 0 0 weight 1;");
        Checks.due("a and b", x.tree(0), 1);
        Checks.due("a and c", x.tree(1), 2);
        Checks.due("by one: points 0 and 2", x.plan(1), 4);
        Checks.due("by two: row 0 once", x.plan(2), 7);
        Checks.due("by more", x.plan(3), 7);
        Checks.due("by all", x.plan(20), 7);
        x.drop(5, true);
        Checks.due("a and c are the strongest", x.tree(0), 2);
        Checks.due("point 2 alone of both", x.plan(1), 3);
        Checks.due("by two", x.plan(2), 5);
    }

    private static void planToldWrong() {
        Checks.sentence("29: THE PLAN of n (1 .. 20): how many ROWS; NONE for others");
        String text = "strip s;picture a in s turn 0;picture b in s turn 0;" + Checks.times(20, "point q%;")
            + Checks.times(20, "row a q% at 0 0 weight 1;") + Checks.times(20, "row b q% at 0 0 weight 1;");
        PictureBlock x = Checks.told(text);
        for (int n = 1; n <= 20; n++) Checks.due("plan " + n, x.plan(n), 2 * n);
        int[] wrong = {0, 21, -1, 100, Integer.MIN_VALUE, Integer.MAX_VALUE};
        for (int n : wrong) Checks.due("plan " + n, x.plan(n), NONE);
        Checks.due("no ties", Checks.told(FOUR).plan(1), 0);
        Checks.due("no text", new PictureBlock().plan(20), 0);
        Checks.due("no text", new PictureBlock().plan(21), NONE);
    }
}
