/** Term II, promises 8 to 16: each sentence that names a limit, an edge or a refusal, by itself. */
public final class PlaceLimitsTest {
    private static final int NONE = PictureBlock.NONE;
    private static final int NOTHING = PictureBlock.NOTHING;
    private static final int[] EXTREMES = {-1, Integer.MIN_VALUE, Integer.MAX_VALUE};
    /** At the start b stands at 1700 1500 and q at 300 400. */
    private static final String SMALL = "strip s;strip t;picture a in s turn 0;picture b in s turn 1;point p;point q;"
        + "row a p at 10 20 weight 1;row b p at 5 7 weight 2;row a q at 3 4 weight 1;"
        + "control p at 30 40 set 1;centre b at 1 2 weight 3;";
    private static final String TWO = "strip s;picture a in s turn 0;picture b in s turn any;point p;point q;";

    public static void main(String[] args) {
        turned();
        setsAtFirst();
        control();
        anyIsZero();
        pictureZero();
        theFirstPicture();
        onePoint();
        twoPoints();
        rowsInUse();
        lastRow();
        leastRow();
        leastUnlike();
        likeTurns();
        noneSuch();
        pointsAtLast();
        sumOfRowsInUse();
        drifts();
        orderOfARound();
        likeNumbersOfPoints();
        likeNumbersOfPictures();
        likeNumbersOfDrifts();
        nothingInUse();
        rest();
        wholePlaces();
        wholeOfAll();
        cantBe();
        cantBeByThePrime();
        picturesTold();
        pointsTold();
        rowsTold();
        driftsTold();
        starts();
        roundsToldWrong();
        roundsThatAlterOneThing();
        roundsMade();
        sumGoesRound();
        wholeOfNoneSuch();
        wholeOfControl();
        setsToldWrong();
        setsInUse();
        Checks.finish("PlaceLimitsTest");
    }

    private static void at(String what, PictureBlock x, int picture, int across, int along) {
        Checks.due(what + " across", x.picture(picture, 3), across);
        Checks.due(what + " along", x.picture(picture, 4), along);
    }

    private static void pointAt(String what, PictureBlock x, int point, int across, int along) {
        Checks.due(what + " across", x.point(point, 0), across);
        Checks.due(what + " along", x.point(point, 1), along);
    }

    // ---- Term II: a start

    private static void turned() {
        Checks.sentence("II: TURNED by its PICTURE's turn: 0: u v; 1: -v u; 2: -u -v; 3: v -u; each times 100");
        int[][] due = {{300, 400}, {-400, 300}, {-300, -400}, {400, -300}};
        int[][] most = {{999900, 0}, {0, 999900}, {-999900, 0}, {0, -999900}};
        for (int turn = 0; turn < 4; turn++) {
            String ahead = "strip s;picture a in s turn " + turn + ";point p;row a p at ";
            pointAt("turn " + turn, Checks.told(ahead + "3 4 weight 1;"), 0, due[turn][0], due[turn][1]);
            pointAt("most by turn " + turn, Checks.told(ahead + "9999 0 weight 1;"), 0, most[turn][0], most[turn][1]);
            pointAt("nothing by turn " + turn, Checks.told(ahead + "0 0 weight 1;"), 0, 0, 0);
        }
    }

    private static void setsAtFirst() {
        Checks.sentence("II: its set being in use (1 and 2 are at first)");
        Checks.due("ahead of any block", new PictureBlock().has(7), 3);
        PictureBlock x = Checks.told("point p;point q;control p at 1 2 set 1;control q at 3 4 set 2;");
        Checks.due("sets", x.has(7), 3);
        Checks.due("p in use", x.point(0, 4), 1);
        Checks.due("q in use", x.point(1, 4), 1);
    }

    private static void control() {
        Checks.sentence("II: A POINT of CONTROL, its set being in use, stands where it is told, times 100");
        String ahead = "strip s;picture a in s turn 0;point p;row a p at 5 5 weight 1;control p at ";
        pointAt("most", Checks.told(ahead + "9999 0 set 1;"), 0, 999900, 0);
        pointAt("least", Checks.told(ahead + "0 9999 set 2;"), 0, 0, 999900);
        PictureBlock x = Checks.told(ahead + "7 8 set 2;");
        x.rounds(500);
        pointAt("behind rounds", x, 0, 700, 800);
        x.start();
        pointAt("behind a start", x, 0, 700, 800);
        x.sets(1);
        x.start();
        pointAt("its set being out of use", x, 0, 500, 500);
    }

    private static void anyIsZero() {
        Checks.sentence("II: A START: all turns told (any is 0 then), all places 0 0");
        PictureBlock x = Checks.told("strip s;picture a in s turn any;picture b in s turn 2;picture c in s turn any;point p;");
        int[] image = Checks.image(x);
        int[] moved = Checks.with(Checks.with(image, 1, 3), 19, 2);
        for (int at = 0; at < 5; at++) moved = Checks.withInt(moved, at < 3 ? 2 + 9 * at : 20 + 4 * at - 8, 100 + at);
        Checks.due("on", Checks.on(x, moved), true);
        Checks.due("turn", x.picture(0, 1), 3);
        Checks.due("place", x.picture(2, 3) != 0, true);
        Checks.due("start", x.start(), 3);
        int[] due = {0, 2, 0};
        for (int p = 0; p < 3; p++) {
            Checks.due("turn", x.picture(p, 1), due[p]);
            at("place", x, p, 0, 0);
        }
        pointAt("point", x, 0, 0, 0);
    }

    private static void pictureZero() {
        Checks.sentence("II: PICTURE 0 is started");
        // picture 0 stays as it is though it is of any turn and shares two points with one that is told
        PictureBlock x = Checks.told("strip s;picture a in s turn any;picture b in s turn 1;point p;point q;row b p at 0 0 weight 1;"
            + "row b q at 5 0 weight 1;row a p at 3 3 weight 1;row a q at 8 3 weight 1;");
        Checks.due("turn of a", x.picture(0, 1), 0);
        at("a", x, 0, 0, 0);
        at("b", x, 1, 300, 300);
        Checks.due("started alone", x.start(), 1);
    }

    private static void theFirstPicture() {
        Checks.sentence("II: Then again and again the first PICTURE that is not, that has a POINT with a started one");
        // a to c, then b by c, then d: by point p of b, not by point z of a
        PictureBlock x = Checks.told("strip s;" + Checks.times(4, "picture % in s turn 0;") + "point p;point q;point r;point z;"
            + "row a r at 1 0 weight 1;row c r at 0 0 weight 1;row c q at 1 0 weight 1;row b q at 0 0 weight 1;row b p at 1 0 weight 1;"
            + "row d p at 0 0 weight 1;row a z at 50 0 weight 1;row d z at 0 0 weight 1;");
        at("c", x, 2, 100, 0);
        at("b", x, 1, 200, 0);
        at("d", x, 3, 300, 0);
        Checks.due("started alone", x.start(), 1);
        // both b and c have a point with a: b is the first, so c stands by point p of b
        x = Checks.told("strip s;" + Checks.times(3, "picture % in s turn 0;") + "point p;point q;point r;"
            + "row c r at 0 0 weight 1;row a r at 50 0 weight 1;row a q at 1 0 weight 1;row b q at 0 0 weight 1;"
            + "row b p at 1 0 weight 1;row c p at 0 0 weight 1;");
        at("b", x, 1, 100, 0);
        at("c", x, 2, 200, 0);
    }

    private static void onePoint() {
        Checks.sentence("II: with turn any two: one is not enough");
        PictureBlock x = Checks.told(TWO + "row a p at 10 0 weight 1;row a q at 0 0 weight 1;row b p at 0 0 weight 1;");
        at("b", x, 1, 0, 0);
        Checks.due("started alone", x.start(), 2);
        x = Checks.told(TWO.replace("any", "3") + "row a p at 10 0 weight 1;row a q at 0 0 weight 1;row b p at 1 0 weight 1;");
        at("b with its turn told", x, 1, 1000, 100);
        Checks.due("started alone", x.start(), 1);
        x = Checks.told(TWO.replace("any", "3") + "row a p at 10 0 weight 1;row b q at 1 0 weight 1;");
        Checks.due("no point with it", x.start(), 2);
    }

    private static void twoPoints() {
        Checks.sentence("II: with turn any two: two are enough");
        PictureBlock x = Checks.told(TWO + "row a p at 10 0 weight 1;row a q at 0 0 weight 1;row b p at 0 0 weight 1;row b q at 10 0 weight 1;");
        Checks.due("turn", x.picture(1, 1), 2);
        at("b", x, 1, 1000, 0);
        Checks.due("started alone", x.start(), 1);
        // the document doesn't say that both are with the same one
        x = Checks.told("strip s;picture a in s turn 0;picture b in s turn any;picture c in s turn 0;point p;point q;point r;"
            + "row a r at 0 0 weight 1;row c r at 0 0 weight 1;row a p at 10 0 weight 1;row c q at 0 0 weight 1;"
            + "row b p at 0 0 weight 1;row b q at 10 0 weight 1;");
        Checks.due("turn by two of two", x.picture(1, 1), 2);
        Checks.due("started alone", x.start(), 1);
    }

    private static void rowsInUse() {
        Checks.sentence("II: by ROWS in use");
        for (int row = 0; row < 2; row++) {
            PictureBlock x = Checks.told("strip s;picture a in s turn 0;picture b in s turn 0;point p;row a p at 5 0 weight 1;"
                + "row b p at 0 0 weight 1;");
            at("b", x, 1, 500, 0);
            x.drop(row, true);
            Checks.due("started alone", x.start(), 2);
            at("b as it is", x, 1, 0, 0);
            x.drop(row, false);
            Checks.due("put back", x.start(), 1);
            at("b again", x, 1, 500, 0);
        }
        for (int row = 0; row < 4; row++) {
            PictureBlock x = Checks.told(TWO + "row a p at 10 0 weight 1;row a q at 0 0 weight 1;row b p at 0 0 weight 1;"
                + "row b q at 10 0 weight 1;");
            x.drop(row, true);
            Checks.due("of two one is left", x.start(), 2);
        }
    }

    private static void lastRow() {
        Checks.sentence("II: that has a POINT with a started one by ROWS in use: the last ROW");
        PictureBlock x = Checks.told("strip s;picture a in s turn 0;picture b in s turn 0;point p;row b p at 1 0 weight 1;row a p at 3 0 weight 1;");
        at("b by a's row, which is the last", x, 1, 200, 0);
        Checks.due("started alone", x.start(), 1);
        x = Checks.told("strip s;picture a in s turn 0;picture b in s turn 0;point p;row a p at 3 0 weight 1;row b p at 1 0 weight 1;");
        at("b by its own row, which is the last", x, 1, 200, 0);
    }

    private static void leastRow() {
        Checks.sentence("II: each such POINT stands for it where the ROW with the least number in a started PICTURE puts it");
        String text = "strip s;" + Checks.times(3, "picture % in s turn 0;") + "point q;point p;row c p at 2 0 weight 1;row b p at 5 0 weight 1;"
            + "row a p at 1 0 weight 1;row a q at 0 0 weight 1;row b q at 0 0 weight 1;";
        PictureBlock x = Checks.told(text);
        at("b by q, the first of these points", x, 1, 0, 0);
        at("c by row 1", x, 2, 300, 0);
        x.drop(1, true);
        x.start();
        at("c by row 2, row 1 not being in use", x, 2, -100, 0);
        x.drop(1, false);
        x.drop(3, true);
        x.start();
        at("b by p", x, 1, -400, 0);
        at("c by p", x, 2, -100, 0);
    }

    private static void leastUnlike() {
        Checks.sentence("II: least unlike their places less the first one's: the sum over POINTS, across and along, of how much (without signs)");
        // by turn 0 one point is 6 off, by turn 2 both are 4 off: 6 is less than 8, though its square is more
        String[] apart = {"6 0 weight 1;", "0 6 weight 1;"};
        PictureBlock x = Checks.told("strip s;picture a in s turn 0;picture b in s turn any;point p;point q;point r;"
            + "row a p at 0 0 weight 1;row a q at 5 0 weight 1;row a r at 2 0 weight 1;row b p at 10 0 weight 1;row b q at 9 0 weight 1;"
            + "row b r at 12 0 weight 1;");
        Checks.due("turn", x.picture(1, 1), 0);
        at("b", x, 1, -1000, 0);
        // one point counts across and along alike
        for (String q : apart) {
            x = Checks.told(TWO + "row a p at 0 0 weight 1;row a q at " + q + "row b p at 0 0 weight 1;row b q at 6 0 weight 1;");
            Checks.due("turn for " + q, x.picture(1, 1), q.startsWith("6") ? 0 : 1);
        }
        for (int turn = 0; turn < 4; turn++) {
            int[][] q = {{17, 15}, {5, 17}, {3, 5}, {15, 3}};
            x = Checks.told(TWO + "row a p at 10 10 weight 1;row a q at " + q[turn][0] + " " + q[turn][1]
                + " weight 1;row b p at 20 20 weight 1;row b q at 27 25 weight 1;");
            Checks.due("turn", x.picture(1, 1), turn);
            int[][] b = {{-1000, -1000}, {3000, -1000}, {3000, 3000}, {-1000, 3000}};
            at("place by the turn found", x, 1, b[turn][0], b[turn][1]);
        }
    }

    private static void likeTurns() {
        Checks.sentence("II: the first of like turns");
        // what is turned lies across and along alike, so two turns are alike each time
        int[][] from = {{0, 0}, {10, 0}, {0, 10}, {0, 0}};
        int[][] to = {{10, 0}, {0, 0}, {0, 0}, {0, 10}};
        int[] due = {0, 1, 2, 0};
        for (int k = 0; k < from.length; k++) {
            PictureBlock x = Checks.told(TWO + "row a p at " + from[k][0] + " " + from[k][1] + " weight 1;row a q at " + to[k][0] + " "
                + to[k][1] + " weight 1;row b p at 50 50 weight 1;row b q at 60 60 weight 1;");
            Checks.due("turn of " + k, x.picture(1, 1), due[k]);
        }
        PictureBlock x = Checks.told(TWO + "row a p at 3 0 weight 1;row a q at 0 9 weight 1;row b p at 7 7 weight 1;row b q at 7 7 weight 1;");
        Checks.due("all alike", x.picture(1, 1), 0);
    }

    private static void noneSuch() {
        Checks.sentence("II: When there is none such, the first PICTURE that is not started is, as it is");
        // b and d stand by themselves, c by b
        PictureBlock x = Checks.told("strip s;picture a in s turn 1;picture b in s turn 2;picture c in s turn 0;picture d in s turn any;"
            + "point p;point q;row c p at 1 0 weight 1;row b p at 2 0 weight 1;row d q at 1 1 weight 1;row a q at 1 1 weight 1;");
        Checks.due("started alone", x.start(), 3);
        int[] turn = {1, 2, 0, 0};
        int[] across = {0, 0, -300, 0};
        for (int p = 0; p < 4; p++) {
            Checks.due("turn", x.picture(p, 1), turn[p]);
            at("place", x, p, across[p], 0);
        }
    }

    private static void pointsAtLast() {
        Checks.sentence("II: At last each POINT not of CONTROL in use stands where its ROW in use with the least number puts it (0 0 without)");
        PictureBlock x = Checks.told(TWO + "row b p at 7 8 weight 1;row a p at 1 2 weight 9;control q at 3 3 set 1;row a q at 9 9 weight 1;");
        pointAt("by row 0", x, 0, 700, 800);
        x.drop(0, true);
        x.start();
        pointAt("by row 1", x, 0, 100, 200);
        x.drop(1, true);
        x.start();
        pointAt("without", x, 0, 0, 0);
        pointAt("control in use", x, 1, 300, 300);
        x.sets(2);
        x.start();
        pointAt("control not in use", x, 1, 900, 900);
        x.drop(2, true);
        x.start();
        pointAt("control not in use, without", x, 1, 0, 0);
    }

    // ---- Term II: the sum, rounds

    private static void sumOfRowsInUse() {
        Checks.sentence("II: THE SUM: over ROWS in use weight times the squares of MISSES; over centres");
        PictureBlock x = Checks.told(SMALL);
        Checks.due("all", x.sum(), 8000000 + 16000000 + 0 + 3 * (1600 * 1600 + 1300 * 1300));
        x.drop(0, true);
        Checks.due("without row 0", x.sum(), 28750000);
        x.drop(1, true);
        Checks.due("centre alone", x.sum(), 12750000);
        x = Checks.told("strip s;picture a in s turn 0;picture b in s turn 0;centre a at 1 0 weight 2;centre b at 0 2 weight 1;");
        Checks.due("centres alone", x.sum(), 20000 + 40000);
        Checks.due("nothing", Checks.told("strip s;picture a in s turn 0;point p;").sum(), 0);
        Checks.due("no text", new PictureBlock().sum(), 0);
    }

    private static void drifts() {
        Checks.sentence("II: A DRIFT has each STRIP of which a PICTURE has a centre; 0 at first");
        PictureBlock x = Checks.told("strip s;strip t;strip u;picture a in s turn 0;picture b in t turn 0;picture c in t turn 0;"
            + "centre c at 9 8 weight 1;");
        int[] due = {NOTHING, 0, NOTHING};
        for (int s = 0; s < 3; s++) {
            Checks.due("across", x.drift(s, 0), due[s]);
            Checks.due("along", x.drift(s, 1), due[s]);
        }
        Checks.due("rounds", x.rounds(1), 1);
        Checks.due("c drifts along with its strip", x.picture(2, 3), 900);
        Checks.due("b doesn't", x.picture(1, 3), 0);
    }

    private static void orderOfARound() {
        Checks.sentence("II: A ROUND: each POINT not of CONTROL in use, by numbers, then each PICTURE, then each DRIFT");
        // p by a at 0: 0 (from 900); a half way from there to where control holds it: 500; the drift by a: 500
        PictureBlock x = Checks.told("strip s;picture a in s turn 0;point p;point q;row a p at 0 0 weight 1;row a q at 0 0 weight 1;"
            + "control q at 15 0 set 1;centre a at 0 0 weight 1;");
        int[] image = Checks.withInt(Checks.image(x), 10, 900);
        Checks.due("on", Checks.on(x, image), true);
        Checks.due("round", x.rounds(1), 1);
        Checks.due("p ahead of a", x.point(0, 0), 0);
        Checks.due("a behind p", x.picture(0, 3), 500);
        Checks.due("drift behind a", x.drift(0, 0), 500);
        Checks.due("round", x.rounds(1), 1);
        Checks.due("p then", x.point(0, 0), 500);
        Checks.due("a then", x.picture(0, 3), (500 + 1500 + 500 + 1) / 3);
        Checks.due("drift then", x.drift(0, 0), x.picture(0, 3));
    }

    private static void likeNumbersOfPoints() {
        Checks.sentence("II: of two like ones the old one, if it is one, else the lesser: POINTS");
        PictureBlock made = Checks.told("strip s;picture a in s turn 0;picture b in s turn 0;point p;point q;row a p at 0 0 weight 1;"
            + "row b p at 0 0 weight 1;control q at 0 0 set 1;row a q at 0 0 weight 9;row b q at 0 0 weight 9;");
        int[] image = Checks.image(made);
        for (int axis = 0; axis < 2; axis++) {
            for (int side = -1; side <= 1; side += 2) {
                int[] apart = Checks.withInt(image, 11 + 4 * axis, side);
                int low = Math.min(0, side);
                int[] old = {low, low + 1, low + 2, low - 1, low + 1000, low - 1000};
                for (int from : old) {
                    PictureBlock x = Checks.told("strip s;picture a in s turn 0;picture b in s turn 0;point p;point q;"
                        + "row a p at 0 0 weight 1;row b p at 0 0 weight 1;control q at 0 0 set 1;row a q at 0 0 weight 9;"
                        + "row b q at 0 0 weight 9;");
                    Checks.due("on", Checks.on(x, Checks.withInt(apart, 19 + 4 * axis, from)), true);
                    x.rounds(1);
                    Checks.due("half way from " + from, x.point(0, axis), from == low + 1 ? from : low);
                }
            }
        }
    }

    private static void likeNumbersOfPictures() {
        Checks.sentence("II: of two like ones the old one, if it is one, else the lesser: PICTURES");
        String[] ends = {"0 0 set 1;row a q at 0 0 weight 1;control q at 1 0 set 1;", "0 0 set 1;row a q at 1 0 weight 1;control q at 0 0 set 1;"};
        int[] lower = {12, -13};
        for (int k = 0; k < 2; k++) {
            int[] old = {lower[k], lower[k] + 1, lower[k] + 2, lower[k] - 1, 0, 1000, -1000};
            for (int from : old) {
                PictureBlock x = Checks.told("strip s;picture a in s turn 0;point p;point q;row a p at 0 0 weight 7;control p at " + ends[k]);
                Checks.due("on", Checks.on(x, Checks.withInt(Checks.image(x), 2, from)), true);
                Checks.due("altered", x.rounds(1), from == lower[k] || from == lower[k] + 1 ? 0 : 1);
                at("half way from " + from, x, 0, from == lower[k] + 1 ? from : lower[k], 0);
            }
        }
    }

    private static void likeNumbersOfDrifts() {
        Checks.sentence("II: of two like ones the old one, if it is one, else the lesser: DRIFTS");
        // a becomes half of the drift, b a third of it and 100 more; the drift then the mean of a and b less 100
        int[] old = {-56, -58, -228};
        int[] due = {-56, -58, -129};
        for (int axis = 0; axis < 2; axis++) {
            for (int k = 0; k < old.length; k++) {
                PictureBlock x = Checks.told("strip s;picture a in s turn 0;picture b in s turn 0;point p;row a p at 0 0 weight 1;"
                    + "row b p at 0 0 weight 2;control p at 0 0 set 1;centre a at 0 0 weight 1;centre b at "
                    + (axis == 0 ? "1 0" : "0 1") + " weight 1;");
                Checks.due("on", Checks.on(x, Checks.withInt(Checks.image(x), 27 + 4 * axis, old[k])), true);
                x.rounds(1);
                Checks.due("drift from " + old[k], x.drift(0, axis), due[k]);
            }
        }
    }

    private static void nothingInUse() {
        Checks.sentence("II: what has nothing in use stays");
        PictureBlock x = Checks.told("strip s;strip t;picture a in s turn 0;picture b in s turn 0;point p;point q;row a p at 1 1 weight 1;"
            + "row b q at 2 2 weight 1;control q at 50 50 set 1;");
        int[] moved = Checks.withInt(Checks.withInt(Checks.image(x), 2, 4321), 19, -1234);
        Checks.due("on", Checks.on(x, moved), true);
        x.drop(0, true);
        Checks.due("b alone is moved", x.rounds(500), 1);
        at("a stays", x, 0, 4321, 0);
        pointAt("p stays", x, 0, -1234, 100);
        at("b", x, 1, 4800, 4800);
        x.drop(0, false);
        x.rounds(1);
        pointAt("p by its row", x, 0, 4421, 100);
    }

    private static void rest() {
        Checks.sentence("II: They REST when a ROUND alters nothing");
        PictureBlock x = Checks.told("strip s;picture a in s turn 0;picture b in s turn 0;point p;point q;row a p at 0 0 weight 1;"
            + "row b p at 0 0 weight 1;row b q at 0 0 weight 1;control q at 9 9 set 1;");
        int altering = x.rounds(500);
        Checks.due("fewer", altering > 1 && altering < 500, true);
        Checks.stays("at rest", x, y -> Checks.due("rounds", y.rounds(500), 0));
        PictureBlock same = Checks.told("strip s;picture a in s turn 0;picture b in s turn 0;point p;point q;row a p at 0 0 weight 1;"
            + "row b p at 0 0 weight 1;row b q at 0 0 weight 1;control q at 9 9 set 1;");
        for (int k = 0; k < altering; k++) Checks.due("one by one", same.rounds(1), 1);
        Checks.due("then none", same.rounds(1), 0);
        Checks.same("one by one", Checks.all(same), Checks.all(x));
    }

    // ---- Term II: as a whole

    private static void wholePlaces() {
        Checks.sentence("II: solved modulo 1000003; 15: 0 .. 1000002");
        String ahead = "strip s;picture a in s turn 0;point p;row a p at ";
        Checks.due("0", Checks.told(ahead + "5 6 weight 1;control p at 5 6 set 1;").whole(0, 0, 0), 0);
        Checks.due("least above 0", Checks.told(ahead + "5 6 weight 9;control p at 5 7 set 1;").whole(0, 0, 1), 100);
        Checks.due("most", Checks.told(ahead + "0 0 weight 9;control p at 9999 0 set 2;").whole(0, 0, 0), 999900);
        Checks.due("below 0", Checks.told(ahead + "1 0 weight 9;control p at 0 0 set 2;").whole(0, 0, 0), 1000003 - 100);
        Checks.due("lowest", Checks.told(ahead + "9999 0 weight 9;control p at 0 0 set 2;").whole(0, 0, 0), 1000003 - 999900);
        String three = "strip s;picture a in s turn 0;point p;point q;row a p at 0 0 weight 2;row a q at 0 0 weight 1;control p at 0 0 set 1;";
        Checks.due("a third of 100", 3L * Checks.told(three + "control q at 1 0 set 1;").whole(0, 0, 0) % 1000003, 100);
        // a drift adds up: above 1000003 it goes round
        PictureBlock x = Checks.told("strip s;picture a in s turn 2;point p;row a p at 9999 0 weight 1;control p at 9999 0 set 1;"
            + "centre a at 0 0 weight 1;");
        Checks.due("goes round", x.whole(0, 0, 0), 2 * 999900 - 1000003);
        Checks.due("drift goes round", x.whole(2, 0, 0), 2 * 999900 - 1000003);
    }

    private static void wholeOfAll() {
        Checks.sentence("II: for all PICTURES and POINTS with something in use and all DRIFTS");
        // c has its centre alone; all fits, so each stands where it fits
        PictureBlock x = Checks.told("strip r;strip s;strip t;picture a in s turn 0;picture b in t turn 0;picture c in t turn 0;picture d in t turn 0;"
            + "point o;point p;point q;row a p at 1 2 weight 3;row a q at 7 8 weight 4;row b q at 3 3 weight 5;control p at 20 30 set 2;"
            + "centre a at 1 1 weight 2;centre b at 5 6 weight 7;centre c at 9 9 weight 3;");
        int[][][] due = {{{1900, 2800}, {2300, 3300}, {2700, 3600}, {NONE, NONE}}, {{NONE, NONE}, {2000, 3000}, {2600, 3600}},
            {{NONE, NONE}, {1800, 2700}, {1800, 2700}}};
        for (int kind = 0; kind < 3; kind++) {
            for (int which = 0; which < due[kind].length; which++) {
                for (int axis = 0; axis < 2; axis++) {
                    Checks.due("kind " + kind + " " + which, x.whole(kind, which, axis), due[kind][which][axis]);
                }
            }
        }
        x.drop(2, true);
        Checks.due("b and its strip are loose then", x.whole(0, 0, 0), NONE);
    }

    private static void cantBe() {
        Checks.sentence("II: It CAN'T BE, if these have not just one answer modulo that");
        // what is loose keeps all else from an answer
        String held = "strip s;strip t;picture a in s turn 0;point p;point q;row a p at 1 1 weight 1;control p at 5 5 set 1;picture b in t turn 0;";
        Checks.due("held", Checks.told(held).whole(0, 0, 0), 400);
        PictureBlock x = Checks.told(held + "row b q at 1 1 weight 1;");
        Checks.due("a with b and q loose", x.whole(0, 0, 0), NONE);
        Checks.due("q", x.whole(1, 1, 0), NONE);
        Checks.due("p all the same", x.whole(1, 0, 0), 500);
        x.drop(1, true);
        Checks.due("a with them out of use", x.whole(0, 0, 0), 400);
        x = Checks.told(held + "centre b at 1 1 weight 1;");
        Checks.due("a with a drift loose", x.whole(0, 0, 0), NONE);
        Checks.due("the drift", x.whole(2, 1, 0), NONE);
        x = Checks.told(held);
        x.sets(2);
        Checks.due("a with its control out of use", x.whole(0, 0, 0), NONE);
    }

    /** What the equations can be divided by, with these weights, is a multiple of the prime. */
    private static void cantBeByThePrime() {
        Checks.sentence("II: just one answer modulo that: one answer by numbers, none modulo the prime");
        int[][] weights = {{6, 9, 0, 7, 5}, {7, 0, 8, 6, 5}, {9, 0, 3, 6, 5}, {9, 1, 0, 1, 1}};
        StringBuilder t = new StringBuilder("strip s;" + Checks.times(4, "picture p% in s turn 0;") + Checks.times(5, "point q%;")
            + "control qe at 1 1 set 1;");
        for (int p = 0; p < 4; p++) {
            for (int q = 0; q < 5; q++) {
                if (weights[p][q] == 0) continue;
                t.append("row p").append((char) ('a' + p)).append(" q").append((char) ('a' + q)).append(" at 1 1 weight ");
                t.append(weights[p][q]).append(';');
            }
        }
        PictureBlock x = Checks.told(t.toString());
        for (int p = 0; p < 4; p++) {
            Checks.due("not loose", x.picture(p, 6), 0);
            Checks.due("can't be", x.whole(0, p, p % 2), NONE);
        }
        Checks.due("control", x.whole(1, 4, 0), 100);
        x.drop(0, true);
        Checks.due("can be with a row out of use", x.whole(0, 0, 0), 0);
    }

    // ---- promises 8 to 11

    private static void picturesTold() {
        Checks.sentence("8: Of a PICTURE; NOTHING when there is none such, or for others");
        PictureBlock x = Checks.told(SMALL);
        int[][] due = {{0, 0, 0, 0, 0, 2, 0, 0}, {0, 1, 0, 1700, 1500, 1, 0, 1}};
        for (int p = 0; p < 2; p++) {
            for (int what = 0; what < 8; what++) Checks.due("picture " + p + " " + what, x.picture(p, what), due[p][what]);
            Checks.due("what 8", x.picture(p, 8), NOTHING);
            for (int bad : EXTREMES) Checks.due("what " + bad, x.picture(p, bad), NOTHING);
        }
        for (int what = 0; what < 8; what++) {
            Checks.due("picture 2", x.picture(2, what), NOTHING);
            for (int bad : EXTREMES) Checks.due("picture " + bad, x.picture(bad, what), NOTHING);
        }
        x.drop(1, true);
        Checks.due("ROWS in use", x.picture(1, 5), 0);
        Checks.due("whether it is LOOSE", x.picture(1, 6), 1);
        x = Checks.told("strip s;strip t;picture a in t turn any;");
        Checks.due("strip", x.picture(0, 0), 1);
        Checks.due("any", x.picture(0, 2), 1);
        for (int weight = 1; weight < 10; weight++) {
            x = Checks.told("strip s;picture a in s turn 0;centre a at 0 0 weight " + weight + ";");
            Checks.due("whether it has a centre", x.picture(0, 7), 1);
        }
    }

    private static void pointsTold() {
        Checks.sentence("9: Of a POINT; NOTHING when there is none such, or for others");
        PictureBlock x = Checks.told(SMALL);
        int[][] due = {{3000, 4000, 2, 1, 1, 0}, {300, 400, 1, 0, 0, 0}};
        for (int q = 0; q < 2; q++) {
            for (int what = 0; what < 6; what++) Checks.due("point " + q + " " + what, x.point(q, what), due[q][what]);
            Checks.due("what 6", x.point(q, 6), NOTHING);
            for (int bad : EXTREMES) Checks.due("what " + bad, x.point(q, bad), NOTHING);
        }
        for (int what = 0; what < 6; what++) {
            Checks.due("point 2", x.point(2, what), NOTHING);
            for (int bad : EXTREMES) Checks.due("point " + bad, x.point(bad, what), NOTHING);
        }
        x.sets(2);
        int[] then = {3000, 4000, 2, 1, 0, 1};
        for (int what = 0; what < 6; what++) Checks.due("of control, in use or not: " + what, x.point(0, what), then[what]);
    }

    private static void rowsTold() {
        Checks.sentence("10: Of a ROW: 6, 7 its MISSES (dropped or not), 8 whether it CAN SHOW one (0 when it is dropped)");
        PictureBlock x = Checks.told(SMALL + "row b q at 3 4 weight 9;");
        int[][] due = {{0, 0, 10, 20, 1, 0, 2000, 2000, 1}, {1, 0, 5, 7, 2, 0, 2000, 2000, 1}, {0, 1, 3, 4, 1, 0, 0, 0, 1},
            {1, 1, 3, 4, 9, 0, 300 - 1700 + 400, 400 - 1500 - 300, 1}};
        for (int r = 0; r < 4; r++) {
            for (int what = 0; what < 9; what++) Checks.due("row " + r + " " + what, x.row(r, what), due[r][what]);
        }
        x.drop(3, true);
        int[] dropped = {1, 1, 3, 4, 9, 1, -1000, -1400, 0};
        for (int what = 0; what < 9; what++) Checks.due("dropped, " + what, x.row(3, what), dropped[what]);
        Checks.due("row 1 can't then", x.row(1, 8), 0);
        Checks.sentence("10: NOTHING when there is none such, or for others");
        for (int r = 0; r < 4; r++) {
            Checks.due("what 9", x.row(r, 9), NOTHING);
            for (int bad : EXTREMES) Checks.due("what " + bad, x.row(r, bad), NOTHING);
        }
        for (int what = 0; what < 9; what++) {
            Checks.due("row 4", x.row(4, what), NOTHING);
            for (int bad : EXTREMES) Checks.due("row " + bad, x.row(bad, what), NOTHING);
        }
    }

    private static void driftsTold() {
        Checks.sentence("11: DRIFT of a STRIP, across (0) or along (1); NOTHING when it has none, or there is none such");
        PictureBlock x = Checks.told(SMALL);
        x.rounds(1);
        Checks.due("across", x.drift(0, 0), 1440);
        Checks.due("along", x.drift(0, 1), 1320);
        for (int axis = 0; axis < 2; axis++) {
            Checks.due("it has none", x.drift(1, axis), NOTHING);
            Checks.due("strip 2", x.drift(2, axis), NOTHING);
            for (int bad : EXTREMES) Checks.due("strip " + bad, x.drift(bad, axis), NOTHING);
        }
        Checks.due("axis 2", x.drift(0, 2), NOTHING);
        for (int bad : EXTREMES) Checks.due("axis " + bad, x.drift(0, bad), NOTHING);
        x.drop(1, true);
        Checks.due("a strip has its drift by a centre, not by rows", x.drift(0, 0), 1440);
    }

    // ---- promises 12 to 16

    private static void starts() {
        Checks.sentence("12: how many PICTURES were not started from another one (PICTURE 0 is one of them; 0 when there are no PICTURES)");
        Checks.due("no text", new PictureBlock().start(), 0);
        Checks.due("no pictures", Checks.told("strip s;point p;").start(), 0);
        Checks.due("one", Checks.told("strip s;picture a in s turn any;").start(), 1);
        String text = "strip s;" + Checks.times(12, "picture p% in s turn 0;") + "point q;";
        Checks.due("twelve apart", Checks.told(text).start(), 12);
        Checks.due("twelve by one point", Checks.told(text + Checks.times(12, "row p% q at 1 1 weight 1;")).start(), 1);
        Checks.due("two of them not", Checks.told(text + Checks.times(10, "row p% q at 1 1 weight 1;")).start(), 3);
        Checks.sentence("12: A START (DRIFTS 0; ROWS and sets in use as they are)");
        PictureBlock x = Checks.told(SMALL);
        x.rounds(5);
        x.drop(1, true);
        x.sets(2);
        x.measure(0, 11, 21);
        Checks.due("drift", x.drift(0, 0) != 0 && x.drift(0, 1) != 0, true);
        Checks.due("start", x.start(), 2);
        Checks.due("drift across", x.drift(0, 0), 0);
        Checks.due("drift along", x.drift(0, 1), 0);
        Checks.due("row dropped", x.row(1, 5), 1);
        Checks.due("row not dropped", x.row(0, 5), 0);
        Checks.due("sets", x.has(7), 2);
        Checks.due("u", x.row(0, 2), 11);
        pointAt("p by row 0", x, 0, 1100, 2100);
    }

    private static void roundsToldWrong() {
        Checks.sentence("13: n ROUNDS (1 .. 500); NONE, doing nothing, for others");
        int[] wrong = {0, 501, -1, -500, 1000, Integer.MIN_VALUE, Integer.MAX_VALUE};
        for (int n : wrong) Checks.refused("rounds " + n, Checks.told(SMALL), x -> x.rounds(n), NONE);
    }

    /** Twelve pictures in a row, control at its end: it rests late. */
    static String chain() {
        StringBuilder t = new StringBuilder("strip s;" + Checks.times(12, "picture p% in s turn 0;") + Checks.times(12, "point q%;"));
        for (int p = 0; p < 12; p++) {
            char letter = (char) ('a' + p);
            if (p > 0) t.append("row p").append(letter).append(" q").append((char) (letter - 1)).append(" at 0 0 weight 1;");
            t.append("row p").append(letter).append(" q").append(letter).append(" at 9 0 weight 1;");
        }
        return t + "control ql at 9999 9 set 1;control qa at 0 9 set 2;";
    }

    private static void roundsThatAlterOneThing() {
        Checks.sentence("13: how many altered something: POINTS, PICTURES, DRIFTS, across or along, each alone");
        // all at rest at 0; then one number is moved from there, in the image
        String text = "strip s;picture a in s turn 0;point p;point q;row a p at 0 0 weight 9;row a q at 0 0 weight 1;control q at 0 0 set 1;"
            + "centre a at 0 0 weight 9;";
        int[] places = {2, 6, 10, 14, 26, 30};
        for (int place : places) {
            PictureBlock x = Checks.told(text);
            Checks.due("at rest", x.rounds(1), 0);
            // p would come after its picture
            if (place < 10) x.drop(0, true);
            Checks.due("on", Checks.on(x, Checks.withInt(Checks.image(x), place, 1)), true);
            Checks.due("altered by " + place, x.rounds(1), 1);
            Checks.due("at rest again", x.rounds(500), 0);
        }
    }

    private static void roundsMade() {
        Checks.sentence("13: fewer if they REST: how many altered something");
        Checks.due("no text", new PictureBlock().rounds(500), 0);
        PictureBlock x = Checks.told(chain());
        x.sets(1);
        Checks.due("one", x.rounds(1), 1);
        Checks.due("two", x.rounds(2), 2);
        Checks.due("all 500", x.rounds(500), 500);
        PictureBlock single = Checks.told(chain());
        single.sets(1);
        int altering = 0;
        for (int k = 0; k < 103; k++) altering += single.rounds(1);
        Checks.due("one by one", altering, 103);
        for (int k = 0; k < 4; k++) Checks.due("by hundreds", single.rounds(100), 100);
        Checks.same("503 rounds", Checks.all(single), Checks.all(x));
        int last = x.rounds(500);
        for (int k = 0; k < 20 && last == 500; k++) last = x.rounds(500);
        Checks.due("at rest at last", last < 500, true);
        Checks.due("then none", x.rounds(500), 0);
    }

    private static void sumGoesRound() {
        Checks.sentence("14: THE SUM (a long that goes round above 2 to the 63 less 1)");
        StringBuilder t = new StringBuilder("strip s;picture a in s turn 0;");
        for (int q = 0; q < 14; q++) {
            char letter = (char) ('a' + q);
            t.append("point q").append(letter).append(";row a q").append(letter).append(" at 0 0 weight 9;");
        }
        // each row weighs 9 * 2 * 200000000 squared: twelve of them stay below, thirteen go round, twelve more would be above 0 again
        long each = 720000000000000000L;
        PictureBlock x = Checks.told(t.toString());
        int[] image = Checks.withInt(Checks.withInt(Checks.image(x), 2, -100000000), 6, -100000000);
        for (int q = 0; q < 14; q++) image = Checks.withInt(Checks.withInt(image, 10 + 8 * q, 100000000), 14 + 8 * q, 100000000);
        Checks.due("on", Checks.on(x, image), true);
        Checks.due("fourteen", x.sum(), Long.MIN_VALUE + (14 * each - Long.MAX_VALUE - 1));
        x.drop(13, true);
        Checks.due("thirteen", x.sum(), Long.MIN_VALUE + (13 * each - Long.MAX_VALUE - 1));
        x.drop(0, true);
        Checks.due("twelve", x.sum(), 8640000000000000000L);
        Checks.due("doubt", x.doubt(13), each);
    }

    private static void wholeOfNoneSuch() {
        Checks.sentence("15: NONE when there is none such, or it has nothing in use");
        String text = "strip s;strip t;picture a in s turn 0;picture b in t turn 0;point p;point q;row a p at 1 2 weight 1;"
            + "control p at 5 5 set 1;centre a at 1 1 weight 1;";
        PictureBlock x = Checks.told(text);
        Checks.due("picture", x.whole(0, 0, 1), 300);
        Checks.due("drift", x.whole(2, 0, 0), 300);
        for (int axis = 0; axis < 2; axis++) {
            Checks.due("picture without", x.whole(0, 1, axis), NONE);
            Checks.due("point without", x.whole(1, 1, axis), NONE);
            Checks.due("drift without", x.whole(2, 1, axis), NONE);
            for (int kind = 0; kind < 3; kind++) {
                Checks.due("which 2", x.whole(kind, 2, axis), NONE);
                for (int bad : EXTREMES) Checks.due("which " + bad, x.whole(kind, bad, axis), NONE);
            }
            Checks.due("kind 3", x.whole(3, 0, axis), NONE);
            for (int bad : EXTREMES) Checks.due("kind " + bad, x.whole(bad, 0, axis), NONE);
        }
        for (int kind = 0; kind < 3; kind++) {
            Checks.due("axis 2", x.whole(kind, 0, 2), NONE);
            for (int bad : EXTREMES) Checks.due("axis " + bad, x.whole(kind, 0, bad), NONE);
        }
        x.drop(0, true);
        Checks.due("a has its centre alone, which holds nothing", x.whole(0, 0, 0), NONE);
        PictureBlock rowless = Checks.told("strip s;picture a in s turn 0;point p;row a p at 1 2 weight 1;control p at 5 5 set 1;");
        rowless.drop(0, true);
        Checks.due("a has nothing in use", rowless.whole(0, 0, 0), NONE);
        Checks.due("no text", new PictureBlock().whole(0, 0, 0), NONE);
    }

    private static void wholeOfControl() {
        Checks.sentence("15: A POINT of CONTROL in use: always its place modulo that");
        String text = "strip s;picture a in s turn 0;point p;point q;row a q at 1 2 weight 1;control p at 9999 0 set 1;";
        PictureBlock x = Checks.told(text);
        Checks.due("across, without rows, though it can't be", x.whole(1, 0, 0), 999900);
        Checks.due("along", x.whole(1, 0, 1), 0);
        Checks.due("q can't be", x.whole(1, 1, 0), NONE);
        Checks.due("axis 2", x.whole(1, 0, 2), NONE);
        x.sets(2);
        Checks.due("not in use", x.whole(1, 0, 0), NONE);
        x = Checks.told("strip s;picture a in s turn 0;point p;row a p at 1 2 weight 1;control p at 9999 7 set 1;");
        x.rounds(3);
        Checks.due("with a row", x.whole(1, 0, 0), 999900);
        x.drop(0, true);
        Checks.due("with its row dropped", x.whole(1, 0, 1), 700);
    }

    private static void setsToldWrong() {
        Checks.sentence("16: The sets in use are these (0 .. 3; bits); NONE, doing nothing, for others");
        int[] wrong = {4, 5, 7, 8, -1, -4, Integer.MIN_VALUE, Integer.MAX_VALUE};
        for (int sets : wrong) {
            Checks.refused("sets " + sets, Checks.told(SMALL), x -> x.sets(sets), NONE);
            PictureBlock x = Checks.told(SMALL);
            x.sets(2);
            Checks.refused("sets " + sets, x, y -> y.sets(sets), NONE);
        }
    }

    private static void setsInUse() {
        Checks.sentence("16: how many POINTS of CONTROL are in use then, each of which stands where it is told");
        PictureBlock x = Checks.told("strip s;picture a in s turn 0;" + Checks.times(4, "point q%;") + Checks.times(4, "row a q% at 1 2 weight 1;")
            + "control qa at 9 9 set 1;control qb at 8 8 set 2;control qc at 7 7 set 2;");
        int[] due = {0, 1, 2, 3};
        for (int sets = 0; sets < 4; sets++) {
            x.sets(0);
            x.start();
            for (int q = 0; q < 4; q++) pointAt("not in use", x, q, 100, 200);
            Checks.due("in use", x.sets(sets), due[sets]);
            for (int q = 0; q < 4; q++) {
                int set = q == 0 ? 1 : 2;
                boolean used = q < 3 && (sets & set) != 0;
                pointAt("point " + q + " with sets " + sets, x, q, used ? 900 - 100 * q : 100, used ? 900 - 100 * q : 200);
            }
            Checks.due("sets", x.has(7), sets);
        }
        x.sets(3);
        x.sets(0);
        pointAt("what is out of use stays", x, 1, 800, 800);
        x.rounds(1);
        pointAt("till a round moves it", x, 1, 100, 200);
        Checks.due("no text", new PictureBlock().sets(3), 0);
    }
}
