import java.math.BigInteger;
import java.util.List;

/** Term III from sets apart to images, promises 30 to 36: each sentence that names a limit, an edge or a refusal, by itself. */
public final class ChangeLimitsTest {
    private static final int NONE = PictureBlock.NONE;
    private static final int NOTHING = PictureBlock.NOTHING;
    private static final int FAR = 100000000;
    private static final int[] EXTREMES = {-1, Integer.MIN_VALUE, Integer.MAX_VALUE};
    private static final String LONE = "strip s;picture a in s turn 0;point p;row a p at 10 10 weight 1;control p at 30 30 set 1;";
    private static final String APART = "strip s;picture a in s turn 0;point p;point q;row a p at 10 10 weight 1;row a q at 20 20 weight 1;"
        + "control p at 30 30 set 1;control q at 45 50 set 2;";
    /** In its image: 0 sets, 1 and 10 turns, 2 6 11 15 places of pictures, 19 23 27 31 of points, 35 39 43 47 drifts, 51 to 53 rows, 54. */
    private static final String SMALL = "strip s;strip t;picture a in s turn 2;picture b in s turn any;point p;point q;"
        + "row a p at 10 20 weight 1;row b p at 5 7 weight 2;row a q at 3 4 weight 1;control p at 30 40 set 1;control q at 1 2 set 2;"
        + "centre b at 1 2 weight 3;";

    public static void main(String[] args) {
        setsApart();
        setsApart200();
        setsApartFromAStart();
        differOfNoneSuch();
        altersByMore();
        altersAcrossOrAlong();
        altersFromNowOn();
        alters200();
        altersToldWrong();
        measure();
        measureToldWrong();
        draws();
        slipsKept();
        slipsToldWrong();
        slipsOfAllRows();
        imageBytes();
        largestImage();
        imageNumbers();
        imageOfNothing();
        octets();
        onTakesTheTape();
        onAsItTells();
        onAsMany();
        onLastByte();
        onSets();
        onTurns();
        onPlaces();
        onDrifts();
        onWithoutDrift();
        onControl();
        onRows();
        Checks.finish("ChangeLimitsTest");
    }

    // ---- by a set

    private static void setsApart() {
        Checks.sentence("30: The place of a PICTURE BY SET 1 less that BY SET 2, across (0) or along (1). (All stays.)");
        for (int sets = 0; sets < 4; sets++) {
            PictureBlock x = Checks.told(APART);
            x.sets(sets);
            x.rounds(2);
            Checks.refused("across", x, y -> y.differ(0, 0), 2000 - 2500);
            Checks.refused("along", x, y -> y.differ(0, 1), 2000 - 3000);
        }
        PictureBlock x = Checks.told(APART);
        x.drop(1, true);
        Checks.due("by ROWS in use", x.differ(0, 0), 2000);
    }

    private static void setsApart200() {
        Checks.sentence("III: BY A SET: A START, and ROUNDS till they REST (200 at most), that set alone being in use");
        PictureBlock x = Checks.told(PlaceLimitsTest.chain());
        PictureBlock[] bySet = new PictureBlock[3];
        for (int set = 1; set <= 2; set++) {
            bySet[set] = Checks.told(PlaceLimitsTest.chain());
            Checks.due("control of the set", bySet[set].sets(set), 1);
            Checks.due("started", bySet[set].start(), 1);
            bySet[set].rounds(200);
        }
        for (int p = 0; p < 12; p++) {
            for (int axis = 0; axis < 2; axis++) {
                int due = bySet[1].picture(p, 3 + axis) - bySet[2].picture(p, 3 + axis);
                Checks.due("differ", x.differ(p, axis), due);
            }
        }
        Checks.due("set 1 doesn't rest there", bySet[1].rounds(1), 1);
    }

    private static void setsApartFromAStart() {
        Checks.sentence("III: BY A SET: A START (as start() makes it, with DRIFTS 0)");
        // by set 1 a comes half way to 2000 each time, up to 1999; by set 2 it is loose and rests at 150 200, half way to its centre
        String text = "strip s;picture a in s turn any;point p;row a p at 10 10 weight 1;control p at 30 30 set 1;centre a at 3 4 weight 1;";
        PictureBlock x = Checks.told(text);
        int across = x.differ(0, 0);
        int along = x.differ(0, 1);
        Checks.due("fresh across", across, 1999 - 150);
        Checks.due("fresh along", along, 1999 - 200);
        x.rounds(100);
        Checks.due("drift", x.drift(0, 0) != 0, true);
        Checks.due("across", x.differ(0, 0), across);
        Checks.due("along", x.differ(0, 1), along);
        int[] turned = Checks.withInt(Checks.with(Checks.image(x), 1, 2), 2, 777777);
        Checks.due("on", Checks.on(x, turned), true);
        Checks.due("whatever the turn and the place", x.differ(0, 0), across);
        Checks.due("they stay", x.picture(0, 1), 2);
        Checks.due("they stay", x.picture(0, 3), 777777);
    }

    private static void differOfNoneSuch() {
        Checks.sentence("30: NOTHING when there is none such");
        PictureBlock x = Checks.told(APART);
        for (int axis = 0; axis < 2; axis++) {
            Checks.due("picture 1", x.differ(1, axis), NOTHING);
            for (int bad : EXTREMES) Checks.due("picture " + bad, x.differ(bad, axis), NOTHING);
        }
        Checks.due("axis 2", x.differ(0, 2), NOTHING);
        for (int bad : EXTREMES) Checks.due("axis " + bad, x.differ(0, bad), NOTHING);
        Checks.due("no text", new PictureBlock().differ(0, 0), NOTHING);
        Checks.due("no control", Checks.told("strip s;picture a in s turn 0;").differ(0, 0), 0);
    }

    // ---- what one row measured anew alters

    private static void altersByMore() {
        Checks.sentence("31: Of how many PICTURES the place is altered by more than so much (0 at least)");
        PictureBlock x = Checks.told(LONE + "picture b in s turn 0;point q;row a q at 0 0 weight 1;row b q at 0 0 weight 1;");
        x.rounds(500);
        Checks.due("both by 300", x.alters(0, 13, 10, 0), 2);
        Checks.due("both by nearly that", x.alters(0, 13, 10, 290), 2);
        Checks.due("by no more", x.alters(0, 13, 10, 300), 0);
        Checks.due("most", x.alters(0, 9999, 9999, Integer.MAX_VALUE), 0);
        Checks.due("as it is", x.alters(0, 10, 10, 0), 0);
        PictureBlock lone = Checks.told(LONE);
        int[] more = {0, 99, 100, 101};
        for (int m : more) Checks.due("by 100 more than " + m, lone.alters(0, 9, 10, m), m < 100 ? 1 : 0);
    }

    private static void altersAcrossOrAlong() {
        Checks.sentence("31: (across or along)");
        PictureBlock x = Checks.told(LONE);
        int[][] at = {{11, 10}, {9, 10}, {10, 11}, {10, 9}, {11, 11}, {9, 11}};
        for (int[] a : at) {
            Checks.due("more than 99", x.alters(0, a[0], a[1], 99), 1);
            Checks.due("more than 100, both together being no more", x.alters(0, a[0], a[1], 100), 0);
        }
    }

    private static void altersFromNowOn() {
        Checks.sentence("31: behind ROUNDS till they REST, from now on both with it and without. (All stays.)");
        PictureBlock x = Checks.told(LONE);
        Checks.due("not at rest yet", x.picture(0, 3), 0);
        Checks.refused("without it too there are rounds", x, y -> y.alters(0, 10, 10, 0), 0);
        Checks.refused("with it", x, y -> y.alters(0, 0, 9999, 0), 1);
        Checks.refused("most", x, y -> y.alters(0, 9999, 0, 999000), 0);
        Checks.refused("most less 1", x, y -> y.alters(0, 9999, 0, 998899), 1);
        x.measure(0, 17, 4);
        Checks.refused("what was measured stays", x, y -> y.alters(0, 9, 9, 0), 1);
        Checks.due("u", x.row(0, 2), 17);
        Checks.due("v", x.row(0, 3), 4);
        x.drop(0, true);
        Checks.refused("a row that is not in use alters nothing", x, y -> y.alters(0, 9999, 0, 0), 0);
    }

    private static void alters200() {
        Checks.sentence("31: ROUNDS till they REST (200 at most)");
        PictureBlock without = Checks.told(PlaceLimitsTest.chain());
        without.sets(1);
        without.rounds(200);
        PictureBlock with = Checks.told(PlaceLimitsTest.chain());
        with.sets(1);
        Checks.due("measure", with.measure(22, 9000, 9), true);
        with.rounds(200);
        PictureBlock x = Checks.told(PlaceLimitsTest.chain());
        x.sets(1);
        for (int p = 0; p < 12; p++) {
            int apart = Math.abs(with.picture(p, 3) - without.picture(p, 3));
            for (int more = Math.max(0, apart - 1); more <= apart + 1; more++) {
                int due = 0;
                for (int q = 0; q < 12; q++) {
                    int across = Math.abs(with.picture(q, 3) - without.picture(q, 3));
                    int along = Math.abs(with.picture(q, 4) - without.picture(q, 4));
                    if (across > more || along > more) due++;
                }
                Checks.due("more than " + more, x.alters(22, 9000, 9, more), due);
            }
        }
        Checks.due("it doesn't rest there", with.rounds(1), 1);
        Checks.due("nor without", without.rounds(1), 1);
    }

    private static void altersToldWrong() {
        Checks.sentence("31: NONE when something can't be");
        PictureBlock x = Checks.told(LONE);
        int[] rows = {1, 60, -1, Integer.MIN_VALUE, Integer.MAX_VALUE};
        for (int row : rows) Checks.due("row " + row, x.alters(row, 1, 1, 0), NONE);
        int[] places = {-1, 10000, Integer.MIN_VALUE, Integer.MAX_VALUE};
        for (int place : places) {
            Checks.due("u " + place, x.alters(0, place, 1, 0), NONE);
            Checks.due("v " + place, x.alters(0, 1, place, 0), NONE);
        }
        int[] less = {-1, -100, Integer.MIN_VALUE};
        for (int more : less) Checks.due("more " + more, x.alters(0, 1, 1, more), NONE);
        Checks.same("all stays", Checks.all(x), Checks.all(Checks.told(LONE)));
        Checks.due("least", x.alters(0, 0, 0, 0), 1);
        Checks.due("most", x.alters(0, 9999, 9999, 0), 1);
        Checks.due("no text", new PictureBlock().alters(0, 1, 1, 0), NONE);
    }

    private static void measure() {
        Checks.sentence("32: A ROW is measured at u v (0 .. 9999 both): true");
        PictureBlock x = Checks.told(LONE);
        int[][] at = {{0, 9999}, {9999, 0}, {0, 0}, {9999, 9999}, {0, 0}};
        for (int[] a : at) {
            Checks.due("measure", x.measure(0, a[0], a[1]), true);
            Checks.due("u", x.row(0, 2), a[0]);
            Checks.due("v", x.row(0, 3), a[1]);
            Checks.due("miss", x.row(0, 6), 3000 - 100 * a[0]);
            Checks.due("nothing is moved", x.picture(0, 3), 0);
        }
        x.drop(0, true);
        Checks.due("a dropped one", x.measure(0, 7, 8), true);
        Checks.due("u", x.row(0, 2), 7);
    }

    private static void measureToldWrong() {
        Checks.sentence("32: false when it can't be");
        int[] rows = {1, 60, -1, Integer.MIN_VALUE, Integer.MAX_VALUE};
        for (int row : rows) Checks.refused("row " + row, Checks.told(LONE), x -> x.measure(row, 1, 1) ? 1 : 0, 0);
        int[] places = {-1, 10000, Integer.MIN_VALUE, Integer.MAX_VALUE};
        for (int place : places) {
            Checks.refused("u " + place, Checks.told(LONE), x -> x.measure(0, place, 1) ? 1 : 0, 0);
            Checks.refused("v " + place, Checks.told(LONE), x -> x.measure(0, 1, place) ? 1 : 0, 0);
        }
        Checks.due("no text", new PictureBlock().measure(0, 1, 1), false);
    }

    // ---- slips

    private static final String SLIPPING = "strip s;picture a in s turn 0;picture b in s turn 0;point p;point q;row a p at 5000 4000 weight 1;"
        + "row a q at 3000 9999 weight 1;row b p at 0 0 weight 1;";

    /** u and v of three rows behind slips, by numbers of any size. */
    private static int[][] slipped(int n, int most, int seed) {
        int[][] at = {{5000, 4000}, {3000, 9999}, {0, 0}};
        BigInteger x = BigInteger.valueOf(seed);
        int[] drawn = new int[3];
        for (int k = 0; k < n; k++) {
            for (int d = 0; d < 3; d++) {
                x = x.multiply(BigInteger.valueOf(1103515245)).add(BigInteger.valueOf(12345)).mod(BigInteger.TWO.pow(31));
                drawn[d] = x.divide(BigInteger.valueOf(64)).mod(BigInteger.valueOf(d == 0 ? 3 : 2 * most + 1)).intValue();
            }
            for (int axis = 0; axis < 2; axis++) {
                int to = at[drawn[0]][axis] + drawn[1 + axis] - most;
                at[drawn[0]][axis] = Math.max(0, Math.min(9999, to));
            }
        }
        return at;
    }

    private static void draws() {
        Checks.sentence("III: A DRAW of m: x (the seed) becomes (1103515245 x + 12345) mod 2 to the 31; floor(x / 64) mod m");
        int[] seeds = {0, 1, 2, 63, 64, 12345, 1 << 30, Integer.MAX_VALUE - 1, Integer.MAX_VALUE};
        int[] many = {1, 2, 3, 59, 60};
        int[] mosts = {0, 1, 2, 500, 998, 999};
        for (int seed : seeds) {
            for (int n : many) {
                for (int most : mosts) {
                    PictureBlock x = Checks.told(SLIPPING);
                    Checks.due("how many DRAWS", x.slips(n, most, seed), 3 * n);
                    int[][] due = slipped(n, most, seed);
                    for (int r = 0; r < 3; r++) {
                        Checks.due("u by seed " + seed, x.row(r, 2), due[r][0]);
                        Checks.due("v by seed " + seed, x.row(r, 3), due[r][1]);
                    }
                }
            }
        }
        // by hand: 0 becomes 12345, then 1406932606, then 654583775; a 64th: 192, 21983321, 10227871
        PictureBlock x = Checks.told(SLIPPING);
        Checks.due("by hand", x.slips(1, 10, 0), 3);
        Checks.due("row 192 mod 3", x.row(0, 2), 5000 + 21983321 % 21 - 10);
        Checks.due("v", x.row(0, 3), 4000 + 10227871 % 21 - 10);
        Checks.due("another", x.row(1, 2), 3000);
    }

    private static void slipsKept() {
        Checks.sentence("III: both 0 at the least, 9999 at the most");
        boolean[] reached = new boolean[4];
        for (int seed = 0; seed < 40; seed++) {
            PictureBlock x = Checks.told("strip s;picture a in s turn 0;point p;point q;row a p at 0 9999 weight 1;row a q at 9999 0 weight 1;");
            x.slips(1 + seed % 3, 999, seed);
            int[] found = {x.row(0, 2), x.row(0, 3), x.row(1, 2), x.row(1, 3)};
            int[] limit = {0, 9999, 9999, 0};
            boolean[] slips = {found[0] != 0 || found[1] != 9999, found[0] != 0 || found[1] != 9999,
                found[2] != 9999 || found[3] != 0, found[2] != 9999 || found[3] != 0};
            for (int k = 0; k < 4; k++) {
                Checks.due("kept", found[k] >= 0 && found[k] <= 9999, true);
                if (slips[k] && found[k] == limit[k]) reached[k] = true;
            }
        }
        for (int k = 0; k < 4; k++) Checks.due("kept at the limit " + k, reached[k], true);
        PictureBlock x = Checks.told(SLIPPING);
        List<Long> ahead = Checks.all(x);
        Checks.due("most 0", x.slips(60, 0, 77), 180);
        Checks.same("most 0: all stays", Checks.all(x), ahead);
    }

    private static void slipsToldWrong() {
        Checks.sentence("33: SLIPS, n (1 .. 60), most 0 .. 999, seed 0 and above: NONE when something can't be, or there are no ROWS");
        int[] many = {0, 61, -1, Integer.MIN_VALUE, Integer.MAX_VALUE};
        for (int n : many) Checks.refused("n " + n, Checks.told(SLIPPING), x -> x.slips(n, 5, 5), NONE);
        int[] mosts = {-1, 1000, Integer.MIN_VALUE, Integer.MAX_VALUE};
        for (int most : mosts) Checks.refused("most " + most, Checks.told(SLIPPING), x -> x.slips(5, most, 5), NONE);
        int[] seeds = {-1, -64, Integer.MIN_VALUE};
        for (int seed : seeds) Checks.refused("seed " + seed, Checks.told(SLIPPING), x -> x.slips(5, 5, seed), NONE);
        PictureBlock x = Checks.told(SLIPPING);
        Checks.due("least", x.slips(1, 0, 0), 3);
        Checks.due("most", x.slips(60, 999, Integer.MAX_VALUE), 180);
        Checks.due("no rows", Checks.told("strip s;picture a in s turn 0;point p;").slips(1, 1, 1), NONE);
        Checks.due("no text", new PictureBlock().slips(1, 1, 1), NONE);
    }

    private static void slipsOfAllRows() {
        Checks.sentence("III: a DRAW of the ROWS");
        PictureBlock x = Checks.told(SLIPPING);
        for (int r = 0; r < 3; r++) x.drop(r, true);
        Checks.due("dropped ones too", x.slips(60, 99, 3), 180);
        int[][] due = slipped(60, 99, 3);
        for (int r = 0; r < 3; r++) Checks.due("u", x.row(r, 2), due[r][0]);
        Checks.due("places stay", x.point(0, 0), 500000);
    }

    // ---- images

    private static void imageBytes() {
        Checks.sentence("34: AN IMAGE is written: how many bytes");
        Checks.due("no text", new PictureBlock().image(), 2);
        Checks.due("no statements", Checks.told("").image(), 2);
        String[] more = {"strip s;", "picture a in s turn 0;", "point p;", "row a p at 1 1 weight 1;", "control p at 1 1 set 1;",
            "centre a at 1 1 weight 1;"};
        int[] bytes = {8, 9, 8, 1, 0, 0};
        StringBuilder text = new StringBuilder();
        int due = 2;
        for (int k = 0; k < more.length; k++) {
            text.append(more[k]);
            due += bytes[k];
            Checks.due("with " + more[k], Checks.told(text.toString()).image(), due);
        }
        PictureBlock x = Checks.told(SMALL);
        Checks.due("small", x.image(), 55);
        x.drop(0, true);
        x.sets(0);
        x.rounds(3);
        Checks.due("how it stands alters nothing of that", x.image(), 55);
    }

    private static void largestImage() {
        Checks.sentence("34: AN IMAGE of the largest block");
        StringBuilder t = new StringBuilder(Checks.times(6, "strip s%;") + Checks.times(20, "point q%;"));
        for (int p = 0; p < 12; p++) {
            char name = (char) ('a' + p);
            t.append("picture ").append(name).append(" in s").append((char) ('a' + p / 2)).append(" turn any;");
            if (p % 2 == 1) t.append("centre ").append(name).append(" at ").append(p).append(" 9 weight 1;");
            t.append("row ").append(name).append(" q").append((char) ('a' + p)).append(" at 1 2 weight 9;");
        }
        for (int r = 0; r < 18; r++) t.append("row l q").append((char) ('a' + (r < 11 ? r : r + 1))).append(" at 3 4 weight 1;");
        PictureBlock x = Checks.told(t.toString());
        Checks.due("rounds", x.rounds(3), 3);
        x.drop(29, true);
        int[] image = Checks.image(x);
        Checks.due("bytes", image.length, 1 + 12 * 9 + 20 * 8 + 6 * 8 + 30 + 1);
        for (int s = 0; s < 6; s++) {
            for (int axis = 0; axis < 2; axis++) {
                int at = 1 + 12 * 9 + 20 * 8 + 8 * s + 4 * axis;
                int drift = image[at] << 24 | image[at + 1] << 16 | image[at + 2] << 8 | image[at + 3];
                Checks.due("drift", drift, x.drift(s, axis));
                Checks.due("it drifts", drift != 0, true);
            }
        }
        Checks.due("the last row", image[image.length - 2], 1);
        List<Long> then = Checks.all(x);
        x.start();
        x.drop(29, false);
        Checks.due("on", Checks.on(x, image), true);
        Checks.same("all is as it tells", Checks.all(x), then);
    }

    private static void imageNumbers() {
        Checks.sentence("III: each number of a place, a DRIFT four bytes, the highest first, as an int; last a byte: c = (5 c + it) mod 241");
        int[] numbers = {0, 1, -1, 255, 256, -256, 65536, FAR, -FAR, 99999999, -99999999};
        int[] at = {2, 6, 11, 15, 35, 39};
        for (int number : numbers) {
            for (int place : at) {
                PictureBlock x = Checks.told(SMALL);
                Checks.due("on", Checks.on(x, Checks.withInt(Checks.image(x), place, number)), true);
                int[] image = Checks.image(x);
                for (int k = 0; k < 4; k++) Checks.due("byte " + k, image[place + k], number >> (24 - 8 * k) & 255);
                int c = 45;
                for (int k = 0; k < 54; k++) c = (5 * c + image[k]) % 241;
                Checks.due("last", image[54], c);
                int[] told = {x.picture(0, 3), x.picture(0, 4), x.picture(1, 3), x.picture(1, 4), x.drift(0, 0), x.drift(0, 1)};
                for (int k = 0; k < at.length; k++) {
                    if (at[k] == place) Checks.due("number at " + place, told[k], number);
                }
            }
        }
        PictureBlock x = Checks.told(SMALL);
        x.drop(1, true);
        x.sets(2);
        int[] image = Checks.image(x);
        int[] single = {0, 1, 10, 51, 52, 53};
        int[] due = {2, 2, 0, 0, 1, 0};
        for (int k = 0; k < single.length; k++) Checks.due("byte " + single[k], image[single[k]], due[k]);
    }

    private static void imageOfNothing() {
        Checks.sentence("III: AN IMAGE: of nothing");
        PictureBlock x = new PictureBlock();
        int[] last = {225, 226, 227, 228};
        for (int sets = 3; sets >= 0; sets--) {
            x.sets(sets);
            int[] image = Checks.image(x);
            Checks.due("sets", image[0], sets);
            Checks.due("last", image[1], last[sets]);
            x.sets(3 - sets);
            Checks.due("on", Checks.on(x, image), true);
            Checks.due("sets again", x.has(7), sets);
        }
    }

    private static void octets() {
        Checks.sentence("35: Byte k of the latest image(); NONE when there is none such");
        PictureBlock x = Checks.told(SMALL);
        int[] wrong = {0, 1, 54, 55, -1, Integer.MIN_VALUE, Integer.MAX_VALUE};
        for (int k : wrong) Checks.due("ahead of any, " + k, x.octet(k), NONE);
        Checks.due("image", x.image(), 55);
        Checks.due("first", x.octet(0), 3);
        Checks.due("last", x.octet(54) >= 0 && x.octet(54) < 241, true);
        for (int k : wrong) {
            if (k < 0 || k > 54) Checks.due("none such, " + k, x.octet(k), NONE);
        }
        x.sets(1);
        Checks.due("of the latest image()", x.octet(0), 3);
        x.image();
        Checks.due("of the next one", x.octet(0), 1);
        Checks.due("block", Checks.block(x, "strip s;"), 1);
        Checks.due("a block writes none", x.octet(0), 1);
        Checks.due("nor fewer bytes", x.octet(54) >= 0, true);
        Checks.due("a shorter one", x.image(), 10);
        Checks.due("its last", x.octet(9) >= 0, true);
        Checks.due("behind it", x.octet(10), NONE);
        Checks.due("on", x.on(), false);
        Checks.due("on() writes none", x.octet(0), 3);
    }

    private static void refused(String what, int[] bytes) {
        PictureBlock x = Checks.told(SMALL);
        x.rounds(2);
        x.drop(2, true);
        x.image();
        List<Long> ahead = Checks.all(x);
        Checks.due(what, Checks.on(x, bytes), false);
        Checks.due(what + ": the tape went", x.end(1), false);
        Checks.same(what + ": all stays", Checks.all(x), ahead);
    }

    private static void taken(String what, int[] bytes) {
        PictureBlock x = Checks.told(SMALL);
        Checks.due(what, Checks.on(x, bytes), true);
        int[] image = Checks.image(x);
        Checks.due(what + ": how many", image.length, bytes.length);
        for (int k = 0; k < image.length; k++) Checks.due(what + ": byte " + k, image[k], bytes[k]);
    }

    private static int[] small() {
        return Checks.image(Checks.told(SMALL));
    }

    private static void onTakesTheTape() {
        Checks.sentence("36: The tape (it goes) is AN IMAGE: true; false when it is none (all stays)");
        PictureBlock x = Checks.told(SMALL);
        int[] image = Checks.image(x);
        Checks.due("on", Checks.on(x, image), true);
        Checks.due("the tape went", x.end(1), false);
        Checks.due("empty tape", x.on(), false);
        Checks.due("no block either", x.block(), 0);
        refused("empty", new int[0]);
        refused("a text", Checks.bytes(SMALL));
        refused("one byte", new int[] {3});
        refused("nothing's image", Checks.image(new PictureBlock()));
        Checks.due("of a new object", Checks.on(new PictureBlock(), Checks.image(new PictureBlock())), true);
        Checks.due("empty tape of a new object", new PictureBlock().on(), false);
    }

    private static void onAsItTells() {
        Checks.sentence("36: all is as it tells (what was measured stays)");
        PictureBlock x = Checks.told(SMALL);
        x.rounds(3);
        x.drop(1, true);
        x.sets(2);
        int[] image = Checks.withInt(Checks.with(Checks.image(x), 10, 1), 19, 54321);
        List<Long> then = Checks.all(x);
        x.sets(3);
        x.drop(1, false);
        x.drop(0, true);
        x.start();
        x.rounds(1);
        Checks.due("on", Checks.on(x, image), true);
        Checks.due("turn", x.picture(1, 1), 1);
        Checks.due("point", x.point(0, 0), 54321);
        Checks.due("on", Checks.on(x, Checks.withInt(Checks.with(image, 10, 0), 19, (int) (long) then.get(9 + 16))), true);
        Checks.same("as it was", Checks.all(x), then);
        x.measure(0, 123, 456);
        x.start();
        Checks.due("on", Checks.on(x, image), true);
        Checks.due("what was measured stays", x.row(0, 2), 123);
        Checks.due("v too", x.row(0, 3), 456);
        Checks.due("its miss", x.row(0, 6), 54321 - x.picture(0, 3) + 12300);
        Checks.due("fault stays", x.fault(0), 0);
        Checks.block(x, "!");
        Checks.due("on", Checks.on(x, image), true);
        Checks.due("fault is of the latest block()", x.fault(0), 1);
    }

    private static void onAsMany() {
        Checks.sentence("III: It is taken, if it is such, with as many of all");
        int[] image = small();
        int[] shorter = new int[54];
        System.arraycopy(image, 0, shorter, 0, 54);
        refused("a byte less", shorter);
        refused("a byte less, its last right", Checks.sealed(shorter));
        int[] longer = new int[56];
        System.arraycopy(image, 0, longer, 0, 55);
        refused("a byte more", longer);
        longer[54] = 0;
        refused("a byte more, its last right", Checks.sealed(longer));
        String[] more = {"strip u;", "picture c in t turn 0;", "point r;", "row b q at 1 1 weight 1;"};
        for (String statement : more) refused("of one more: " + statement, Checks.image(Checks.told(SMALL + statement)));
        int[] longest = new int[1600];
        System.arraycopy(image, 0, longest, 0, 55);
        refused("the whole tape", Checks.sealed(longest));
        taken("as many", image);
    }

    private static void onLastByte() {
        Checks.sentence("III: last a byte: all ahead from 45 on, c = (5 c + it) mod 241");
        int[] image = small();
        for (int last = 0; last < 256; last++) {
            int[] other = image.clone();
            other[54] = last;
            if (last == image[54]) taken("last " + last, other);
            else refused("last " + last, other);
        }
        // five times 241 goes round: a byte that is 241 more is taken for the same
        int[] same = image.clone();
        same[2] = 241;
        Checks.due("the last one of both", Checks.sealed(same)[54], image[54]);
    }

    private static void onSets() {
        Checks.sentence("III: sets in use");
        int[] image = small();
        for (int sets = 0; sets < 256; sets++) {
            if (sets < 4) taken("sets " + sets, Checks.with(image, 0, sets));
            else refused("sets " + sets, Checks.with(image, 0, sets));
        }
    }

    private static void onTurns() {
        Checks.sentence("III: turns as told (of any 0 .. 3)");
        int[] image = small();
        for (int turn = 0; turn < 256; turn++) {
            if (turn == 2) taken("turn told", Checks.with(image, 1, turn));
            else refused("turn " + turn + " for 2", Checks.with(image, 1, turn));
            if (turn < 4) taken("turn of any", Checks.with(image, 10, turn));
            else refused("turn " + turn + " of any", Checks.with(image, 10, turn));
        }
    }

    private static void onPlaces() {
        Checks.sentence("III: places -10 to the 8 .. 10 to the 8");
        // p and q are free without their sets
        int[] image = Checks.with(small(), 0, 0);
        int[] at = {2, 6, 11, 15, 19, 23, 27, 31};
        for (int place : at) near(image, place);
    }

    private static void onDrifts() {
        Checks.sentence("III: DRIFTS -10 to the 8 .. 10 to the 8");
        int[] image = small();
        near(image, 35);
        near(image, 39);
    }

    private static void near(int[] image, int place) {
        int[] right = {FAR, -FAR, FAR - 1, 1 - FAR, 1, -1};
        int[] wrong = {FAR + 1, -FAR - 1, Integer.MAX_VALUE, Integer.MIN_VALUE, NOTHING};
        for (int number : right) taken(number + " at " + place, Checks.withInt(image, place, number));
        for (int number : wrong) refused(number + " at " + place, Checks.withInt(image, place, number));
    }

    private static void onWithoutDrift() {
        Checks.sentence("III: (0 0 of a STRIP that has no DRIFT)");
        int[] image = small();
        taken("0 0", image);
        int[] numbers = {1, -1, 100, FAR, FAR + 1, Integer.MIN_VALUE};
        for (int number : numbers) {
            refused("across " + number, Checks.withInt(image, 43, number));
            refused("along " + number, Checks.withInt(image, 47, number));
        }
    }

    private static void onControl() {
        Checks.sentence("III: what stands by CONTROL in use where it stands");
        int[] image = small();
        int[] at = {19, 23, 27, 31};
        int[] stands = {3000, 4000, 100, 200};
        for (int sets = 0; sets < 4; sets++) {
            int[] other = Checks.with(image, 0, sets);
            taken("where it stands", other);
            for (int k = 0; k < 4; k++) {
                boolean used = (sets & (k < 2 ? 1 : 2)) != 0;
                for (int side = -1; side <= 1; side += 2) {
                    int[] moved = Checks.withInt(other, at[k], stands[k] + side);
                    if (used) refused("moved with sets " + sets, moved);
                    else taken("moved without, with sets " + sets, moved);
                }
            }
        }
    }

    private static void onRows() {
        Checks.sentence("III: for each ROW whether it is dropped");
        int[] image = small();
        for (int row = 0; row < 3; row++) {
            for (int is = 0; is < 256; is++) {
                if (is < 2) taken("row " + row + " " + is, Checks.with(image, 51 + row, is));
                else refused("row " + row + " " + is, Checks.with(image, 51 + row, is));
            }
        }
    }
}
