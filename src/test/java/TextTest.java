/** Promises 1 to 7: the tape, the text, its faults, what there is, names. */
public final class TextTest {
    private static final String S = "strip s;";
    private static final String A = S + "picture a in s turn 0;";
    private static final String AP = A + "point p;";

    public static void main(String[] args) {
        newObject();
        tape();
        statements();
        wordsAndNumbers();
        names();
        numbersThatCantBe();
        tooMany();
        centresHaveNoNumber();
        faultLeavesAll();
        letters();
        Checks.finish("TextTest");
    }

    private static void newObject() {
        Checks.due("NONE", PictureBlock.NONE, -1);
        Checks.due("NOTHING", PictureBlock.NOTHING, -1000000000);
        PictureBlock x = new PictureBlock();
        int[] has = {0, 0, 0, 0, 0, 0, 0, 3, 0};
        for (int what = 0; what < has.length; what++) Checks.due("new has " + what, x.has(what), has[what]);
        Checks.due("new fault 0", x.fault(0), 0);
        Checks.due("new fault 1", x.fault(1), -1);
        Checks.due("new fault 2", x.fault(2), -1);
        Checks.due("new fault -1", x.fault(-1), -1);
        Checks.due("new octet", x.octet(0), -1);
        Checks.due("new start", x.start(), 0);
        Checks.due("new sum", x.sum(), 0);
        Checks.due("new parts", x.parts(), 0);
        Checks.due("new tree", x.tree(-1), 0);
        Checks.due("new on", x.on(), false);
    }

    private static void tape() {
        PictureBlock x = new PictureBlock();
        for (int n = 20; n <= 1600; n += 20) Checks.due("feed", x.feed(0x20202020, 0x0a0a0a0a, 0x20202020, 0, 0), n);
        Checks.due("feed 81", x.feed(0, 0, 0, 0, 0), -1);
        Checks.due("end above", x.end(1601), false);
        Checks.due("end below", x.end(-1), false);
        Checks.due("end all", x.end(1600), true);
        Checks.due("end 1581", x.end(1581), true);
        Checks.due("feed above", x.feed(0, 0, 0, 0, 0), -1);
        Checks.due("end 1582", x.end(1582), false);
        Checks.due("end 12", x.end(12), true);
        Checks.due("feed behind", x.feed(0x73747269, 0x7020613b, 0x20202020, 0x20202020, 0x20202020), 32);
        Checks.due("block", x.block(), 1);
        Checks.due("has strips", x.has(0), 1);
        Checks.due("the tape went", x.end(1), false);
        Checks.due("end 0", x.end(0), true);
        Checks.due("block of nothing", x.block(), 0);
        Checks.due("no strips", x.has(0), 0);
        Checks.due("feed", x.feed(-1, 0, 0, 0, 0), 20);
        Checks.due("block of byte 255", x.block(), -1);
        Checks.due("fault", x.fault(0), 1);
        Checks.due("fault place", x.fault(1), 0);
        Checks.due("the tape went with a fault", x.end(1), false);
        tapeEnds(x);
    }

    /** What lies behind the text's end on the tape is no more of it; the tape's own end is the text's too. */
    private static void tapeEnds(PictureBlock x) {
        String[] texts = {"strip s;", "strip stuv;", S + "picture a in s turn 33;", "strip s; strip t;", "strips s;"};
        int[] ends = {7, 7, 29, 14, 5};
        for (int k = 0; k < texts.length; k++) {
            Checks.feed(x, Checks.bytes(texts[k]), 0);
            Checks.due("end", x.end(ends[k]), true);
            Checks.due("block", x.block(), -1);
            Checks.due("fault", x.fault(0), 1);
            Checks.due("place", x.fault(1), ends[k]);
        }
        String blanks = " ".repeat(1600);
        String[] full = {"strip s", "strip", "strip ", S + "picture a in s turn", S + "picture a in s turn 3"};
        for (String text : full) {
            Checks.due("full", Checks.block(x, blanks.substring(text.length()) + text), -1);
            Checks.due("full fault", x.fault(0), 1);
            Checks.due("full place", x.fault(1), 1600);
        }
        Checks.due("full and right", Checks.block(x, blanks.substring(S.length()) + S), 1);
        Checks.due("full and blank", Checks.block(x, blanks), 0);
    }

    private static void statements() {
        Checks.right("");
        Checks.right(" \n ");
        Checks.right(S);
        Checks.right("\nstrip\ns \n; picture a in s turn any ;point p;row a p at 0 9999 weight 9;"
            + "control p at 9999 0 set 2;centre a at 1 2 weight 1;\n\n");
        Checks.right(AP + "row a p at 0001 1 weight 0009;");
        Checks.right("strip picts;strip turns;strip anys;strip inn;strip a;strip zzzzzz;");
    }

    private static void wordsAndNumbers() {
        Checks.faultAt("|x", 1);
        String[] own = {"strip", "picture", "in", "turn", "any", "point", "row", "at", "weight", "control", "set", "centre"};
        for (String word : own) {
            Checks.faultAt("strip |" + word + ";", 1);
            Checks.faultAt(AP + "row a |" + word + " at 1 1 weight 1;", 1);
            Checks.right("strip x" + word.substring(1, Math.min(6, word.length())) + ";");
        }
        Checks.faultAt("|xtrip s;", 1);
        Checks.faultAt(S + "picture a |xn s turn 0;", 1);
        Checks.faultAt("|stri", 1);
        Checks.faultAt("|strips a;", 1);
        Checks.faultAt("|Strip a;", 1);
        Checks.faultAt("|;", 1);
        Checks.faultAt(S + "|;", 1);
        Checks.faultAt(S + "|7;", 1);
        Checks.faultAt(S + "|turn 7;", 1);
        Checks.faultAt("strip|", 1);
        Checks.faultAt("strip  |", 1);
        Checks.faultAt("strip s|", 1);
        Checks.faultAt("strip s  |", 1);
        Checks.faultAt("strip |;", 1);
        Checks.faultAt("strip |7;", 1);
        Checks.faultAt("strip|7;", 1);
        Checks.faultAt("strip |!;", 1);
        Checks.faultAt("strip |strip;", 1);
        Checks.faultAt("strip |picture;", 1);
        Checks.faultAt("strip |any;", 1);
        Checks.faultAt("strip |centre;", 1);
        Checks.faultAt("strip abcdef|g;", 1);
        Checks.faultAt("strip pictur|es;", 1);
        Checks.faultAt("strip abcdef|ghi", 1);
        Checks.faultAt("strip s|7;", 1);
        Checks.faultAt("strip s |t;", 1);
        Checks.faultAt("strip s|\t;", 1);
        Checks.faultAt(S + "picture a |s turn 0;", 1);
        Checks.faultAt(S + "picture a |inn s turn 0;", 1);
        Checks.faultAt(S + "picture a in s |any;", 1);
        Checks.faultAt(S + "picture a in s turn |;", 1);
        Checks.faultAt(S + "picture a in s turn|;", 1);
        Checks.faultAt(S + "picture a in s turn |many;", 1);
        Checks.faultAt(S + "picture a in s turn|1;", 1);
        Checks.faultAt(S + "picture a in s turn|9;", 1);
        Checks.faultAt(S + "picture a in s turn|12345;", 1);
        Checks.faultAt(S + "picture a in s |turnany;", 1);
        Checks.faultAt(S + "picture a in s turn 1|any;", 1);
        Checks.faultAt(S + "picture a in s turn any |1;", 1);
        Checks.faultAt(S + "picture a in s turn any|1;", 1);
        Checks.faultAt(S + "picture a in s turn 1 |1;", 1);
        Checks.faultAt(S + "picture a in s turn 0000|0;", 1);
        Checks.faultAt(S + "picture |0 in s turn 0;", 1);
        Checks.faultAt(AP + "row a p at|5 5 weight 1;", 1);
        Checks.faultAt(AP + "row a p at 5 1234|567 weight 1;", 1);
        Checks.faultAt(AP + "row a p at 1234|5", 1);
        Checks.faultAt(AP + "row a p at 5 5|weight 1;", 1);
        Checks.faultAt(AP + "row a p at 5 |weight 1;", 1);
        Checks.faultAt(AP + "row a p at 5 5 weight|1;", 1);
        Checks.faultAt(AP + "row a p at 5 5 weight 1234|5;", 1);
        Checks.faultAt(AP + "row a p |5 5 weight 1;", 1);
        Checks.faultAt(AP + "row a |at 5 5 weight 1;", 1);
        Checks.faultAt(AP + "row a p at 5 5 |set 1;", 1);
        Checks.faultAt(AP + "control p at 5 5 |weight 1;", 1);
        Checks.faultAt(AP + "control p at 5 5|set 1;", 1);
        Checks.faultAt(AP + "centre a at 5 5 |set 1;", 1);
        Checks.faultAt(AP + "row a p at 5 5 weight |", 1);
    }

    private static void names() {
        Checks.faultAt(S + "strip |s;", 3);
        Checks.faultAt(S + "point |s;", 3);
        Checks.faultAt(S + "picture |s in s turn 0;", 3);
        Checks.faultAt(A + "strip |a;", 3);
        Checks.faultAt(AP + "picture |p in s turn 0;", 3);
        Checks.faultAt(S + "picture a in |t turn 0;", 3);
        Checks.faultAt(S + "picture a in |a turn 0;", 3);
        Checks.faultAt(A + "picture b in |a turn 0;", 3);
        Checks.faultAt(AP + "row |s p at 1 1 weight 1;", 3);
        Checks.faultAt(AP + "row |p a at 1 1 weight 1;", 3);
        Checks.faultAt(AP + "row a |s at 1 1 weight 1;", 3);
        Checks.faultAt(AP + "row a |a at 1 1 weight 1;", 3);
        Checks.faultAt(AP + "row a p at 1 1 weight 1;row a |p at 1 1 weight 1;", 3);
        Checks.faultAt(AP + "control |a at 1 1 set 1;", 3);
        Checks.faultAt(AP + "control p at 1 1 set 1;control |p at 1 1 set 2;", 3);
        Checks.faultAt(AP + "centre |p at 1 1 weight 1;", 3);
        Checks.faultAt(AP + "centre a at 1 1 weight 1;centre |a at 1 1 weight 1;", 3);
        Checks.faultAt("picture a in |s turn 0;", 3);
        Checks.right(AP + "point q;picture b in s turn 2;row a p at 1 1 weight 1;row b p at 1 1 weight 1;"
            + "row a q at 1 1 weight 1;");
    }

    private static void numbersThatCantBe() {
        Checks.faultAt(S + "picture a in s turn |4;", 2);
        Checks.faultAt(S + "picture a in s turn |9999;", 2);
        Checks.faultAt(AP + "row a p at 1 1 weight |0;", 2);
        Checks.faultAt(AP + "row a p at 1 1 weight |10;", 2);
        Checks.faultAt(AP + "row a p at 1 1 weight |10x", 2);
        Checks.faultAt(AP + "control p at 1 1 set |0;", 2);
        Checks.faultAt(AP + "control p at 1 1 set |3;", 2);
        Checks.faultAt(AP + "centre a at 1 1 weight |0;", 2);
        Checks.faultAt(AP + "centre a at 1 1 weight |10;", 2);
    }

    private static void tooMany() {
        StringBuilder strips = new StringBuilder();
        for (char c = 'a'; c < 'g'; c++) strips.append("strip ").append(c).append(';');
        Checks.right(strips.toString());
        Checks.faultAt(strips + "|strip g;", 4);
        Checks.faultAt(strips + " |strip !", 4);
        Checks.faultAt(strips + " |strip7", 4);
        Checks.faultAt(strips + " |strips g;", 1);
        StringBuilder pictures = new StringBuilder(S);
        for (char c = 'a'; c < 'm'; c++) pictures.append("picture ").append(c).append(" in s turn 0;");
        Checks.faultAt(pictures + "|picture m in s turn 0;", 4);
        StringBuilder points = new StringBuilder();
        for (char c = 'a'; c < 'u'; c++) points.append("point ").append(c).append(';');
        Checks.right(points.toString());
        Checks.faultAt(points + "|point z;", 4);
        for (char c = 'a'; c < 'k'; c++) points.append("control ").append(c).append(" at 1 1 set 1;");
        Checks.right(points.toString());
        Checks.faultAt(points + "|control k at 1 1 set 1;", 4);
    }

    /** With a centre of every picture a further one has the faults that it has by itself. */
    private static void centresHaveNoNumber() {
        StringBuilder all = new StringBuilder(S);
        for (char c = 'a'; c < 'm'; c++) all.append("picture ").append(c).append(" in s turn 0;");
        for (char c = 'a'; c < 'm'; c++) all.append("centre ").append(c).append(" at 1 1 weight 1;");
        Checks.right(all.toString());
        Checks.right(all + "point p;control p at 1 1 set 1;row a p at 1 1 weight 1;");
        Checks.due("centres", Checks.made(all.toString(), 25).has(5), 12);
        for (char c = 'a'; c < 'm'; c++) {
            Checks.faultAt(all + "centre |" + c, 3);
            Checks.faultAt(all + "centre |" + c + " at 1 1 weight 1;", 3);
        }
        Checks.faultAt(all + "centre |a at 1 1 weight 0;", 3);
        Checks.faultAt(all + "centre |a !", 3);
        Checks.faultAt(all + "centre |s at 1 1 weight 1;", 3);
        Checks.faultAt(all + "centre |nobody", 3);
        Checks.faultAt(all + "point p;centre |p at 1 1 weight 1;", 3);
        Checks.faultAt(all + "centre|", 1);
        Checks.faultAt(all + "centre  |", 1);
        Checks.faultAt(all + "centre |;", 1);
        Checks.faultAt(all + "centre|7", 1);
        Checks.faultAt(all + "centre |7", 1);
        Checks.faultAt(all + "centre |at 1 1 weight 1;", 1);
        Checks.faultAt(all + "centre |centre", 1);
        Checks.faultAt(all + "centre abcdef|g", 1);
        Checks.faultAt(all + "|centres a at 1 1 weight 1;", 1);
        Checks.faultAt(all + "|centr", 1);
        Checks.faultAt(all + "|picture n in s turn 0;", 4);
    }

    private static void faultLeavesAll() {
        PictureBlock x = Checks.made(AP + "row a p at 1 2 weight 3;control p at 5 6 set 2;", 5);
        Checks.due("sets", x.sets(1), 0);
        Checks.due("drop", x.drop(0, true), true);
        Checks.due("block with a fault", Checks.block(x, S + "point p;point q;point q;"), -1);
        int[] has = {1, 1, 1, 1, 1, 0, 1, 1, 0, -1};
        for (int what = 0; what < has.length; what++) Checks.due("kept has " + what, x.has(what), has[what]);
        Checks.due("has -1", x.has(-1), -1);
        Checks.due("kept row", x.row(0, 3), 2);
        Checks.due("kept point", x.point(0, 0), 500);
        Checks.due("block again", Checks.block(x, AP + "control p at 7 8 set 1;centre a at 1 1 weight 1;"), 5);
        int[] then = {1, 1, 1, 0, 1, 1, 0, 3, 1};
        for (int what = 0; what < then.length; what++) Checks.due("then has " + what, x.has(what), then[what]);
        Checks.due("then point", x.point(0, 1), 800);
        Checks.due("fault gone", x.fault(0), 0);
        Checks.due("fault place gone", x.fault(1), -1);
    }

    private static void letters() {
        PictureBlock x = Checks.made("strip abz;strip zzzzzz;picture q in abz turn 1;point mnopqr;", 4);
        int[] abz = {1, 2, 26, 0, 0, 0};
        int[] mnopqr = {13, 14, 15, 16, 17, 18};
        for (int k = 0; k < 6; k++) {
            Checks.due("letter of abz", x.letter(0, 0, k), abz[k]);
            Checks.due("letter of zzzzzz", x.letter(0, 1, k), 26);
            Checks.due("letter of q", x.letter(1, 0, k), k == 0 ? 17 : 0);
            Checks.due("letter of mnopqr", x.letter(2, 0, k), mnopqr[k]);
        }
        int[][] none = {{0, 2, 0}, {0, -1, 0}, {1, 1, 0}, {2, 1, 0}, {3, 0, 0}, {-1, 0, 0}, {0, 0, 6}, {0, 0, -1}};
        for (int[] n : none) Checks.due("letter none", x.letter(n[0], n[1], n[2]), -1);
    }
}
