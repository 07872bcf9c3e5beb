import java.lang.reflect.Constructor;
import java.lang.reflect.Field;
import java.lang.reflect.Method;
import java.util.ArrayList;
import java.util.List;

/** Term I, promises 1 to 7: each sentence that names a limit, an edge or a refusal, by itself. */
public final class TextLimitsTest {
    private static final String S = "strip s;";
    private static final String A = S + "picture a in s turn 0;";
    private static final String AP = A + "point p;";
    private static final String ONE_OF_EACH = AP + "row a p at 1 2 weight 3;control p at 4 5 set 1;centre a at 6 7 weight 8;";
    private static final String[] OWN = {"strip", "picture", "in", "turn", "any", "point", "row", "at", "weight", "control",
        "set", "centre"};
    private static final int[] EXTREMES = {-1, Integer.MIN_VALUE, Integer.MAX_VALUE};

    public static void main(String[] args) throws ReflectiveOperationException {
        howManyStatements();
        howManyRows();
        howManyStrips();
        howManyPictures();
        howManyPoints();
        howManyControls();
        howManyCentres();
        turns();
        aStrip();
        aPictureAPoint();
        measuredPlaces();
        weights();
        controls();
        centres();
        lettersOfWords();
        digitsOfNumbers();
        blanks();
        sideBySide();
        lettersOfNames();
        ownWords();
        unlikeNames();
        toldAhead();
        theFirstFault();
        wholeAtTheirFirstByte();
        sevenLetters();
        fiveDigits();
        endsTooSoon();
        eachByte();
        newObject();
        calls512();
        twentyBytes();
        tapeFull();
        tapeEnd();
        blockTakesTheTape();
        blockOfNothing();
        blockWithAFault();
        blockWithoutAFault();
        blockBehindAnother();
        faultOfTheLatest();
        hasOthers();
        letters();
        Checks.finish("TextLimitsTest");
    }

    // ---- Term I: how many there are

    private static String namePair(int k) {
        return (char) ('a' + k / 20) + "" + (char) ('a' + k % 20);
    }

    /** As many of each kind as there can be: 120 statements. */
    private static String fullest() {
        StringBuilder t = new StringBuilder(Checks.times(6, "strip s%;") + Checks.times(12, "picture p% in sa turn any;")
            + Checks.times(20, "point q%;"));
        for (int r = 0; r < 60; r++) {
            String pair = namePair(r);
            t.append("row p").append(pair.charAt(0)).append(" q").append(pair.charAt(1)).append(" at 1 1 weight 1;");
        }
        return t + Checks.times(10, "control q% at 1 1 set 1;") + Checks.times(12, "centre p% at 1 1 weight 1;");
    }

    /** Statements, fault and place that the reader finds in a text for which the tape is too short. */
    private static int[] readLong(String text) throws ReflectiveOperationException {
        Constructor<?> toldMaker = Class.forName("PictureBlock$Told").getDeclaredConstructor();
        toldMaker.setAccessible(true);
        Object told = toldMaker.newInstance();
        Class<?> kind = Class.forName("PictureBlock$Reader");
        Constructor<?> readerMaker = kind.getDeclaredConstructor(int[].class, told.getClass());
        readerMaker.setAccessible(true);
        Object reader = readerMaker.newInstance(Checks.bytes(text), told);
        Method read = kind.getDeclaredMethod("read", int.class);
        read.setAccessible(true);
        Field fault = kind.getDeclaredField("fault");
        fault.setAccessible(true);
        Field place = kind.getDeclaredField("place");
        place.setAccessible(true);
        Object statements = read.invoke(reader, text.length());
        return new int[] {(Integer) statements, fault.getInt(reader), place.getInt(reader)};
    }

    private static void longFault(String text, int kind, int place) throws ReflectiveOperationException {
        int[] found = readLong(text);
        String end = text.substring(place);
        Checks.due("statements, with <" + end + "> behind", found[0], PictureBlock.NONE);
        Checks.due("fault of <" + end + ">", found[1], kind);
        Checks.due("place of <" + end + ">", found[2], place);
    }

    private static void howManyStatements() throws ReflectiveOperationException {
        Checks.sentence("I: 120 at most; a 121st STATEMENT (whatever stands there), at its first byte");
        String full = fullest();
        String[] right = {full, full + " \n"};
        for (String text : right) {
            int[] found = readLong(text);
            Checks.due("statements", found[0], 120);
            Checks.due("fault", found[1], 0);
            Checks.due("place", found[2], PictureBlock.NONE);
        }
        String[] whatever = {"strip t;", "centre pa at 1 1 weight 1;", "picture", "x", "strips", ";", "7", "!", "(", "in", "any;"};
        for (String further : whatever) {
            longFault(full + further, 4, full.length());
            longFault(full + " \n " + further, 4, full.length() + 3);
        }
        String less = full.substring(0, full.lastIndexOf("centre"));
        longFault(less + "x", 1, less.length());
        longFault(less + "centre pa at 1 1 weight 1;", 3, less.length() + 7);
        longFault(less + "centre pl at 1 1 weight 1;;".substring(0, 25), 1, less.length() + 25);
    }

    private static void howManyRows() throws ReflectiveOperationException {
        Checks.sentence("I: 60 ROWS");
        String full = fullest();
        String rows = full.substring(0, full.indexOf("control"));
        Checks.due("with 60 rows", readLong(rows)[0], 98);
        longFault(rows + "row pe qa at 1 1 weight 1;", 4, rows.length());
        longFault(rows + "row !", 4, rows.length());
        longFault(rows + "rows pe qa at 1 1 weight 1;", 1, rows.length());
        String fitting = S + Checks.times(3, "picture % in s turn 0;") + Checks.times(19, "point q%;");
        StringBuilder t = new StringBuilder(fitting);
        for (int r = 0; r < 54; r++) {
            t.append("row ").append((char) ('a' + r / 19)).append(" q").append((char) ('a' + r % 19)).append(" at 1 1 weight 1;");
        }
        Checks.due("rows that the tape can hold", Checks.told(t.toString()).has(3), 54);
    }

    private static void howManyStrips() {
        Checks.sentence("I: strip NAME (6 STRIPS); 4 one too many of a kind, at its first byte");
        String full = Checks.times(6, "strip %;");
        Checks.right(full);
        Checks.faultAt(full + "|strip g;", 4);
        Checks.faultAt(full + "\n |strip g;", 4);
        Checks.faultAt(full + "|strip a;", 4);
        Checks.faultAt(full + "|strip", 4);
        Checks.right(full + "point g;picture h in f turn 0;");
    }

    private static void howManyPictures() {
        Checks.sentence("I: 12 PICTURES");
        String full = S + Checks.times(12, "picture p% in s turn 0;");
        Checks.due("pictures", Checks.told(full).has(1), 12);
        Checks.faultAt(full + "|picture m in s turn 0;", 4);
        Checks.faultAt(full + "|picture in", 4);
        Checks.faultAt(full + "|pictures m in s turn 0;", 1);
        Checks.right(full + "strip t;point p;");
    }

    private static void howManyPoints() {
        Checks.sentence("I: 20 POINTS");
        String full = Checks.times(20, "point %;");
        Checks.due("points", Checks.told(full).has(2), 20);
        Checks.faultAt(full + "|point u;", 4);
        Checks.faultAt(full + "|point 7", 4);
        Checks.right(full + "strip u;");
    }

    private static void howManyControls() {
        Checks.sentence("I: 10 CONTROLS");
        String full = Checks.times(11, "point %;") + Checks.times(10, "control % at 1 1 set 2;");
        Checks.due("controls", Checks.told(full).has(4), 10);
        Checks.faultAt(full + "|control k at 1 1 set 1;", 4);
        Checks.faultAt(full + "|control a at 1 1 set 1;", 4);
        Checks.faultAt(full + "|control", 4);
        Checks.right(full + "point l;");
    }

    private static void howManyCentres() {
        Checks.sentence("I: centre NAME at N N weight N (a PICTURE that has none yet): as many as PICTURES");
        String full = S + Checks.times(12, "picture % in s turn 0;") + Checks.times(12, "centre % at 1 1 weight 1;");
        Checks.due("centres", Checks.told(full).has(5), 12);
        Checks.faultAt(full + "centre |l at 1 1 weight 1;", 3);
        Checks.faultAt(full + "centre |m at 1 1 weight 1;", 3);
        Checks.right(full + "strip t;");
    }

    // ---- Term I: what may stand where

    private static void turns() {
        Checks.sentence("I: picture NAME in NAME turn N, or turn any (0 .. 3); 2 a number that can't be, at it");
        String ahead = S + "picture a in s turn ";
        for (int turn = 0; turn < 4; turn++) {
            PictureBlock x = Checks.told(ahead + turn + ";");
            Checks.due("turn", x.picture(0, 1), turn);
            Checks.due("turn any", x.picture(0, 2), 0);
        }
        Checks.due("turn any", Checks.told(ahead + "any;").picture(0, 2), 1);
        Checks.right(ahead + "0003;");
        Checks.faultAt(ahead + "|4;", 2);
        Checks.faultAt(ahead + "|0004;", 2);
        Checks.faultAt(ahead + "|9999", 2);
        Checks.faultAt(ahead + "|an;", 1);
        Checks.faultAt(ahead + "|anyy;", 1);
        Checks.faultAt(ahead + "|in;", 1);
        Checks.faultAt(S + "picture a in s |any;", 1);
    }

    private static void aStrip() {
        Checks.sentence("I: picture NAME in NAME (a STRIP)");
        Checks.right(S + "strip t;picture a in t turn 0;");
        Checks.faultAt(AP + "picture b in |a turn 0;", 3);
        Checks.faultAt(AP + "picture b in |p turn 0;", 3);
        Checks.faultAt(AP + "picture b in |b turn 0;", 3);
        Checks.faultAt(AP + "picture b in |t turn 0;", 3);
    }

    private static void aPictureAPoint() {
        Checks.sentence("I: row NAME NAME (a PICTURE, a POINT that has no ROW in it yet)");
        String two = AP + "picture b in s turn 0;point q;row a p at 1 1 weight 1;";
        Checks.right(two + "row a q at 1 1 weight 1;row b p at 1 1 weight 1;row b q at 1 1 weight 1;");
        Checks.faultAt(two + "row a |p at 1 1 weight 1;", 3);
        Checks.faultAt(two + "row b p at 1 1 weight 1;row a |p", 3);
        Checks.faultAt(two + "row |s p at 1 1 weight 1;", 3);
        Checks.faultAt(two + "row |p p at 1 1 weight 1;", 3);
        Checks.faultAt(two + "row |x p at 1 1 weight 1;", 3);
        Checks.faultAt(two + "row b |s at 1 1 weight 1;", 3);
        Checks.faultAt(two + "row b |a at 1 1 weight 1;", 3);
        Checks.faultAt(two + "row b |x at 1 1 weight 1;", 3);
    }

    private static void measuredPlaces() {
        Checks.sentence("I: at N N, 0 .. 9999 both");
        String[] statements = {"row a p at ", "control p at ", "centre a at "};
        String[] ends = {" weight 1;", " set 1;", " weight 1;"};
        for (int k = 0; k < statements.length; k++) {
            Checks.right(AP + statements[k] + "0 9999" + ends[k]);
            Checks.right(AP + statements[k] + "9999 0" + ends[k]);
            Checks.right(AP + statements[k] + "0000 0009" + ends[k]);
            Checks.faultAt(AP + statements[k] + "1000|0 1" + ends[k], 1);
            Checks.faultAt(AP + statements[k] + "1 1000|0" + ends[k], 1);
            Checks.faultAt(AP + statements[k] + "|-1 1" + ends[k], 1);
            Checks.faultAt(AP + statements[k] + "1 |any" + ends[k], 1);
            Checks.faultAt(AP + statements[k] + "1 |" + ends[k].trim(), 1);
            Checks.faultAt(AP + statements[k] + "1 1 |1" + ends[k], 1);
        }
        PictureBlock x = Checks.told(AP + "row a p at 9999 0 weight 1;control p at 0 9999 set 1;");
        Checks.due("u", x.row(0, 2), 9999);
        Checks.due("v", x.row(0, 3), 0);
        Checks.due("across", x.point(0, 0), 0);
        Checks.due("along", x.point(0, 1), 999900);
    }

    private static void weights() {
        Checks.sentence("I: weight N, 1 .. 9");
        String[] ahead = {AP + "row a p at 1 1 weight ", AP + "centre a at 1 1 weight "};
        for (String text : ahead) {
            for (int weight = 1; weight < 10; weight++) Checks.right(text + weight + ";");
            Checks.right(text + "0009;");
            Checks.faultAt(text + "|0;", 2);
            Checks.faultAt(text + "|0000;", 2);
            Checks.faultAt(text + "|10;", 2);
            Checks.faultAt(text + "|9999;", 2);
            Checks.faultAt(text + "|any;", 1);
        }
        Checks.due("weight 9", Checks.told(ahead[0] + "9;").row(0, 4), 9);
    }

    private static void controls() {
        Checks.sentence("I: control NAME at N N set N (a POINT that has none yet, 1 or 2)");
        String ahead = AP + "point q;control p at 1 1 set ";
        Checks.right(ahead + "1;control q at 1 1 set 2;");
        Checks.right(ahead + "2;control q at 1 1 set 0001;");
        Checks.faultAt(ahead + "|0;", 2);
        Checks.faultAt(ahead + "|3;", 2);
        Checks.faultAt(ahead + "|12;", 2);
        Checks.faultAt(ahead + "1;control |p at 2 2 set 2;", 3);
        Checks.faultAt(ahead + "1;control |a at 2 2 set 2;", 3);
        Checks.faultAt(ahead + "1;control |s at 2 2 set 2;", 3);
        Checks.faultAt(ahead + "1;control |x at 2 2 set 2;", 3);
    }

    private static void centres() {
        Checks.sentence("I: centre NAME (a PICTURE that has none yet)");
        String ahead = AP + "picture b in s turn 0;centre a at 1 1 weight 1;";
        Checks.right(ahead + "centre b at 1 1 weight 1;");
        Checks.faultAt(ahead + "centre |a at 1 1 weight 1;", 3);
        Checks.faultAt(ahead + "centre |p at 1 1 weight 1;", 3);
        Checks.faultAt(ahead + "centre |s at 1 1 weight 1;", 3);
        Checks.faultAt(ahead + "centre |x at 1 1 weight 1;", 3);
    }

    // ---- Term I: words, numbers, blanks, names

    private static void lettersOfWords() {
        Checks.sentence("I: WORDS are rows of letters a .. z");
        Checks.right("strip azaz;strip z;strip a;");
        int[] beside = {'a' - 1, 'z' + 1, 'A', 'Z', '_', '-', 0, 127, 128, 'a' + 128, 'z' + 128, 255};
        for (int sign : beside) {
            Checks.faultAt("strip |" + (char) sign + ";", 1);
            Checks.faultAt("strip az|" + (char) sign + ";", 1);
            Checks.faultAt("|" + (char) sign + "trip a;", 1);
        }
    }

    private static void digitsOfNumbers() {
        Checks.sentence("I: NUMBERS 1 to 4 digits");
        String ahead = AP + "row a p at ";
        String[] numbers = {"0", "9", "10", "99", "100", "999", "1000", "9999", "00", "000", "0000", "0009"};
        for (String number : numbers) {
            PictureBlock x = Checks.told(ahead + number + " 9 weight 1;");
            Checks.due("number " + number, x.row(0, 2), Integer.parseInt(number));
        }
        int[] beside = {'0' - 1, '9' + 1, '+', '-', '.', '0' + 128, '9' + 128};
        for (int sign : beside) {
            Checks.faultAt(ahead + "|" + (char) sign + " 1 weight 1;", 1);
            Checks.faultAt(ahead + "1|" + (char) sign + " 1 weight 1;", 1);
        }
        Checks.faultAt(ahead + "|x 1 weight 1;", 1);
        Checks.faultAt(ahead + "|weight 1;", 1);
    }

    private static void blanks() {
        Checks.sentence("I: blanks (10, 32) are where one likes");
        Checks.right("\n \nstrip\n\ns \n;\n picture  a\nin s turn\n any\n; point p ;row a\np at\n1\n1 weight\n1\n;control p at 1 1 set 2 ; "
            + "centre\na at 0\n0 weight 9\n;\n");
        Checks.right(" ".repeat(797) + S + "\n".repeat(795));
        int[] none = {9, 11, 12, 13, 31, 33, 10 + 128, 32 + 128};
        for (int sign : none) {
            Checks.faultAt("|" + (char) sign + S, 1);
            Checks.faultAt("strip|" + (char) sign + "s;", 1);
            Checks.faultAt("strip s|" + (char) sign + ";", 1);
            Checks.faultAt(S + "|" + (char) sign, 1);
        }
    }

    private static void sideBySide() {
        Checks.sentence("I: words and numbers side by side need one; at its first byte");
        Checks.right(ONE_OF_EACH);
        Checks.faultAt(S + "picture a in s turn|0;", 1);
        Checks.faultAt(S + "picture a in s turn|4;", 1);
        Checks.faultAt(S + "picture a in s turn|00000;", 1);
        String[] ahead = {AP + "row a p ", AP + "control p ", AP + "centre a "};
        String[] words = {"weight", "set", "weight"};
        for (int k = 0; k < ahead.length; k++) {
            Checks.faultAt(ahead[k] + "at|1 1 " + words[k] + " 1;", 1);
            Checks.faultAt(ahead[k] + "at|12345 1 " + words[k] + " 1;", 1);
            Checks.faultAt(ahead[k] + "at 1 1|" + words[k] + " 1;", 1);
            Checks.faultAt(ahead[k] + "at 1 1 " + words[k] + "|1;", 1);
            Checks.faultAt(ahead[k] + "at 1 1 " + words[k] + "|0;", 1);
        }
        Checks.faultAt("strip s|1;", 1);
        Checks.faultAt("strip s |1;", 1);
        Checks.faultAt(S + "picture a in s turn 1|any;", 1);
    }

    private static void lettersOfNames() {
        Checks.sentence("I: NAMES: WORDS of 1 to 6 letters; a 7th letter at itself");
        Checks.right("strip a;strip ab;strip abc;strip abcd;strip abcde;strip abcdef;");
        Checks.faultAt("strip |;", 1);
        Checks.faultAt("strip |7;", 1);
        String ahead = "strip abcdef;picture bcdefg in abcdef turn 0;point cdefgh;";
        String[] asked = {"strip ", "picture ", "picture p in ", "point ", "row ", "row bcdefg ", "control ", "centre "};
        String[] right = {"", "", "abcde", "", "bcdef", "cdefg", "cdefg", "bcdef"};
        for (int k = 0; k < asked.length; k++) {
            Checks.faultAt(ahead + asked[k] + "uvwxyz|a;", 1);
            Checks.faultAt(ahead + asked[k] + "uvwxyz|abcdefghij;", 1);
            // six of its letters are a name that would be right
            Checks.faultAt(ahead + asked[k] + (right[k] + "uvwxyz").substring(0, 6) + "|a", 1);
        }
        Checks.faultAt("strip abcdef;picture g in abcdef|g turn 0;", 1);
    }

    private static void ownWords() {
        Checks.sentence("I: NAMES: no OWN WORD; where a NAME is asked, an OWN WORD so, however long");
        String[] asked = {"strip ", "picture ", "picture b in ", "point ", "row ", "row a ", "control ", "centre "};
        for (String word : OWN) {
            for (String ahead : asked) {
                Checks.faultAt(AP + ahead + "|" + word + ";", 1);
                Checks.faultAt(AP + ahead + "|" + word, 1);
            }
            String longer = word + "s";
            if (longer.length() <= 6) Checks.right("strip " + longer + ";");
            else Checks.faultAt("strip " + longer.substring(0, 6) + "|" + longer.substring(6) + ";", 1);
            Checks.right("strip " + word.substring(0, Math.min(5, word.length() - 1)) + ";");
        }
    }

    private static void unlikeNames() {
        Checks.sentence("I: NAMES: unlike ones; 3 a NAME to be given that is there already");
        String ahead = "strip sss;picture aaa in sss turn 0;point ppp;";
        String[] there = {"sss", "aaa", "ppp"};
        for (String name : there) {
            Checks.faultAt(ahead + "strip |" + name + ";", 3);
            Checks.faultAt(ahead + "picture |" + name + " in sss turn 0;", 3);
            Checks.faultAt(ahead + "point |" + name + ";", 3);
            Checks.right(ahead + "strip " + name.substring(1) + ";point " + name + name + ";");
        }
        Checks.right("strip a;strip aa;strip aaa;point aaaa;point aaaaa;point aaaaaa;");
        Checks.right("strip b;strip ba;point ab;");
    }

    private static void toldAhead() {
        Checks.sentence("I: told ahead of where they are asked");
        Checks.faultAt("picture a in |s turn 0;strip s;", 3);
        Checks.faultAt(S + "point p;row |a p at 1 1 weight 1;picture a in s turn 0;", 3);
        Checks.faultAt(A + "row a |p at 1 1 weight 1;point p;", 3);
        Checks.faultAt("control |p at 1 1 set 1;point p;", 3);
        Checks.faultAt(S + "centre |a at 1 1 weight 1;picture a in s turn 0;", 3);
    }

    // ---- Term I: faults

    private static void theFirstFault() {
        Checks.sentence("I: FAULTS, the first along the text");
        Checks.faultAt(S + "picture a in s turn |4;strip s;!", 2);
        Checks.faultAt(S + "strip |s;picture a in s turn 4;!", 3);
        Checks.faultAt(S + "|!;strip s;", 1);
        Checks.faultAt(AP + "row a p at 1 1 weight |0 weight", 2);
        Checks.faultAt(AP + "row a |a at 1 1 weight 0;", 3);
        Checks.faultAt(AP + "row |p a at 1 1 weight 1;", 3);
        Checks.faultAt(AP + "control p at 1 1 set 1;control |p at 12345 1 set 3;", 3);
        Checks.faultAt(AP + "control p at 1234|5 1 set 3;", 1);
        Checks.faultAt(Checks.times(6, "strip %;") + "|strip a;!", 4);
        Checks.faultAt(Checks.times(6, "strip %;") + "picture g in |g turn 0;strip g;", 3);
    }

    private static void wholeAtTheirFirstByte() {
        Checks.sentence("I: 1 the first byte with which no such text goes on (words and numbers whole, at their first byte)");
        for (String word : OWN) {
            boolean begins = "strip picture point row control centre".contains(word) && !word.equals("in");
            if (!begins) Checks.faultAt(S + "|" + word + " a;", 1);
            Checks.faultAt(S + "|" + word + "x a;", 1);
            Checks.faultAt(S + "|x" + word + " a;", 1);
            Checks.faultAt(S + "|" + word.substring(0, word.length() - 1) + " a;", 1);
            if (!word.equals("in")) Checks.faultAt(S + "picture a |" + word + " s turn 0;", 1);
            if (!word.equals("turn")) Checks.faultAt(S + "picture a in s |" + word + " 0;", 1);
            if (!word.equals("any")) Checks.faultAt(S + "picture a in s turn |" + word + ";", 1);
            if (!word.equals("at")) Checks.faultAt(AP + "row a p |" + word + " 1 1 weight 1;", 1);
            if (!word.equals("weight")) Checks.faultAt(AP + "row a p at 1 1 |" + word + " 1;", 1);
            if (!word.equals("set")) Checks.faultAt(AP + "control p at 1 1 |" + word + " 1;", 1);
            Checks.faultAt(AP + "row a p at |" + word + " 1 weight 1;", 1);
        }
        Checks.faultAt(S + "|12345;", 1);
        Checks.faultAt("strip s |12345;", 1);
        Checks.faultAt("strip |12345;", 1);
        Checks.faultAt(S + "picture a |12345;", 1);
        Checks.faultAt(S + "|abcdefgh;", 1);
        Checks.faultAt(S + "picture a |abcdefgh;", 1);
        Checks.faultAt("strip s |abcdefgh;", 1);
        Checks.faultAt(S + "|;", 1);
    }

    private static void sevenLetters() {
        Checks.sentence("I: of another WORD a 7th letter at itself");
        Checks.faultAt("strip pictur|es;", 1);
        Checks.faultAt("strip contro|ls;", 1);
        Checks.faultAt("strip contro|ller", 1);
        Checks.faultAt("strip weight|s;", 1);
        Checks.faultAt("strip aaaaaa|a", 1);
        Checks.faultAt("strip zzzzzz|z7", 1);
        Checks.faultAt("strip strips|trip", 1);
        // the name of six letters is there already, or is none that is asked; with a 7th one it is neither
        Checks.faultAt("strip abcdef;strip abcdef|g;", 1);
        Checks.faultAt("strip abcdef;picture a in abcdex|y turn 0;", 1);
        Checks.fault("strip abcdef;picture a in abcdex turn 0;", 3, 26);
    }

    private static void fiveDigits() {
        Checks.sentence("I: where a number is asked, a 5th digit at itself");
        Checks.faultAt(S + "picture a in s turn 0000|0;", 1);
        Checks.faultAt(S + "picture a in s turn 0000|04", 1);
        Checks.faultAt(AP + "row a p at 9999|9 1 weight 1;", 1);
        Checks.faultAt(AP + "row a p at 1 0000|1", 1);
        Checks.faultAt(AP + "row a p at 1 1 weight 0000|1;", 1);
        Checks.faultAt(AP + "control p at 1 1 set 0000|2;", 1);
        Checks.faultAt(AP + "centre a at 1 1 weight 0000|9;", 1);
        Checks.faultAt(AP + "centre a at 1234|56789012345678901234567890 1 weight 9;", 1);
    }

    private static void endsTooSoon() {
        Checks.sentence("I: at the text's length, if it ends too soon");
        for (int n = 0; n <= ONE_OF_EACH.length(); n++) {
            String text = ONE_OF_EACH.substring(0, n);
            if (n == 0 || text.charAt(n - 1) == ';') {
                Checks.right(text);
                Checks.right(text + " \n");
                continue;
            }
            int from = n;
            if (n < ONE_OF_EACH.length() && isLetter(n)) {
                while (from > 0 && isLetter(from - 1)) from--;
            }
            // a word that is cut is another word, whole at its first byte
            Checks.fault(text, 1, from);
            Checks.fault(text + " \n", 1, from < n ? from : n + 2);
        }
    }

    private static boolean isLetter(int at) {
        return ONE_OF_EACH.charAt(at) >= 'a' && ONE_OF_EACH.charAt(at) <= 'z';
    }

    private static void eachByte() {
        Checks.sentence("I: each byte where a STATEMENT, a NAME, a number, a semicolon is asked");
        for (int octet = 0; octet < 256; octet++) {
            char sign = (char) octet;
            boolean letter = octet >= 'a' && octet <= 'z';
            boolean digit = octet >= '0' && octet <= '9';
            boolean blank = octet == 10 || octet == 32;
            if (blank) Checks.right(S + sign + "strip t;");
            else Checks.faultAt(S + "|" + sign + "strip t;", 1);
            if (letter) Checks.right("strip " + sign + ";");
            else Checks.faultAt(blank ? "strip " + sign + "|;" : "strip |" + sign + ";", 1);
            String ahead = S + "picture a in s turn ";
            if (digit && octet < '4') Checks.right(ahead + sign + ";");
            else if (digit) Checks.faultAt(ahead + "|" + sign + ";", 2);
            else Checks.faultAt(blank ? ahead + sign + "|;" : ahead + "|" + sign + ";", 1);
            if (octet == ';') Checks.right(ahead + "0" + sign);
            else if (digit) Checks.faultAt(ahead + (octet < '4' ? "0" + sign + "|" : "|0" + sign), octet < '4' ? 1 : 2);
            else Checks.faultAt(ahead + (blank ? "0" + sign + "|" : "0|" + sign), 1);
        }
    }

    // ---- promises 1 to 3

    private static void newObject() {
        Checks.sentence("1: Nothing is told");
        PictureBlock x = new PictureBlock();
        int[] has = {0, 0, 0, 0, 0, 0, 0, 3, 0};
        for (int what = 0; what < has.length; what++) Checks.due("has " + what, x.has(what), has[what]);
        for (int kind = 0; kind < 3; kind++) Checks.due("letter", x.letter(kind, 0, 0), PictureBlock.NONE);
        Checks.due("picture", x.picture(0, 0), PictureBlock.NOTHING);
        Checks.due("point", x.point(0, 0), PictureBlock.NOTHING);
        Checks.due("row", x.row(0, 0), PictureBlock.NOTHING);
        Checks.due("drift", x.drift(0, 0), PictureBlock.NOTHING);
        Checks.due("fault", x.fault(0), 0);
        Checks.due("place", x.fault(1), PictureBlock.NONE);
        Checks.due("the tape is empty", x.end(1), false);
        Checks.due("octet", x.octet(0), PictureBlock.NONE);
        Checks.due("another object", Checks.told(ONE_OF_EACH).has(3), 1);
        Checks.due("tells this one nothing", x.has(3), 0);
    }

    private static void calls512() {
        Checks.sentence("An object is used for at most 512 calls after it has been made");
        PictureBlock x = Checks.told(ONE_OF_EACH);
        // those to feed, one to end, one to block
        int ahead = (ONE_OF_EACH.length() + 19) / 20 + 2;
        for (int call = ahead + 1; call < 512; call++) Checks.due("drop", x.drop(0, (call - ahead) % 2 == 1), true);
        Checks.due("the last one", x.has(6), (511 - ahead) % 2);
    }

    private static void twentyBytes() {
        Checks.sentence("2: Twenty bytes come behind those on the tape, of each number the highest first: how many there are");
        PictureBlock x = new PictureBlock();
        int[] text = Checks.bytes("strip abcdef;point ghijkl;strip mnop;   ");
        int[] fives = new int[10];
        for (int k = 0; k < 40; k++) fives[k / 4] = fives[k / 4] * 256 + text[k];
        Checks.due("first", x.feed(fives[0], fives[1], fives[2], fives[3], fives[4]), 20);
        Checks.due("behind", x.feed(fives[5], fives[6], fives[7], fives[8], fives[9]), 40);
        Checks.due("block", x.block(), 3);
        for (int k = 0; k < 6; k++) {
            Checks.due("letter", x.letter(0, 0, k), 1 + k);
            Checks.due("letter", x.letter(2, 0, k), 7 + k);
        }
        // each of the four bytes of each of the five numbers is one that no text goes on with
        for (int at = 0; at < 20; at++) {
            for (int sign = 128; sign < 256; sign += 127) {
                int[] blank = {0x20202020, 0x20202020, 0x20202020, 0x20202020, 0x20202020};
                int shift = 24 - 8 * (at % 4);
                blank[at / 4] = blank[at / 4] & ~(255 << shift) | sign << shift;
                x = new PictureBlock();
                Checks.due("feed", x.feed(blank[0], blank[1], blank[2], blank[3], blank[4]), 20);
                Checks.due("block", x.block(), PictureBlock.NONE);
                Checks.due("place of byte " + at, x.fault(1), at);
            }
        }
    }

    private static void tapeFull() {
        Checks.sentence("2: NONE, doing nothing, if there would be more than 1600");
        int blank = 0x20202020;
        int[] left = {1600, 1599, 1581, 1580};
        for (int has : left) {
            PictureBlock x = new PictureBlock();
            for (int n = 20; n <= 1600; n += 20) Checks.due("feed", x.feed(blank, blank, blank, blank, blank), n);
            Checks.due("full", x.feed(0, 0, 0, 0, 0), PictureBlock.NONE);
            Checks.due("still full", x.feed(0, 0, 0, 0, 0), PictureBlock.NONE);
            Checks.due("end", x.end(has), true);
            int due = has == 1580 ? 1600 : PictureBlock.NONE;
            Checks.due("feed behind " + has, x.feed(0, 0, 0, 0, 0), due);
            Checks.due("no more than these", x.end(has + 1), has == 1580);
            Checks.due("these", x.end(has), true);
            Checks.due("nothing came", x.block(), 0);
        }
    }

    private static void tapeEnd() {
        Checks.sentence("3: The tape has its first n bytes alone: true; false, doing nothing, if it has not so many, or n is below 0");
        PictureBlock x = new PictureBlock();
        Checks.due("none of none", x.end(0), true);
        Checks.due("one of none", x.end(1), false);
        for (int n : EXTREMES) Checks.due("none such of none", x.end(n), false);
        Checks.feed(x, Checks.bytes("strip a;strip b;    "), 0);
        int[] wrong = {21, 1600, -1, -20, Integer.MIN_VALUE, Integer.MAX_VALUE};
        for (int n : wrong) Checks.due("end " + n, x.end(n), false);
        Checks.due("as many as there are", x.end(20), true);
        Checks.due("fewer", x.end(8), true);
        Checks.due("what is gone doesn't come back", x.end(9), false);
        Checks.due("below 0", x.end(-8), false);
        Checks.due("block", x.block(), 1);
        Checks.feed(x, Checks.bytes(S), 0);
        Checks.due("none", x.end(0), true);
        Checks.due("block of none", x.block(), 0);
    }

    // ---- promises 4 and 5

    private static void blockTakesTheTape() {
        Checks.sentence("4: The tape (it goes) is THE BLOCK: how many STATEMENTS");
        PictureBlock x = new PictureBlock();
        Checks.due("one of each", Checks.block(x, ONE_OF_EACH), 6);
        Checks.due("the tape went", x.end(1), false);
        Checks.due("feed", x.feed(0x2a202020, 0, 0, 0, 0), 20);
        Checks.due("fault", x.block(), PictureBlock.NONE);
        Checks.due("the tape went with a fault too", x.end(1), false);
        Checks.due("from the start again", x.feed(0x20202020, 0x20202020, 0x20202020, 0x20202020, 0x20202020), 20);
    }

    private static void blockOfNothing() {
        Checks.sentence("4: how many STATEMENTS: none");
        PictureBlock x = Checks.told(ONE_OF_EACH);
        Checks.due("empty tape", x.block(), 0);
        for (int what = 0; what <= 6; what++) Checks.due("has " + what, x.has(what), 0);
        Checks.due("blanks", Checks.block(x, " \n \n"), 0);
        Checks.due("fault", x.fault(0), 0);
        Checks.due("pictures are gone", x.picture(0, 0), PictureBlock.NOTHING);
        Checks.due("centres are gone", x.drift(0, 0), PictureBlock.NOTHING);
        Checks.due("again", Checks.block(x, AP), 3);
        Checks.due("no control of the last one", x.point(0, 3), 0);
        Checks.due("no centre of the last one", x.picture(0, 7), 0);
    }

    private static void blockWithAFault() {
        Checks.sentence("4: NONE with a FAULT (all stays)");
        String[] faults = {"!", S + "strip t;strip", "strip t;strip u;point v;strip t;", ONE_OF_EACH + "point q;row a q at 9 9 weight 0;",
            Checks.times(7, "strip %;")};
        for (String text : faults) {
            PictureBlock x = Checks.told(ONE_OF_EACH);
            x.rounds(2);
            x.measure(0, 55, 66);
            x.drop(0, true);
            x.sets(2);
            List<Long> ahead = Checks.all(x);
            Checks.due("block of " + text, Checks.block(x, text), PictureBlock.NONE);
            List<Long> behind = Checks.all(x);
            // the fault and its place are the last but one and two
            int end = ahead.size();
            Checks.same("all stays", behind.subList(0, end - 3), ahead.subList(0, end - 3));
            Checks.due("sum stays", behind.get(end - 1), ahead.get(end - 1));
        }
    }

    private static void blockWithoutAFault() {
        Checks.sentence("4: Without one both sets are in use, no ROW is dropped, DRIFTS are 0, and A START is made");
        PictureBlock x = Checks.told(ONE_OF_EACH);
        List<Long> fresh = Checks.all(x);
        Checks.due("rounds", x.rounds(3) > 0, true);
        x.drop(0, true);
        x.sets(0);
        x.measure(0, 99, 98);
        Checks.due("drift", x.drift(0, 0) != 0, true);
        Checks.due("block", Checks.block(x, ONE_OF_EACH), 6);
        Checks.same("as at first", Checks.all(x), fresh);
        Checks.due("sets", x.has(7), 3);
        Checks.due("dropped", x.has(6), 0);
        Checks.due("drift", x.drift(0, 0), 0);
        Checks.due("drift", x.drift(0, 1), 0);
        Checks.due("picture", x.picture(0, 3), 0);
        Checks.due("u", x.row(0, 2), 1);
    }

    /** What the calls tell beside Checks.all. */
    private static List<Long> more(PictureBlock x) {
        List<Long> more = new ArrayList<>();
        for (int kind = 0; kind < 3; kind++) {
            for (int which = 0; which < x.has(kind); which++) {
                more.add((long) x.whole(kind, which, 0));
                more.add((long) x.whole(kind, which, 1));
            }
        }
        for (int a = 0; a < x.has(1); a++) {
            for (int b = 0; b < x.has(1); b++) {
                more.add((long) x.hang(a, b));
                for (int what = 0; what < 3; what++) more.add((long) x.tie(a, b, what));
            }
        }
        for (int r = 0; r < x.has(3); r++) more.add((long) x.needs(r));
        int[] each = {x.parts(), x.blind(), x.worst(), x.gap(0), x.gap(1), x.tree(-1), x.tree(0), x.tree(1), x.plan(1), x.plan(20),
            x.alters(0, 9, 9, 0), x.differ(0, 0), x.differ(1, 1)};
        for (int one : each) more.add((long) one);
        for (int octet : Checks.image(x)) more.add((long) octet);
        more.add((long) x.rounds(2));
        more.add((long) x.clean(1000));
        more.addAll(Checks.all(x));
        more.add((long) x.start());
        more.addAll(Checks.all(x));
        return more;
    }

    private static void blockBehindAnother() {
        Checks.sentence("4: The tape is THE BLOCK: nothing of an earlier one is left");
        StringBuilder t = new StringBuilder(Checks.times(6, "strip s%;") + Checks.times(12, "picture p% in sf turn 3;") + Checks.times(20, "point q%;")
            + Checks.times(10, "control q% at 77 66 set 1;") + Checks.times(12, "centre p% at 9 9 weight 9;"));
        for (int r = 0; t.length() < 1560; r++) {
            // those of the first two pictures ahead, so that what is left of them would do most
            String pair = "p" + (char) ('a' + (r < 8 ? r % 2 : r % 12)) + " q" + (char) ('a' + (r < 8 ? r / 2 : 4 + r / 12));
            t.append("row ").append(pair).append(" at 8 7 weight 9;");
        }
        String[] later = {"strip a;picture b in a turn 0;picture c in a turn any;point d;point e;row b d at 1 2 weight 1;row b e at 3 4 weight 2;"
            + "row c d at 5 5 weight 3;control e at 5 5 set 1;", "strip a;picture b in a turn 1;picture c in a turn 1;point d;point e;"
            + "row c e at 1 2 weight 1;", "strip a;strip b;picture c in b turn 0;picture d in b turn 2;point e;row c e at 1 2 weight 3;"
            + "row d e at 3 4 weight 5;centre d at 1 1 weight 1;control e at 2 2 set 2;", "strip a;picture b in a turn 0;picture c in a turn 0;point d;point e;"
            + "row b e at 1 2 weight 1;", "strip a;picture b in a turn 0;picture c in a turn 0;point d;point e;"};
        for (String text : later) {
            PictureBlock x = Checks.told(t.toString());
            x.rounds(2);
            x.sets(1);
            x.clean(1);
            x.tree(0);
            x.gap(0);
            x.whole(0, 0, 0);
            x.differ(1, 1);
            x.alters(1, 3, 3, 3);
            x.slips(60, 999, 3);
            Checks.block(x, text);
            PictureBlock fresh = Checks.told(text);
            Checks.same("all", Checks.all(x), Checks.all(fresh));
            Checks.same("more", more(x), more(fresh));
        }
    }

    private static void faultOfTheLatest() {
        Checks.sentence("5: Of the latest block(): its FAULT (what 0; 0 without, and ahead of any), its place (1; NONE without)");
        PictureBlock x = new PictureBlock();
        Checks.due("ahead of any", x.fault(0), 0);
        Checks.due("place ahead of any", x.fault(1), PictureBlock.NONE);
        String[] texts = {"!", S, S + "strip s;", "", S + "picture a in s turn 7;", Checks.times(7, "strip %;"), " "};
        int[] kinds = {1, 0, 3, 0, 2, 4, 0};
        int[] places = {0, -1, 14, -1, 28, 48, -1};
        for (int k = 0; k < texts.length; k++) {
            Checks.block(x, texts[k]);
            for (int twice = 0; twice < 2; twice++) {
                Checks.due("fault of <" + texts[k] + ">", x.fault(0), kinds[k]);
                Checks.due("place of <" + texts[k] + ">", x.fault(1), places[k]);
                x.on();
                x.image();
                x.start();
            }
        }
        Checks.sentence("5: NONE for another what");
        int[] others = {2, 3, -1, -2, Integer.MIN_VALUE, Integer.MAX_VALUE};
        for (int what : others) {
            Checks.due("without a fault, " + what, Checks.told(S).fault(what), PictureBlock.NONE);
            Checks.due("ahead of any, " + what, new PictureBlock().fault(what), PictureBlock.NONE);
            Checks.block(x, "!");
            Checks.due("with a fault, " + what, x.fault(what), PictureBlock.NONE);
        }
    }

    // ---- promises 6 and 7

    private static void hasOthers() {
        Checks.sentence("6: How many there are: NONE for others");
        String text = Checks.times(2, "strip s%;") + Checks.times(3, "picture p% in sa turn 0;") + Checks.times(4, "point q%;")
            + Checks.times(4, "row pa q% at 1 1 weight 1;") + "row pb qa at 1 1 weight 1;" + Checks.times(2, "control q% at 1 1 set 1;")
            + "control qc at 1 1 set 2;centre pc at 1 1 weight 1;";
        PictureBlock x = Checks.told(text);
        x.drop(1, true);
        x.drop(4, true);
        x.sets(1);
        int[] due = {2, 3, 4, 5, 3, 1, 2, 1, 2};
        for (int what = 0; what < due.length; what++) Checks.due("has " + what, x.has(what), due[what]);
        int[] others = {9, 10, -1, -9, Integer.MIN_VALUE, Integer.MAX_VALUE};
        for (int what : others) Checks.due("has " + what, x.has(what), PictureBlock.NONE);
        for (int sets = 0; sets < 4; sets++) {
            x.sets(sets);
            Checks.due("sets in use (0 .. 3)", x.has(7), sets);
            Checks.due("of control in use", x.has(8), sets % 2 * 2 + sets / 2);
        }
    }

    private static void letters() {
        Checks.sentence("7: Letter k (0 .. 5) of the NAME of a STRIP (kind 0), PICTURE (1), POINT (2): 1 .. 26; 0 behind it");
        PictureBlock x = Checks.told("strip a;strip zzzzzz;picture az in a turn 0;picture zyxwvu in a turn 0;point aaaaaz;point zaaaa;");
        int[][][] due = {{{1, 0, 0, 0, 0, 0}, {26, 26, 26, 26, 26, 26}}, {{1, 26, 0, 0, 0, 0}, {26, 25, 24, 23, 22, 21}},
            {{1, 1, 1, 1, 1, 26}, {26, 1, 1, 1, 1, 0}}};
        for (int kind = 0; kind < 3; kind++) {
            for (int which = 0; which < 2; which++) {
                for (int k = 0; k < 6; k++) Checks.due("letter " + k, x.letter(kind, which, k), due[kind][which][k]);
            }
        }
        Checks.sentence("7: NONE when there is none such");
        int[] others = {-1, 6, 7, Integer.MIN_VALUE, Integer.MAX_VALUE};
        for (int bad : others) {
            for (int kind = 0; kind < 3; kind++) {
                Checks.due("letter " + bad, x.letter(kind, 0, bad), PictureBlock.NONE);
                Checks.due("of which " + bad, x.letter(kind, bad, 0), PictureBlock.NONE);
            }
            Checks.due("of kind " + bad, x.letter(bad, 0, 0), PictureBlock.NONE);
        }
        for (int kind = 0; kind < 3; kind++) Checks.due("of which 2", x.letter(kind, 2, 0), PictureBlock.NONE);
        Checks.due("of a row", x.letter(3, 0, 0), PictureBlock.NONE);
        Checks.due("of kind 3 with rows", Checks.told(ONE_OF_EACH).letter(3, 0, 0), PictureBlock.NONE);
    }
}
