import java.util.ArrayList;
import java.util.List;
import java.util.function.Consumer;
import java.util.function.ToLongFunction;

/** What the tests share: feeding texts and bytes, counting what is wrong. */
final class Checks {
    private static int asked = 0;
    private static int wrong = 0;
    private static String sentence = "";
    private static int sentences = 0;
    private static int askedAhead = 0;

    private Checks() {
    }

    /** What is asked behind this holds these words of the document; words of which nothing is asked are wrong. */
    static void sentence(String words) {
        endSentence();
        sentence = "<" + words + "> ";
        sentences++;
        askedAhead = asked;
    }

    private static void endSentence() {
        if (sentences > 0 && asked == askedAhead) due("answers asked", 0, 1);
    }

    static void due(String what, long got, long want) {
        asked++;
        if (got == want) return;
        wrong++;
        if (wrong <= 50) System.out.println(sentence + what + " answered " + got + ", due is " + want);
    }

    static void due(String what, boolean got, boolean want) {
        due(what, got ? 1L : 0L, want ? 1L : 0L);
    }

    static void finish(String name) {
        endSentence();
        String held = sentences == 0 ? "" : sentences + " sentences, ";
        System.out.println(name + ": " + held + asked + " answers, " + wrong + " wrong");
        if (wrong != 0 || asked == 0) System.exit(1);
    }

    /** Puts bytes behind those on the tape (ahead is how many stand there). */
    static void feed(PictureBlock x, int[] bytes, int ahead) {
        for (int from = 0; from < bytes.length; from += 20) {
            int[] five = new int[5];
            for (int k = 0; k < 20; k++) {
                int octet = from + k < bytes.length ? bytes[from + k] & 255 : 32;
                five[k / 4] = five[k / 4] << 8 | octet;
            }
            due("feed at " + from, x.feed(five[0], five[1], five[2], five[3], five[4]), ahead + from + 20);
        }
        due("end", x.end(ahead + bytes.length), true);
    }

    static int[] bytes(String text) {
        int[] bytes = new int[text.length()];
        for (int i = 0; i < bytes.length; i++) bytes[i] = text.charAt(i);
        return bytes;
    }

    static int block(PictureBlock x, String text) {
        feed(x, bytes(text), 0);
        return x.block();
    }

    /** A new object with a text that is right. */
    static PictureBlock made(String text, int statements) {
        PictureBlock x = new PictureBlock();
        due("block of " + text, block(x, text), statements);
        return x;
    }

    /** A new object with a text that is right and ends each statement with its only semicolon. */
    static PictureBlock told(String text) {
        return made(text, (int) text.chars().filter(sign -> sign == ';').count());
    }

    static void right(String text) {
        PictureBlock x = told(text);
        due("fault 0 of <" + text + ">", x.fault(0), 0);
        due("fault 1 of <" + text + ">", x.fault(1), PictureBlock.NONE);
    }

    static void fault(String text, int kind, int place) {
        PictureBlock x = new PictureBlock();
        due("block of <" + text + ">", block(x, text), PictureBlock.NONE);
        due("fault 0 of <" + text + ">", x.fault(0), kind);
        due("fault 1 of <" + text + ">", x.fault(1), place);
    }

    /** The fault stands where the bar is, which is no part of the text. */
    static void faultAt(String text, int kind) {
        int bar = text.indexOf('|');
        fault(text.substring(0, bar) + text.substring(bar + 1), kind, bar);
    }

    /** The statement so many times, its % being a, b, c and so on. */
    static String times(int many, String statement) {
        StringBuilder t = new StringBuilder();
        for (int k = 0; k < many; k++) t.append(statement.replace('%', (char) ('a' + k)));
        return t.toString();
    }

    /** All that an object tells but for its tape and its images. */
    static List<Long> all(PictureBlock x) {
        List<Long> all = new ArrayList<>();
        for (int what = 0; what <= 8; what++) all.add((long) x.has(what));
        for (int p = 0; p < x.has(1); p++) {
            for (int what = 0; what <= 7; what++) all.add((long) x.picture(p, what));
        }
        for (int q = 0; q < x.has(2); q++) {
            for (int what = 0; what <= 5; what++) all.add((long) x.point(q, what));
        }
        for (int r = 0; r < x.has(3); r++) {
            for (int what = 0; what <= 8; what++) all.add((long) x.row(r, what));
        }
        for (int s = 0; s < x.has(0); s++) {
            all.add((long) x.letter(0, s, 0));
            all.add((long) x.drift(s, 0));
            all.add((long) x.drift(s, 1));
        }
        all.add((long) x.fault(0));
        all.add((long) x.fault(1));
        all.add(x.sum());
        return all;
    }

    static void same(String what, List<Long> got, List<Long> want) {
        due(what + ", how many", got.size(), want.size());
        for (int k = 0; k < Math.min(got.size(), want.size()); k++) due(what + ", the " + k, got.get(k), want.get(k));
    }

    /** The call leaves all as it is. */
    static void stays(String what, PictureBlock x, Consumer<PictureBlock> call) {
        List<Long> ahead = all(x);
        call.accept(x);
        same(what + ": all stays", all(x), ahead);
    }

    /** The call has this answer and leaves all as it is. */
    static void refused(String what, PictureBlock x, ToLongFunction<PictureBlock> call, long want) {
        stays(what, x, y -> due(what, call.applyAsLong(y), want));
    }

    static int[] image(PictureBlock x) {
        int[] bytes = new int[x.image()];
        for (int k = 0; k < bytes.length; k++) bytes[k] = x.octet(k);
        return bytes;
    }

    static boolean on(PictureBlock x, int[] bytes) {
        feed(x, bytes, 0);
        return x.on();
    }

    /** The same bytes with their last made right. */
    static int[] sealed(int[] bytes) {
        int[] right = bytes.clone();
        int c = 45;
        for (int i = 0; i + 1 < right.length; i++) c = (5 * c + right[i]) % 241;
        right[right.length - 1] = c;
        return right;
    }

    static int[] with(int[] bytes, int at, int value) {
        int[] other = bytes.clone();
        other[at] = value;
        return sealed(other);
    }

    static int[] withInt(int[] bytes, int at, int value) {
        int[] other = bytes.clone();
        for (int k = 0; k < 4; k++) other[at + k] = value >>> (24 - 8 * k) & 255;
        return sealed(other);
    }
}
