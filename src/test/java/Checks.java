/** What the tests share: feeding texts and bytes, counting what is wrong. */
final class Checks {
    private static int asked = 0;
    private static int wrong = 0;

    private Checks() {
    }

    static void due(String what, long got, long want) {
        asked++;
        if (got == want) return;
        wrong++;
        if (wrong <= 50) System.out.println(what + " answered " + got + ", due is " + want);
    }

    static void due(String what, boolean got, boolean want) {
        due(what, got ? 1L : 0L, want ? 1L : 0L);
    }

    static void finish(String name) {
        System.out.println(name + ": " + asked + " answers, " + wrong + " wrong");
        if (wrong != 0 || asked == 0) System.exit(1);
    }

    /** Puts bytes behind those on the tape (ahead is how many stand there). */
    static void feed(PictureBlock x, int[] bytes, int ahead) {
        for (int from = 0; from < bytes.length; from += 20) {
            int[] five = new int[5];
            for (int k = 0; k < 20; k++) {
                int octet = from + k < bytes.length ? bytes[from + k] & 255 : 32;
                five[k / 4] = five[k / 4] << 8 | octet;
            }
            due("feed at " + from, x.feed(five[0], five[1], five[2], five[3], five[4]), ahead + from + 20);
        }
        due("end", x.end(ahead + bytes.length), true);
    }

    static int[] bytes(String text) {
        int[] bytes = new int[text.length()];
        for (int i = 0; i < bytes.length; i++) bytes[i] = text.charAt(i);
        return bytes;
    }

    static int block(PictureBlock x, String text) {
        feed(x, bytes(text), 0);
        return x.block();
    }

    /** A new object with a text that is right. */
    static PictureBlock made(String text, int statements) {
        PictureBlock x = new PictureBlock();
        due("block of " + text, block(x, text), statements);
        return x;
    }

    static int[] image(PictureBlock x) {
        int[] bytes = new int[x.image()];
        for (int k = 0; k < bytes.length; k++) bytes[k] = x.octet(k);
        return bytes;
    }

    static boolean on(PictureBlock x, int[] bytes) {
        feed(x, bytes, 0);
        return x.on();
    }

    /** The same bytes with their last made right. */
    static int[] sealed(int[] bytes) {
        int[] right = bytes.clone();
        int c = 45;
        for (int i = 0; i + 1 < right.length; i++) c = (5 * c + right[i]) % 241;
        right[right.length - 1] = c;
        return right;
    }

    static int[] with(int[] bytes, int at, int value) {
        int[] other = bytes.clone();
        other[at] = value;
        return sealed(other);
    }

    static int[] withInt(int[] bytes, int at, int value) {
        int[] other = bytes.clone();
        for (int k = 0; k < 4; k++) other[at + k] = value >>> (24 - 8 * k) & 255;
        return sealed(other);
    }
}
