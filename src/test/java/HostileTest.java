import java.util.Random;

/** Calls with any arguments in any state: none throws, none takes long, a refused one answers as the document says. */
public final class HostileTest {
    private static final int[] ODD = {0, 1, 2, 3, 4, 5, 6, 7, 8, 9, 11, 12, 19, 20, 59, 60, 61, -1, -2, 100, 500, 501, 9999,
        10000, 1600, 1601, Integer.MAX_VALUE, Integer.MIN_VALUE, 100000000, 0x73747269, 0x7020733b, 0x20202020};
    private static final String TEXT = "strip s;strip t;picture a in s turn any;picture b in t turn 1;picture c in s turn any;"
        + "point p;point q;point r;row a p at 1 2 weight 3;row a q at 9 9 weight 1;row b p at 4 5 weight 6;row b q at 9999 0 weight 9;"
        + "row c p at 3 3 weight 2;row c q at 8 1 weight 2;row c r at 0 0 weight 1;control p at 50 60 set 1;control r at 9 8 set 2;"
        + "centre a at 7 7 weight 5;centre c at 1 9 weight 4;";

    private final Random random;
    private final PictureBlock x = new PictureBlock();

    private HostileTest(int seed) {
        random = new Random(seed);
    }

    public static void main(String[] args) {
        for (int seed = 0; seed < 200; seed++) {
            HostileTest t = new HostileTest(seed);
            for (int n = 0; n < 512; n++) t.anyCall();
        }
        Checks.finish("HostileTest");
    }

    private int odd() {
        return random.nextInt(8) == 0 ? random.nextInt() : random.nextInt(3) == 0 ? ODD[random.nextInt(ODD.length)] : random.nextInt(8);
    }

    private void anyCall() {
        int kind = random.nextInt(40);
        if (kind < 4) text();
        else if (kind < 8) image();
        else if (kind < 20) first(kind);
        else second(kind);
    }

    private void text() {
        StringBuilder t = new StringBuilder(TEXT);
        for (int n = random.nextInt(4); n > 0; n--) {
            int at = random.nextInt(t.length());
            if (random.nextBoolean()) t.setCharAt(at, (char) random.nextInt(256));
            else t.delete(at, Math.min(t.length(), at + random.nextInt(9)));
        }
        x.end(0);
        int statements = Checks.block(x, t.toString());
        boolean isFault = statements == PictureBlock.NONE;
        Checks.due("fault kind", isFault ? x.fault(0) >= 1 && x.fault(0) <= 4 : x.fault(0) == 0, true);
        Checks.due("fault place", isFault ? x.fault(1) >= 0 && x.fault(1) <= t.length() : x.fault(1) == -1, true);
    }

    private void image() {
        int[] bytes = Checks.image(x);
        for (int n = random.nextInt(3); n > 0; n--) bytes[random.nextInt(bytes.length)] = random.nextInt(256);
        x.end(0);
        boolean taken = Checks.on(x, Checks.sealed(bytes));
        if (!taken) return;
        int[] again = Checks.image(x);
        int[] due = Checks.sealed(bytes);
        for (int k = 0; k < due.length; k++) Checks.due("octet", again[k], due[k]);
    }

    private void first(int kind) {
        int a = odd();
        int b = odd();
        switch (kind) {
            case 8: x.feed(a, b, odd(), odd(), odd()); break;
            case 9: x.end(a); break;
            case 10: x.block(); break;
            case 11: x.fault(a); x.has(b); break;
            case 12: x.letter(a, b, odd()); break;
            case 13: x.picture(a, b); x.point(a, b); break;
            case 14: x.row(a, b); x.drift(a, b); break;
            case 15: Checks.due("start", x.start() <= x.has(1), true); break;
            case 16: Checks.due("rounds", x.rounds(a) == -1, a < 1 || a > 500); break;
            case 17: Checks.due("sum", x.sum() >= 0, true); break;
            case 18: Checks.due("whole", x.whole(a, b, odd()) < 1000003, true); break;
            default: Checks.due("sets", x.sets(a) == -1, a < 0 || a > 3); break;
        }
    }

    private void second(int kind) {
        int a = odd();
        int b = odd();
        switch (kind) {
            case 20: Checks.due("parts", x.parts() <= x.has(1), true); break;
            case 21: x.hang(a, b); break;
            case 22: Checks.due("blind", x.blind() <= x.has(3) - x.has(6), true); break;
            case 23: Checks.due("needs", x.needs(a) <= x.has(1), true); break;
            case 24: Checks.due("doubt", x.doubt(a) == -1, a < 0 || a >= x.has(3)); break;
            case 25: Checks.due("worst", x.worst() < x.has(3), true); break;
            case 26: case 27: x.drop(a, random.nextBoolean()); break;
            case 28: Checks.due("clean", x.clean((long) a * b) == -1, (long) a * b < 0); break;
            case 29: x.tie(a, b, odd()); break;
            case 30: x.loop(a, b, odd(), odd()); break;
            case 31: x.gap(a); break;
            case 32: x.tree(a); break;
            case 33: Checks.due("plan", x.plan(a) == -1, a < 1 || a > 20); break;
            case 34: x.differ(a, b); break;
            case 35: x.alters(a, b, odd(), odd()); break;
            case 36: x.measure(a, b, odd()); break;
            case 37: x.slips(a, b, odd()); break;
            case 38: x.octet(a); break;
            default: x.on(); break;
        }
    }
}
