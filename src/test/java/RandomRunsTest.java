import java.util.Random;

/** All promises: runs of some 512 calls, many of them wrong, on a SumForms and a Plain alike. */
public final class RandomRunsTest {
    private static final Due due = new Due("RandomRunsTest");
    private static final int MOST_AT_ONCE = 3;
    private static final int[] INTS = {Integer.MIN_VALUE, -2, -1, 0, 1, 2, 3, 7, 8, 9, 16, 24, 32, 33, 199,
        200, 201, 255, 256, 599, 600, 601, Integer.MAX_VALUE};
    private static final long[] LONGS = {Long.MIN_VALUE, -2, -1, 0, 1, 2, 7, 8, 254, 255, 256, 65520, 65521,
        65535, 65536, 4294967295L, 4294967296L, (1L << 60) - 1, 1L << 60, (1L << 60) + 1, Long.MAX_VALUE};

    private final Random random;
    private final Calls x = new Calls();
    private final Plain plain = new Plain();
    private final int[] widths = new int[8];

    private RandomRunsTest(long seed) {
        random = new Random(seed);
    }

    public static void main(String[] args) {
        for (int run = 0; run < 600 && due.allRight(); run++) {
            RandomRunsTest one = new RandomRunsTest(run);
            for (int call = 0; one.x.left() > MOST_AT_ONCE; call++) {
                one.any("run " + run + ", call " + call + ": ");
            }
        }
        due.end();
    }

    private int some(int most) {
        return random.nextInt(12) == 0 ? INTS[random.nextInt(INTS.length)] : random.nextInt(most + 1);
    }

    private long someBits(int width) {
        return random.nextInt(20) == 0 ? LONGS[random.nextInt(LONGS.length)]
                : random.nextLong() >>> 64 - width;
    }

    private long length() {
        return switch (random.nextInt(4)) {
            case 0 -> LONGS[random.nextInt(LONGS.length)];
            case 1 -> random.nextLong() >>> 4 + random.nextInt(50);
            default -> random.nextInt(120);
        };
    }

    private int aForm() {
        return some((int) Math.max(0, plain.count(0) - 1));
    }

    private int widthOf(int form) {
        return form >= 0 && form < 8 && widths[form] != 0 ? widths[form] : 8;
    }

    private void any(String at) {
        switch (random.nextInt(20)) {
            case 0, 1 -> form(at);
            case 2 -> {
                if (random.nextInt(6) == 0) {
                    due.is(at + "forget()", x.forget(), plain.forget());
                }
            }
            case 3, 4, 5 -> {
                int n = 1 + some(7);
                long v = random.nextLong();
                due.is(at + "feed(" + n + ", " + v + ")", x.feed(n, v), plain.feed(n, v));
            }
            case 6 -> text(at);
            case 7, 8 -> sum(at);
            case 9 -> joined(at);
            case 10 -> zeros(at);
            case 11 -> changed(at);
            case 12, 13 -> tail(at);
            case 14, 15 -> worth(at);
            case 16 -> distance(at);
            case 17, 18 -> added(at);
            default -> addedJoined(at);
        }
    }

    private void form(String at) {
        int width = random.nextInt(3) == 0 ? 8 + 8 * random.nextInt(4) : some(32);
        int bits = width > 0 && width < 64 ? width : 8;
        long p = someBits(bits) | (random.nextInt(8) == 0 ? 0 : 1);
        long start = someBits(bits);
        long end = someBits(bits);
        boolean in = random.nextBoolean();
        boolean out = random.nextBoolean();
        long got = x.form(width, p, start, end, in, out);
        due.is(at + "form(" + width + ", " + p + ", " + start + ", " + end + ", " + in + ", " + out + ")", got,
                plain.form(width, p, start, end, in, out));
        if (got >= 0 && got < 8) {
            widths[(int) got] = width;
        }
        due.is(at + "count(0)", x.count(0), plain.count(0));
    }

    private void text(String at) {
        int n = some(600);
        due.is(at + "octet(" + n + ")", x.octet(n), plain.octet(n));
        int what = some(1);
        due.is(at + "count(" + what + ")", x.count(what), plain.count(what));
        if (random.nextInt(3) == 0) {
            due.is(at + "cut(" + n + ")", x.cut(n), plain.cut(n));
        }
    }

    private void sum(String at) {
        int form = aForm();
        int from = some((int) plain.count(1));
        int to = some((int) plain.count(1));
        due.is(at + "sum(" + form + ", " + from + ", " + to + ")", x.sum(form, from, to),
                plain.sum(form, from, to));
    }

    private void joined(String at) {
        int form = aForm();
        long a = someBits(widthOf(form));
        long b = someBits(widthOf(form));
        long n = length();
        due.is(at + "joined(" + form + ", " + a + ", " + b + ", " + n + ")", x.joined(form, a, b, n),
                plain.joined(form, a, b, n));
    }

    private void zeros(String at) {
        int form = aForm();
        long sum = someBits(widthOf(form));
        long n = length();
        due.is(at + "zeros(" + form + ", " + sum + ", " + n + ")", x.zeros(form, sum, n),
                plain.zeros(form, sum, n));
    }

    private void changed(String at) {
        int form = aForm();
        long sum = someBits(widthOf(form));
        long n = length();
        int mask = some(255);
        due.is(at + "changed(" + form + ", " + sum + ", " + n + ", " + mask + ")",
                x.changed(form, sum, n, mask), plain.changed(form, sum, n, mask));
    }

    private void tail(String at) {
        int form = aForm();
        long sum = someBits(widthOf(form));
        long wanted = someBits(widthOf(form));
        due.is(at + "tail(" + form + ", " + sum + ", " + wanted + ")", x.tail(form, sum, wanted),
                plain.tail(form, sum, wanted));
    }

    // The wide forms' orders and factors are compared in WorthTest: here they would take too long.
    private void worth(String at) {
        int form = aForm();
        if (widthOf(form) <= 14) {
            int i = some(3);
            int what = some(1);
            due.is(at + "factors(" + form + ")", x.factors(form), plain.factors(form));
            due.is(at + "factor(" + form + ", " + i + ", " + what + ")", x.factor(form, i, what),
                    plain.factor(form, i, what));
            due.is(at + "order(" + form + ")", x.order(form), plain.order(form));
        }
    }

    private void distance(String at) {
        int form = aForm();
        int n = some(50);
        if (n <= 50 || n > 200) {
            due.is(at + "distance(" + form + ", " + n + ")", x.distance(form, n), plain.distance(form, n));
        }
    }

    private void added(String at) {
        int what = some(1);
        int from = some((int) plain.count(1));
        int to = some((int) plain.count(1));
        due.is(at + "added(" + what + ", " + from + ", " + to + ")", x.added(what, from, to),
                plain.added(what, from, to));
    }

    private void addedJoined(String at) {
        int what = some(1);
        long a = someBits(what == 0 ? 32 : 16);
        long b = someBits(what == 0 ? 32 : 16);
        long n = length();
        due.is(at + "addedJoined(" + what + ", " + a + ", " + b + ", " + n + ")",
                x.addedJoined(what, a, b, n), plain.addedJoined(what, a, b, n));
    }
}
