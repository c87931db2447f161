import java.util.List;
import java.util.Random;

/** Promises 13 to 16: factors, factor, order, distance. */
public final class WorthTest {
    private static final Due due = new Due("WorthTest");
    private static final Random random = new Random(13);

    public static void main(String[] args) {
        wellKnown();
        allNarrow();
        someWide();
        products();
        mostFactors();
        distances();
        farDistances();
        reusedForms();
        refusals();
        due.end();
    }

    private static SumForms of(int width, long polynomial) {
        SumForms x = new SumForms();
        x.form(width, polynomial, 0, 0, false, false);
        return x;
    }

    private static void wellKnown() {
        SumForms x = of(32, 0x04C11DB7);
        due.is("factors of CRC-32", x.factors(0), 1);
        due.is("factor of CRC-32", x.factor(0, 0, 0), 0x104C11DB7L);
        due.is("how often", x.factor(0, 0, 1), 1);
        due.is("order of CRC-32", x.order(0), 4294967295L);
        SumForms y = of(32, 0x1EDC6F41);
        due.is("factors of CRC-32C", y.factors(0), 2);
        due.is("factor 0 of CRC-32C", y.factor(0, 0, 0), 3);
        due.is("order of CRC-32C", y.order(0), 2147483647L);
        for (int width = 3; width <= 32; width++) {
            SumForms z = of(width, 1);
            due.is("order of x^" + width + " + 1", z.order(0), width);
            due.is("distance of x^" + width + " + 1", z.distance(0, width), 5);
            due.is("distance of x^" + width + " + 1, a bit more", z.distance(0, width + 1), 2);
        }
        SumForms often = of(32, 1);
        due.is("factors of (x + 1)^32", often.factors(0), 1);
        due.is("factor of (x + 1)^32", often.factor(0, 0, 0), 3);
        due.is("how often x + 1", often.factor(0, 0, 1), 32);
    }

    private static void sameFactors(SumForms x, long g) {
        List<long[]> want = Plain.factorsOf(g);
        due.is("factors of " + g, x.factors(0), want.size());
        for (int i = 0; i < want.size(); i++) {
            due.is("factor " + i + " of " + g, x.factor(0, i, 0), want.get(i)[0]);
            due.is("factor " + i + " of " + g + ", how often", x.factor(0, i, 1), want.get(i)[1]);
        }
        due.is("a factor more of " + g, x.factor(0, want.size(), 0), -1);
        due.is("a factor more of " + g + ", how often", x.factor(0, want.size(), 1), -1);
    }

    private static void allNarrow() {
        for (int width = 3; width <= 14; width++) {
            for (long p = 1; p < 1L << width; p += 2) {
                SumForms x = of(width, p);
                sameFactors(x, 1L << width | p);
                due.is("order of " + (1L << width | p), x.order(0), orderOf(width, p));
            }
        }
    }

    private static long orderOf(int width, long p) {
        long power = 1;
        for (long n = 1; n <= 1L << width; n++) {
            power <<= 1;
            if (power >>> width != 0) {
                power ^= 1L << width | p;
            }
            if (power == 1) {
                return n;
            }
        }
        return 0;
    }

    private static void someWide() {
        for (int width = 15; width <= 32; width++) {
            for (int round = 0; round < 60; round++) {
                long p = round == 0 ? 1 : round == 1 ? (1L << width) - 1
                        : random.nextLong() & (1L << width) - 1 | 1;
                SumForms x = of(width, p);
                if (round < 20) {
                    sameFactors(x, 1L << width | p);
                }
                due.holds("order of " + (1L << width | p) + " is " + x.order(0),
                        Plain.isOrder(1L << width | p, x.order(0)));
            }
        }
    }

    /** Products of a few small polynomials, so that there are many factors, alike and unlike. */
    private static void products() {
        for (int round = 0; round < 600; round++) {
            long g = 1;
            for (int k = 0; k < 60; k++) {
                long by = random.nextInt(1 << 2 + round % 5) * 2L + 1;
                if (63 - Long.numberOfLeadingZeros(g) + 63 - Long.numberOfLeadingZeros(by) <= 32) {
                    g = times(g, by);
                }
            }
            int width = 63 - Long.numberOfLeadingZeros(g);
            if (width >= 3) {
                SumForms x = of(width, g ^ 1L << width);
                sameFactors(x, g);
                due.holds("order of " + g + " is " + x.order(0), Plain.isOrder(g, x.order(0)));
            }
        }
    }

    private static long times(long p, long q) {
        long all = 0;
        for (int bit = 0; bit < 33; bit++) {
            all ^= (q >>> bit & 1) * (p << bit);
        }
        return all;
    }

    private static void mostFactors() {
        long g = 1;
        for (long p : new long[] {3, 7, 11, 13, 19, 25, 31, 37, 41}) {
            g = times(g, p);
        }
        SumForms x = of(31, g ^ 1L << 31);
        due.is("nine factors", x.factors(0), 9);
        sameFactors(x, g);
        due.is("their order", x.order(0), 3 * 5 * 7 * 31);
        SumForms fives = of(30, times(times(times(37, 41), times(47, 55)), times(59, 61)) ^ 1L << 30);
        due.is("all six of degree 5", fives.factors(0), 6);
        sameFactors(fives, times(times(times(37, 41), times(47, 55)), times(59, 61)));
        long[] sixteens = {0x1002D, 0x1100B, 0x10039, 0x138CF};
        for (long p : sixteens) {
            for (long q : sixteens) {
                SumForms two = of(32, times(p, q) ^ 1L << 32);
                sameFactors(two, times(p, q));
                due.holds("order of " + p + " times " + q, Plain.isOrder(times(p, q), two.order(0)));
            }
        }
    }

    private static void distances() {
        for (int width = 3; width <= 9; width++) {
            for (long p = 1; p < 1L << width; p += 2) {
                SumForms x = of(width, p);
                for (int n = 40; n >= 1; n -= width < 7 ? 1 : 3) {
                    due.is("distance of " + (1L << width | p) + " for " + n, x.distance(0, n),
                            Plain.distanceOf(1L << width | p, n));
                }
            }
        }
        for (int round = 0; round < 300; round++) {
            int width = 10 + random.nextInt(23);
            long p = random.nextLong() & (1L << width) - 1 | 1;
            int n = 1 + random.nextInt(90);
            due.is("distance of " + (1L << width | p) + " for " + n, of(width, p).distance(0, n),
                    Plain.distanceOf(1L << width | p, n));
        }
    }

    private static void farDistances() {
        for (int width : new int[] {8, 13, 16, 17, 20, 24, 29, 32}) {
            for (int round = 0; round < 4; round++) {
                long p = random.nextLong() & (1L << width) - 1 | 1;
                SumForms x = of(width, p);
                for (int n : new int[] {200, 199, 150}) {
                    due.is("distance of " + (1L << width | p) + " for " + n, x.distance(0, n),
                            Plain.distanceOf(1L << width | p, n));
                }
            }
        }
        edgeAt200();
    }

    /** Forms with multiples of degree 199 that have fewer bits than all lower ones. */
    private static void edgeAt200() {
        int found = 0;
        for (int round = 0; round < 4000 && found < 12; round++) {
            int width = 14 + random.nextInt(10);
            long p = random.nextLong() & (1L << width) - 1 | 1;
            SumForms x = of(width, p);
            int most = x.distance(0, 199);
            if (x.distance(0, 200) < most) {
                found++;
                due.is("distance for 199 of " + (1L << width | p), most,
                        Plain.distanceOf(1L << width | p, 199));
                due.is("distance for 200 of " + (1L << width | p), x.distance(0, 200),
                        Plain.distanceOf(1L << width | p, 200));
            }
        }
        SumForms x = of(11, 0x475);
        due.is("Golay's code, 23 bits", x.distance(0, 23), 5);
        due.is("Golay's code, 24 bits", x.distance(0, 24), 2);
        due.holds("some forms change at 200 bits", found > 0);
    }

    /** What has been found out about a form must not be told of the next one with its number. */
    private static void reusedForms() {
        SumForms x = new SumForms();
        for (int round = 0; round < 60; round++) {
            int width = 3 + random.nextInt(8);
            long p = random.nextLong() & (1L << width) - 1 | 1;
            x.form(width, p, 0, 0, false, false);
            x.form(8, 7, 0, 0, false, false);
            // Which of the calls comes first must not count.
            long least = Plain.factorsOf(1L << width | p).get(0)[0];
            if (round % 2 == 0) {
                due.is("factor of a form anew", x.factor(0, 0, 0), least);
            }
            due.is("order of a form anew", x.order(0), orderOf(width, p));
            due.is("order of the other", x.order(1), 127);
            due.is("factors of a form anew", x.factors(0), Plain.factorsOf(1L << width | p).size());
            due.is("factor behind order and factors", x.factor(0, 0, 0), least);
            due.is("distance of a form anew", x.distance(0, 20), Plain.distanceOf(1L << width | p, 20));
            due.is("distance of the other", x.distance(1, 20), 4);
            x.forget();
        }
    }

    private static void refusals() {
        SumForms x = of(16, 4129);
        for (int form : new int[] {-1, 1, 8, Integer.MIN_VALUE, Integer.MAX_VALUE}) {
            due.is("factors of form " + form, x.factors(form), -1);
            due.is("factor of form " + form, x.factor(form, 0, 0), -1);
            due.is("order of form " + form, x.order(form), -1);
            due.is("distance of form " + form, x.distance(form, 5), -1);
        }
        for (int i : new int[] {-1, 2, 9, Integer.MIN_VALUE, Integer.MAX_VALUE}) {
            due.is("factor " + i, x.factor(0, i, 0), -1);
            due.is("factor " + i + ", how often", x.factor(0, i, 1), -1);
        }
        for (int what : new int[] {-1, 2, Integer.MIN_VALUE, Integer.MAX_VALUE}) {
            due.is("factor, what " + what, x.factor(0, 0, what), -1);
        }
        for (int n : new int[] {0, -1, 201, Integer.MIN_VALUE, Integer.MAX_VALUE}) {
            due.is("distance for " + n, x.distance(0, n), -1);
        }
        due.is("distance for 1", x.distance(0, 1), 5);
        due.is("distance for 200", x.distance(0, 200), 4);
    }
}
