import java.util.ArrayList;
import java.util.List;
import java.util.Random;

/** Promises 13 to 16: factors, factor, order, distance. */
public final class WorthTest {
    private static final Due due = new Due("WorthTest");
    private static final Random random = new Random(13);

    public static void main(String[] args) {
        wellKnown();
        allNarrow();
        someWide();
        ordersOfEachKind();
        products();
        mostFactors();
        distances();
        distancesInARow();
        farDistances();
        reusedForms();
        due.end();
    }

    private static Calls of(int width, long polynomial) {
        Calls x = new Calls();
        x.form(width, polynomial, 0, 0, false, false);
        return x;
    }

    private static void wellKnown() {
        Calls x = of(32, 0x04C11DB7);
        due.is("factors of CRC-32", x.factors(0), 1);
        due.is("factor of CRC-32", x.factor(0, 0, 0), 0x104C11DB7L);
        due.is("how often", x.factor(0, 0, 1), 1);
        due.is("order of CRC-32", x.order(0), 4294967295L);
        Calls y = of(32, 0x1EDC6F41);
        due.is("factors of CRC-32C", y.factors(0), 2);
        due.is("factor 0 of CRC-32C", y.factor(0, 0, 0), 3);
        due.is("order of CRC-32C", y.order(0), 2147483647L);
        for (int width = 3; width <= 32; width++) {
            Calls z = of(width, 1);
            due.is("order of x^" + width + " + 1", z.order(0), width);
            due.is("distance of x^" + width + " + 1", z.distance(0, width), 5);
            due.is("distance of x^" + width + " + 1, a bit more", z.distance(0, width + 1), 2);
        }
        Calls often = of(32, 1);
        due.is("factors of (x + 1)^32", often.factors(0), 1);
        due.is("factor of (x + 1)^32", often.factor(0, 0, 0), 3);
        due.is("how often x + 1", often.factor(0, 0, 1), 32);
    }

    private static void sameFactors(Calls x, long g) {
        List<long[]> want = Plain.factorsOf(g);
        due.is("factors of " + g, x.factors(0), want.size());
        for (int i = 0; i < want.size(); i++) {
            due.is("factor " + i + " of " + g, x.factor(0, i, 0), want.get(i)[0]);
            due.is("factor " + i + " of " + g + ", how often", x.factor(0, i, 1), want.get(i)[1]);
        }
        due.is("a factor more of " + g, x.factor(0, want.size(), 0), -1);
        due.is("a factor more of " + g + ", how often", x.factor(0, want.size(), 1), -1);
    }

    private static void allNarrow() {
        for (int width = 3; width <= 14; width++) {
            for (long p = 1; p < 1L << width; p += 2) {
                Calls x = of(width, p);
                sameFactors(x, 1L << width | p);
                due.is("order of " + (1L << width | p), x.order(0), orderOf(width, p));
            }
        }
    }

    private static long orderOf(int width, long p) {
        long power = 1;
        for (long n = 1; n <= 1L << width; n++) {
            power <<= 1;
            if (power >>> width != 0) {
                power ^= 1L << width | p;
            }
            if (power == 1) {
                return n;
            }
        }
        return 0;
    }

    private static void someWide() {
        for (int width = 15; width <= 32; width++) {
            for (int round = 0; round < 60; round++) {
                long p = round == 0 ? 1 : round == 1 ? (1L << width) - 1
                        : random.nextLong() & (1L << width) - 1 | 1;
                Calls x = of(width, p);
                if (round < 20) {
                    sameFactors(x, 1L << width | p);
                }
                due.holds("order of " + (1L << width | p) + " is " + x.order(0),
                        Plain.isOrder(1L << width | p, x.order(0)));
            }
        }
    }

    /**
     * For each degree d the least polynomials of powers a^k, where a has all the 2^d - 1 powers: such a
     * power has (2^d - 1) / k of them, which is the order of its polynomial.
     */
    private static void ordersOfEachKind() {
        for (int d = 3; d <= 32; d++) {
            long all = (1L << d) - 1;
            long g = 1L << d | 1;
            while (!Plain.isOrder(g, all)) {
                g += 2;
            }
            due.is("order of " + g, of(d, g ^ 1L << d).order(0), all);
            for (long k : someDivisors(all)) {
                long least = leastPolynomial(power(2, k, g), g);
                int width = 63 - Long.numberOfLeadingZeros(least);
                if (width >= 3) {
                    due.is("order of " + least, of(width, least ^ 1L << width).order(0), all / k);
                    due.is("factors of " + least, of(width, least ^ 1L << width).factors(0), 1);
                }
            }
        }
    }

    /** Each prime, its square where that divides, and the products of two neighbours. */
    private static List<Long> someDivisors(long n) {
        List<Long> divisors = new ArrayList<>();
        long rest = n;
        long before = 1;
        for (long p = 3; rest > 1; p += 2) {
            if (p * p > rest) {
                p = rest;
            }
            if (rest % p == 0) {
                divisors.add(p);
                divisors.add(p * before);
                divisors.add(n / p % p == 0 ? p * p : p);
                before = p;
            }
            while (rest % p == 0) {
                rest /= p;
            }
        }
        return divisors;
    }

    /** The product of all x - b^(2^i), which has no coefficients but 0 and 1. */
    private static long leastPolynomial(long b, long g) {
        List<Long> product = List.of(1L);
        long root = b;
        do {
            List<Long> next = new ArrayList<>();
            for (int i = 0; i <= product.size(); i++) {
                long moved = i == 0 ? 0 : product.get(i - 1);
                long scaled = i == product.size() ? 0 : remainder(times(product.get(i), root), g);
                next.add(moved ^ scaled);
            }
            product = next;
            root = remainder(times(root, root), g);
        } while (root != b);
        long all = 0;
        for (int i = 0; i < product.size(); i++) {
            due.holds("a coefficient is 0 or 1", product.get(i) >>> 1 == 0);
            all |= product.get(i) << i;
        }
        return all;
    }

    private static long power(long p, long n, long g) {
        long all = 1;
        for (int bit = 63; bit >= 0; bit--) {
            all = remainder(times(all, all), g);
            if ((n >>> bit & 1) != 0) {
                all = remainder(times(all, p), g);
            }
        }
        return all;
    }

    private static long remainder(long p, long g) {
        long rest = p;
        for (int shift = Long.numberOfLeadingZeros(g); shift >= 0; shift--) {
            if (Long.numberOfLeadingZeros(rest) == Long.numberOfLeadingZeros(g << shift)) {
                rest ^= g << shift;
            }
        }
        return rest;
    }

    /** Products of a few small polynomials, so that there are many factors, alike and unlike. */
    private static void products() {
        for (int round = 0; round < 600; round++) {
            long g = 1;
            for (int k = 0; k < 60; k++) {
                long by = random.nextInt(1 << 2 + round % 5) * 2L + 1;
                if (63 - Long.numberOfLeadingZeros(g) + 63 - Long.numberOfLeadingZeros(by) <= 32) {
                    g = times(g, by);
                }
            }
            int width = 63 - Long.numberOfLeadingZeros(g);
            if (width >= 3) {
                Calls x = of(width, g ^ 1L << width);
                sameFactors(x, g);
                due.holds("order of " + g + " is " + x.order(0), Plain.isOrder(g, x.order(0)));
            }
        }
    }

    private static long times(long p, long q) {
        long all = 0;
        for (int bit = 0; bit < 33; bit++) {
            all ^= (q >>> bit & 1) * (p << bit);
        }
        return all;
    }

    private static void mostFactors() {
        long g = 1;
        for (long p : new long[] {3, 7, 11, 13, 19, 25, 31, 37, 41}) {
            g = times(g, p);
        }
        Calls x = of(31, g ^ 1L << 31);
        due.is("nine factors", x.factors(0), 9);
        sameFactors(x, g);
        due.is("their order", x.order(0), 3 * 5 * 7 * 31);
        Calls fives = of(30, times(times(times(37, 41), times(47, 55)), times(59, 61)) ^ 1L << 30);
        due.is("all six of degree 5", fives.factors(0), 6);
        sameFactors(fives, times(times(times(37, 41), times(47, 55)), times(59, 61)));
        long[] sixteens = {0x1002D, 0x1100B, 0x10039, 0x138CF};
        for (long p : sixteens) {
            for (long q : sixteens) {
                Calls two = of(32, times(p, q) ^ 1L << 32);
                sameFactors(two, times(p, q));
                due.holds("order of " + p + " times " + q, Plain.isOrder(times(p, q), two.order(0)));
            }
        }
    }

    private static void distances() {
        for (int width = 3; width <= 9; width++) {
            for (long p = 1; p < 1L << width; p += 2) {
                Calls x = of(width, p);
                for (int n = 40; n >= 1; n -= width < 7 ? 1 : 3) {
                    due.is("distance of " + (1L << width | p) + " for " + n, x.distance(0, n),
                            Plain.distanceOf(1L << width | p, n));
                }
            }
        }
        for (int round = 0; round < 300; round++) {
            int width = 10 + random.nextInt(23);
            long p = random.nextLong() & (1L << width) - 1 | 1;
            int n = 1 + random.nextInt(90);
            due.is("distance of " + (1L << width | p) + " for " + n, of(width, p).distance(0, n),
                    Plain.distanceOf(1L << width | p, n));
        }
    }

    /** What has been looked at for one form must not be taken for what another one has. */
    private static void distancesInARow() {
        for (int round = 0; round < 120; round++) {
            Calls x = new Calls();
            long[] g = new long[8];
            for (int i = 0; i < 8; i++) {
                int width = 3 + random.nextInt(14);
                g[i] = 1L << width | random.nextLong() & (1L << width) - 1 | 1;
                x.form(width, g[i] ^ 1L << width, 0, 0, false, false);
            }
            for (int i = 0; i < 8; i++) {
                for (int n = 10; n <= 40; n += 6) {
                    due.is("distance of " + g[i] + " for " + n + " behind others", x.distance(i, n),
                            Plain.distanceOf(g[i], n));
                }
            }
        }
    }

    private static void farDistances() {
        for (int width : new int[] {8, 13, 16, 17, 20, 24, 29, 32}) {
            for (int round = 0; round < 4; round++) {
                long p = random.nextLong() & (1L << width) - 1 | 1;
                Calls x = of(width, p);
                for (int n : new int[] {200, 199, 150}) {
                    due.is("distance of " + (1L << width | p) + " for " + n, x.distance(0, n),
                            Plain.distanceOf(1L << width | p, n));
                }
            }
        }
        edgeAt200();
    }

    /** Forms with multiples of degree 199 that have fewer bits than all lower ones. */
    private static void edgeAt200() {
        int found = 0;
        for (int round = 0; round < 4000 && found < 12; round++) {
            int width = 14 + random.nextInt(10);
            long p = random.nextLong() & (1L << width) - 1 | 1;
            Calls x = of(width, p);
            int most = x.distance(0, 199);
            if (x.distance(0, 200) < most) {
                found++;
                due.is("distance for 199 of " + (1L << width | p), most,
                        Plain.distanceOf(1L << width | p, 199));
                due.is("distance for 200 of " + (1L << width | p), x.distance(0, 200),
                        Plain.distanceOf(1L << width | p, 200));
            }
        }
        Calls x = of(11, 0x475);
        due.is("Golay's code, 23 bits", x.distance(0, 23), 5);
        due.is("Golay's code, 24 bits", x.distance(0, 24), 2);
        due.holds("some forms change at 200 bits", found > 0);
    }

    /** What has been found out about a form must not be told of the next one with its number. */
    private static void reusedForms() {
        Calls x = new Calls();
        for (int round = 0; round < 40; round++) {
            int width = 3 + random.nextInt(8);
            long p = random.nextLong() & (1L << width) - 1 | 1;
            x.form(width, p, 0, 0, false, false);
            x.form(8, 7, 0, 0, false, false);
            // Which of the calls comes first must not count.
            long least = Plain.factorsOf(1L << width | p).get(0)[0];
            if (round % 2 == 0) {
                due.is("factor of a form anew", x.factor(0, 0, 0), least);
            }
            due.is("order of a form anew", x.order(0), orderOf(width, p));
            due.is("order of the other", x.order(1), 127);
            due.is("factors of a form anew", x.factors(0), Plain.factorsOf(1L << width | p).size());
            due.is("factor behind order and factors", x.factor(0, 0, 0), least);
            due.is("distance of a form anew", x.distance(0, 20), Plain.distanceOf(1L << width | p, 20));
            due.is("distance of the other", x.distance(1, 20), 4);
            x.forget();
        }
    }
}
