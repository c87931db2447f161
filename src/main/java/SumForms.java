/**
 * Check sums of octets: cyclic ones of any told form, and two that add; of whole texts and of parts
 * put together without their octets, with octets changed or zeros behind, the octets that make a sum
 * what is wanted; and what a form is worth: its factors, its order, how few bits may change unseen.
 */
public final class SumForms {
    /** Refusals: a number is not as told or there is no such thing; there is no room for more. */
    public static final int BAD = -1, FULL = -2;

    private static final int MOST_FORMS = 8;
    private static final int MOST_OCTETS = 600;
    private static final int LEAST_WIDTH = 3;
    private static final int MOST_WIDTH = 32;
    private static final int MOST_FED = 8;
    private static final int MOST_BITS = 200;
    private static final int LENGTH_BITS = 61;
    private static final long MOST_LENGTH = 1L << 60;

    // The two adding sums, ADLER and FLETCHER, by what the caller names them with: 0, 1.
    private static final int[] ADDING_MODULUS = {65521, 255};
    private static final int[] ADDING_HALF_BITS = {16, 8};
    private static final int[] ADDING_FIRST = {1, 0};

    private final int[] text = new int[MOST_OCTETS];
    private int octets = 0;
    private final Form[] forms = new Form[MOST_FORMS];
    private int formCount = 0;
    private final Remainders remainders = new Remainders();

    public SumForms() {
        for (int i = 0; i < MOST_FORMS; i++) {
            forms[i] = new Form();
        }
    }

    /** A form more: its number. */
    public int form(int width, long polynomial, long start, long end, boolean in, boolean out) {
        if (width < LEAST_WIDTH || width > MOST_WIDTH) {
            return BAD;
        }
        if (!hasBits(polynomial, width) || !hasBits(start, width) || !hasBits(end, width)) {
            return BAD;
        }
        if ((polynomial & 1) == 0) {
            return BAD;
        }
        if (formCount >= MOST_FORMS) {
            return FULL;
        }
        forms[formCount].become(width, polynomial, start, end, in, out);
        formCount++;
        return formCount - 1;
    }

    /** All forms go: how many there were. */
    public int forget() {
        int gone = formCount;
        formCount = 0;
        return gone;
    }

    /** The n lowest octets of v, the highest of them first, come behind the text: how many it has. */
    public int feed(int n, long v) {
        if (n < 1 || n > MOST_FED) {
            return BAD;
        }
        if (octets + n > MOST_OCTETS) {
            return FULL;
        }
        for (int left = n - 1; left >= 0; left--) {
            text[octets] = (int) (v >>> (8 * left)) & 255;
            octets++;
        }
        return octets;
    }

    /** The text keeps its first n octets: how many went. */
    public int cut(int n) {
        if (n < 0 || n > octets) {
            return BAD;
        }
        int gone = octets - n;
        octets = n;
        return gone;
    }

    /** Octet i of the text. */
    public int octet(int i) {
        if (i < 0 || i >= octets) {
            return BAD;
        }
        return text[i];
    }

    /** How many: forms (what = 0), octets of the text (1). */
    public int count(int what) {
        if (what == 0) {
            return formCount;
        }
        return what == 1 ? octets : BAD;
    }

    // ---- sums

    /** The sum by a form of the text's octets from one on, before another one. */
    public long sum(int form, int from, int to) {
        if (!isForm(form) || !isPart(from, to)) {
            return BAD;
        }
        Form told = forms[form];
        long register = told.start;
        for (int i = from; i < to; i++) {
            register = told.behindOctet(register, text[i]);
        }
        return told.sumOf(register);
    }

    /** The sum of A with sum a and then B with sum b and n octets. */
    public long joined(int form, long a, long b, long n) {
        if (!isSum(form, a) || !isSum(form, b) || !isLength(n)) {
            return BAD;
        }
        Form told = forms[form];
        long moved = told.movedByOctets(told.registerOf(a) ^ told.start, n);
        return told.sumOf(told.registerOf(b) ^ moved);
    }

    /** The sum of a row with a sum and n octets 0 behind it. */
    public long zeros(int form, long sum, long n) {
        if (!isSum(form, sum) || !isLength(n)) {
            return BAD;
        }
        Form told = forms[form];
        return told.sumOf(told.movedByOctets(told.registerOf(sum), n));
    }

    /** The sum of a row when the octet with n octets behind it is changed by a mask. */
    public long changed(int form, long sum, long n, int mask) {
        if (!isSum(form, sum) || !isLength(n) || mask < 0 || mask > 255) {
            return BAD;
        }
        Form told = forms[form];
        long moved = told.movedByOctets(told.behindOctet(0, mask), n);
        return told.sumOf(told.registerOf(sum) ^ moved);
    }

    /** The octets that lead from a sum to another one, as a number, the first octet highest. */
    public long tail(int form, long sum, long wanted) {
        if (!isSum(form, sum) || !isSum(form, wanted) || forms[form].width % 8 != 0) {
            return BAD;
        }
        Form told = forms[form];
        return told.octetsBetween(told.registerOf(sum), told.registerOf(wanted));
    }

    // ---- what a form is worth

    /** How many unlike factors a form's polynomial has. */
    public int factors(int form) {
        if (!isForm(form)) {
            return BAD;
        }
        Form told = forms[form];
        told.factoring.findFor(told.generator);
        return told.factoring.size;
    }

    /** Of factor i: what = 0 the polynomial, 1 how often. */
    public long factor(int form, int i, int what) {
        if (!isForm(form) || i < 0 || what < 0 || what > 1) {
            return BAD;
        }
        Form told = forms[form];
        told.factoring.findFor(told.generator);
        if (i >= told.factoring.size) {
            return BAD;
        }
        return what == 0 ? told.factoring.polynomials[i] : told.factoring.times[i];
    }

    /** The least n, 1 or more, such that a form's polynomial divides x^n - 1. */
    public long order(int form) {
        if (!isForm(form)) {
            return BAD;
        }
        Form told = forms[form];
        told.factoring.findFor(told.generator);
        return told.factoring.foundPeriod();
    }

    /** How few bits of n may change unseen: 5, if more than 4. */
    public int distance(int form, int n) {
        if (!isForm(form) || n < 1 || n > MOST_BITS) {
            return BAD;
        }
        Form told = forms[form];
        told.unseen.findFor(told.generator, remainders);
        return told.unseen.fewest(n);
    }

    // ---- adding sums

    /** ADLER (what = 0), FLETCHER (1) of the text's octets from one on, before another one. */
    public long added(int what, int from, int to) {
        if (!isAdding(what) || !isPart(from, to)) {
            return BAD;
        }
        int modulus = ADDING_MODULUS[what];
        int a = ADDING_FIRST[what];
        int b = 0;
        for (int i = from; i < to; i++) {
            a = (a + text[i]) % modulus;
            b = (b + a) % modulus;
        }
        return halves(what, a, b);
    }

    /** The adding sum of A with sum a and then B with sum b and n octets. */
    public long addedJoined(int what, long a, long b, long n) {
        if (!isAdding(what) || !isAddingSum(what, a) || !isAddingSum(what, b) || !isLength(n)) {
            return BAD;
        }
        int modulus = ADDING_MODULUS[what];
        // B's own sum began at the first a already, so A's a counts without it; kept from below 0.
        long carried = (lowHalf(what, a) + modulus - ADDING_FIRST[what]) % modulus;
        long low = (lowHalf(what, b) + carried) % modulus;
        long high = (highHalf(what, a) + highHalf(what, b) + n % modulus * carried) % modulus;
        return halves(what, low, high);
    }

    private boolean isForm(int number) {
        return number >= 0 && number < formCount;
    }

    private boolean isSum(int number, long value) {
        return isForm(number) && hasBits(value, forms[number].width);
    }

    private boolean isPart(int from, int to) {
        return from >= 0 && from <= to && to <= octets;
    }

    private static boolean isLength(long n) {
        return n >= 0 && n <= MOST_LENGTH;
    }

    private static boolean hasBits(long value, int width) {
        return value >= 0 && value < 1L << width;
    }

    private static boolean isAdding(int what) {
        return what == 0 || what == 1;
    }

    private static boolean isAddingSum(int what, long value) {
        int modulus = ADDING_MODULUS[what];
        return value >= 0 && lowHalf(what, value) < modulus && highHalf(what, value) < modulus;
    }

    private static long lowHalf(int what, long value) {
        return value & ((1L << ADDING_HALF_BITS[what]) - 1);
    }

    private static long highHalf(int what, long value) {
        return value >>> ADDING_HALF_BITS[what];
    }

    private static long halves(int what, long low, long high) {
        return (high << ADDING_HALF_BITS[what]) + low;
    }

    /** A form: how a register takes octets, and how it and a sum come from one another. */
    private static final class Form {
        private int width;
        // G: with the highest power a carry out of the register goes in the same step as P comes in.
        private long generator;
        private long start;
        private long end;
        private boolean in;
        private boolean out;
        private final Factors factoring = new Factors();
        private final Unseen unseen = new Unseen();

        private void become(int width, long polynomial, long start, long end, boolean in, boolean out) {
            this.width = width;
            this.generator = 1L << width | polynomial;
            this.start = start;
            this.end = end;
            this.in = in;
            this.out = out;
        }

        private long sumOf(long register) {
            return (out ? turned(register, width) : register) ^ end;
        }

        private long registerOf(long sum) {
            return out ? turned(sum ^ end, width) : sum ^ end;
        }

        private long behindOctet(long register, int octet) {
            long now = register;
            for (int k = 0; k < 8; k++) {
                long bit = octet >> (in ? k : 7 - k) & 1;
                // The highest bit, which goes, stands for whether it and this one are not the same.
                now = Polynomials.timesX(now ^ bit << (width - 1), generator, width);
            }
            return now;
        }

        // Undoes one step up: P is odd, so that the lowest bit tells whether it came in.
        private long movedDown(long register) {
            return ((register & 1) != 0 ? register ^ generator : register) >>> 1;
        }

        // By octets and not by bits: 8 n may be 2^63, which a long does not hold.
        private long movedByOctets(long register, long n) {
            long step = 1;
            for (int k = 0; k < 8; k++) {
                step = Polynomials.timesX(step, generator, width);
            }
            long now = register;
            for (int bit = 0; bit < LENGTH_BITS && n >>> bit != 0; bit++) {
                if ((n >>> bit & 1) != 0) {
                    now = Polynomials.product(now, step, generator);
                }
                step = Polynomials.product(step, step, generator);
            }
            return now;
        }

        // As many bits as the register has come in as if they had been in it and it had been moved.
        private long octetsBetween(long register, long wanted) {
            long before = wanted;
            for (int k = 0; k < width; k++) {
                before = movedDown(before);
            }
            long bits = before ^ register;
            return in ? turnedByOctets(bits) : bits;
        }

        private long turnedByOctets(long bits) {
            long all = 0;
            for (int shift = 0; shift < width; shift += 8) {
                all |= turned(bits >>> shift & 255, 8) << shift;
            }
            return all;
        }

        private static long turned(long value, int bits) {
            long other = 0;
            for (int k = 0; k < bits; k++) {
                other = other << 1 | (value >>> k & 1);
            }
            return other;
        }
    }

    /** Polynomials over 0 and 1, told as numbers bit by bit. */
    private static final class Polynomials {
        private static final long X = 2;

        /** The highest power; -1 of 0. */
        private static int degree(long p) {
            if (p == 0) {
                return -1;
            }
            int top = 0;
            for (int half = 32; half > 0; half >>= 1) {
                if (p >>> (top + half) != 0) {
                    top += half;
                }
            }
            return top;
        }

        private static long remainder(long p, long divisor) {
            int low = degree(divisor);
            if (low < 0) {
                return p;
            }
            long rest = p;
            for (int bit = degree(p); bit >= low; bit--) {
                if ((rest >>> bit & 1) != 0) {
                    rest ^= divisor << (bit - low);
                }
            }
            return rest;
        }

        private static long quotient(long p, long divisor) {
            int low = degree(divisor);
            if (low < 0) {
                return 0;
            }
            long rest = p;
            long times = 0;
            for (int bit = degree(p); bit >= low; bit--) {
                if ((rest >>> bit & 1) != 0) {
                    rest ^= divisor << (bit - low);
                    times |= 1L << (bit - low);
                }
            }
            return times;
        }

        /** The greatest divisor of both; each round lowers the degree, so 64 are more than enough. */
        private static long greatestCommon(long p, long q) {
            long one = p;
            long other = q;
            for (int round = 0; round < 64 && other != 0; round++) {
                long rest = remainder(one, other);
                one = other;
                other = rest;
            }
            return one;
        }

        /** x times p modulo m, which has the degree told, p having a lower one. */
        private static long timesX(long p, long m, int degree) {
            long up = p << 1;
            return (up >>> degree & 1) != 0 ? up ^ m : up;
        }

        /** p times q modulo m, both of a lower degree than m. */
        private static long product(long p, long q, long m) {
            int degree = degree(m);
            long all = 0;
            for (int bit = degree - 1; bit >= 0; bit--) {
                all = timesX(all, m, degree);
                if ((q >>> bit & 1) != 0) {
                    all ^= p;
                }
            }
            return all;
        }

        /** x^n modulo m. */
        private static long powerOfX(long n, long m) {
            int degree = degree(m);
            long power = 1;
            for (int bit = degree(n); bit >= 0; bit--) {
                power = product(power, power, m);
                if ((n >>> bit & 1) != 0) {
                    power = timesX(power, m, degree);
                }
            }
            return power;
        }

        /** h + h^2 + h^4 + .., so many of them, modulo m. */
        private static long trace(long h, int terms, long m) {
            long term = h;
            long all = h;
            for (int k = 1; k < terms; k++) {
                term = product(term, term, m);
                all ^= term;
            }
            return all;
        }
    }

    /** The factors of a polynomial with an odd number, and its order, which they tell. */
    private static final class Factors {
        // One of degree 1, one of 2, two of 3, three of 4, two of 5 have 31 of at most 32 powers.
        private static final int MOST_FACTORS = 9;
        // All that divide 2^d - 1 for a d up to 32.
        private static final int[] PRIMES = {
            3, 5, 7, 11, 13, 17, 19, 23, 29, 31, 41, 43, 47, 73, 89, 113, 127, 151, 233, 241, 257, 331,
            337, 601, 683, 1103, 1801, 2089, 2731, 8191, 65537, 131071, 178481, 262657, 524287,
            2147483647
        };

        private final long[] polynomials = new long[MOST_FACTORS];
        private final int[] times = new int[MOST_FACTORS];
        private int size = 0;
        private long period = 0;
        // What has been found is kept until another polynomial is asked for; 0 is none.
        private long foundFor = 0;

        // By rising degree d: x^(2^d) - x is the product, each once, of all the polynomials without
        // a product of their own whose degree divides d, and the lower ones are gone by then.
        private void findFor(long generator) {
            if (foundFor == generator) {
                return;
            }
            foundFor = generator;
            size = 0;
            period = 0;
            long rest = generator;
            long power = Polynomials.X;
            for (int d = 1; d < MOST_WIDTH && 2 * d <= Polynomials.degree(rest); d++) {
                power = Polynomials.product(power, power, rest);
                long common = Polynomials.greatestCommon(rest, power ^ Polynomials.X);
                if (common != 1) {
                    int first = size;
                    append(common, 0);
                    split(first, common, d);
                    sort(first);
                    rest = withoutFactorsFrom(first, rest);
                    power = Polynomials.remainder(power, rest);
                }
            }
            if (rest != 1) {
                append(rest, 1);
            }
        }

        private void append(long polynomial, int often) {
            if (size < MOST_FACTORS) {
                polynomials[size] = polynomial;
                times[size] = often;
                size++;
            }
        }

        // The common part of degree d's factors has each of them once; modulo each a trace is 0 or 1,
        // and some x^k with k below the part's degree has a trace that tells any two of them apart.
        private void split(int first, long common, int d) {
            int degree = Polynomials.degree(common);
            long power = 1;
            for (int k = 1; k < degree && (size - first) * d < degree; k++) {
                power = Polynomials.timesX(power, common, degree);
                long trace = Polynomials.trace(power, d, common);
                int before = size;
                for (int i = first; i < before; i++) {
                    splitOne(i, trace);
                }
            }
        }

        private void splitOne(int i, long trace) {
            long whole = polynomials[i];
            long part = Polynomials.greatestCommon(whole, Polynomials.remainder(trace, whole));
            if (part != 1 && part != whole) {
                polynomials[i] = part;
                append(Polynomials.quotient(whole, part), 0);
            }
        }

        private void sort(int first) {
            for (int i = first + 1; i < size; i++) {
                for (int k = i; k > first && polynomials[k - 1] > polynomials[k]; k--) {
                    long higher = polynomials[k - 1];
                    polynomials[k - 1] = polynomials[k];
                    polynomials[k] = higher;
                }
            }
        }

        private long withoutFactorsFrom(int first, long rest) {
            long left = rest;
            for (int i = first; i < size; i++) {
                while (times[i] < MOST_WIDTH && Polynomials.remainder(left, polynomials[i]) == 0) {
                    left = Polynomials.quotient(left, polynomials[i]);
                    times[i]++;
                }
            }
            return left;
        }

        // (x^n - 1)^2 is x^2n - 1: a factor that is there often has its period doubled until the
        // doublings make up for how often.
        private long foundPeriod() {
            if (period != 0) {
                return period;
            }
            int most = 1;
            period = 1;
            for (int i = 0; i < size; i++) {
                period = leastCommonMultiple(period, periodOf(polynomials[i]));
                most = most < times[i] ? times[i] : most;
            }
            for (int doubled = 1; doubled < MOST_WIDTH && doubled < most; doubled *= 2) {
                period *= 2;
            }
            return period;
        }

        // The period of a factor of degree d divides 2^d - 1.
        private static long periodOf(long polynomial) {
            long least = (1L << Polynomials.degree(polynomial)) - 1;
            for (int prime : PRIMES) {
                least = withoutPrime(least, prime, polynomial);
            }
            return least;
        }

        private static long withoutPrime(long period, int prime, long polynomial) {
            long least = period;
            for (int k = 0; k < MOST_WIDTH && least % prime == 0; k++) {
                if (Polynomials.powerOfX(least / prime, polynomial) != 1) {
                    break;
                }
                least /= prime;
            }
            return least;
        }

        private static long leastCommonMultiple(long a, long b) {
            long one = a;
            long other = b;
            for (int round = 0; round < 100 && other != 0; round++) {
                long rest = one % other;
                one = other;
                other = rest;
            }
            return one == 0 ? 0 : a / one * b;
        }
    }

    /** From how many bits on 2, 3, 4 changed ones may stay unseen. */
    private static final class Unseen {
        private static final int NEVER = MOST_BITS + 1;

        private int twoFrom = NEVER;
        private int threeFrom = NEVER;
        private int fourFrom = NEVER;
        // What has been found is kept until another polynomial is asked for; 0 is none.
        private long foundFor = 0;

        private int fewest(int n) {
            if (n >= twoFrom) {
                return 2;
            }
            if (n >= threeFrom) {
                return 3;
            }
            return n >= fourFrom ? 4 : 5;
        }

        // G does not have x in it, so a multiple moved down until it has bit 0 is one too, and G
        // divides no single bit. Left are 1, a highest power x^j, and none, one or two between.
        private void findFor(long generator, Remainders below) {
            if (foundFor == generator) {
                return;
            }
            foundFor = generator;
            twoFrom = NEVER;
            threeFrom = NEVER;
            fourFrom = NEVER;
            int degree = Polynomials.degree(generator);
            long power = 1;
            below.clear();
            for (int j = 1; j < MOST_BITS && twoFrom == NEVER; j++) {
                below.add(power);
                power = Polynomials.timesX(power, generator, degree);
                lookAt(power ^ 1, j + 1, below);
            }
        }

        // More bits than have been found already are of no use any longer.
        private void lookAt(long needed, int bits, Remainders below) {
            if (needed == 0) {
                twoFrom = bits;
            } else if (threeFrom == NEVER) {
                if (below.has(needed)) {
                    threeFrom = bits;
                } else if (fourFrom == NEVER && below.hasTwo(needed)) {
                    fourFrom = bits;
                }
            }
        }
    }

    /** A set of remainders, none 0, that is asked for one of them or for two that make a third. */
    private static final class Remainders {
        private static final int SLOT_BITS = 9;
        private static final int SLOTS = 1 << SLOT_BITS;
        // Spreads remainders that differ in a few bits alone.
        private static final long SPREAD = 0x9E3779B97F4A7C15L;

        private final long[] row = new long[MOST_BITS];
        private final long[] slots = new long[SLOTS];
        private int size = 0;

        private void clear() {
            size = 0;
            for (int i = 0; i < SLOTS; i++) {
                slots[i] = 0;
            }
        }

        private void add(long remainder) {
            if (size < MOST_BITS) {
                row[size] = remainder;
                size++;
                slots[slotOf(remainder)] = remainder;
            }
        }

        private boolean has(long remainder) {
            return remainder != 0 && slots[slotOf(remainder)] == remainder;
        }

        private boolean hasTwo(long needed) {
            for (int i = 0; i < size; i++) {
                if (has(needed ^ row[i])) {
                    return true;
                }
            }
            return false;
        }

        // Its own slot, or the free one where it would go: there are more slots than remainders.
        private int slotOf(long remainder) {
            int slot = (int) (remainder * SPREAD >>> (64 - SLOT_BITS));
            for (int k = 0; k < SLOTS && slots[slot] != 0 && slots[slot] != remainder; k++) {
                slot = (slot + 1) & (SLOTS - 1);
            }
            return slot;
        }
    }
}
