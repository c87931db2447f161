import java.math.BigInteger;
import java.util.ArrayList;
import java.util.List;
import java.util.TreeMap;

/**
 * The document's words done in their plainest way, without regard to time: what SumForms is compared
 * with. Registers are rows of bits, polynomials big numbers, factors are tried one after the other.
 */
final class Plain {
    private static final long BAD = -1;
    private static final long FULL = -2;
    private static final BigInteger TWO = BigInteger.TWO;

    private record Form(int width, long polynomial, long start, long end, boolean in, boolean out) {
        BigInteger g() {
            return BigInteger.ONE.shiftLeft(width).or(BigInteger.valueOf(polynomial));
        }
    }

    private final List<Form> forms = new ArrayList<>();
    private final List<Integer> text = new ArrayList<>();

    long form(int width, long polynomial, long start, long end, boolean in, boolean out) {
        if (width < 3 || width > 32 || !bits(polynomial, width) || !bits(start, width)
                || !bits(end, width) || polynomial % 2 == 0) {
            return BAD;
        }
        if (forms.size() == 8) {
            return FULL;
        }
        forms.add(new Form(width, polynomial, start, end, in, out));
        return forms.size() - 1;
    }

    long forget() {
        int gone = forms.size();
        forms.clear();
        return gone;
    }

    long feed(int n, long v) {
        if (n < 1 || n > 8) {
            return BAD;
        }
        if (text.size() + n > 600) {
            return FULL;
        }
        String hex = String.format("%016x", v);
        for (int i = 8 - n; i < 8; i++) {
            text.add(Integer.parseInt(hex.substring(2 * i, 2 * i + 2), 16));
        }
        return text.size();
    }

    long cut(int n) {
        if (n < 0 || n > text.size()) {
            return BAD;
        }
        int gone = text.size() - n;
        text.subList(n, text.size()).clear();
        return gone;
    }

    long octet(int i) {
        return i < 0 || i >= text.size() ? BAD : text.get(i);
    }

    long count(int what) {
        return what == 0 ? forms.size() : what == 1 ? text.size() : BAD;
    }

    long sum(int form, int from, int to) {
        if (!known(form) || !part(from, to)) {
            return BAD;
        }
        Form f = forms.get(form);
        return toSum(f, fed(f, f.start, text.subList(from, to)));
    }

    long joined(int form, long a, long b, long n) {
        if (!known(form) || !bits(a, forms.get(form).width) || !bits(b, forms.get(form).width)
                || !length(n)) {
            return BAD;
        }
        Form f = forms.get(form);
        return toSum(f, toRegister(f, b) ^ moved(f, toRegister(f, a) ^ f.start, n));
    }

    long zeros(int form, long sum, long n) {
        if (!known(form) || !bits(sum, forms.get(form).width) || !length(n)) {
            return BAD;
        }
        Form f = forms.get(form);
        return toSum(f, moved(f, toRegister(f, sum), n));
    }

    long changed(int form, long sum, long n, int mask) {
        if (!known(form) || !bits(sum, forms.get(form).width) || !length(n) || mask < 0 || mask > 255) {
            return BAD;
        }
        Form f = forms.get(form);
        return toSum(f, toRegister(f, sum) ^ moved(f, fed(f, 0, List.of(mask)), n));
    }

    /** The row is found from what each single bit of it does to the register. */
    long tail(int form, long sum, long wanted) {
        if (!known(form) || !bits(sum, forms.get(form).width) || !bits(wanted, forms.get(form).width)
                || forms.get(form).width % 8 != 0) {
            return BAD;
        }
        Form f = forms.get(form);
        long missing = toRegister(f, wanted) ^ fed(f, toRegister(f, sum), row(0, f.width / 8));
        TreeMap<Integer, long[]> byTop = new TreeMap<>();
        for (int bit = 0; bit < f.width; bit++) {
            long does = fed(f, 0, row(1L << bit, f.width / 8));
            long[] reduced = reduced(byTop, does, 1L << bit);
            byTop.put(63 - Long.numberOfLeadingZeros(reduced[0]), reduced);
        }
        return reduced(byTop, missing, 0)[1];
    }

    private static long[] reduced(TreeMap<Integer, long[]> byTop, long does, long octets) {
        long[] now = {does, octets};
        for (int top : byTop.descendingKeySet()) {
            if ((now[0] >>> top & 1) != 0) {
                now[0] ^= byTop.get(top)[0];
                now[1] ^= byTop.get(top)[1];
            }
        }
        return now;
    }

    long factors(int form) {
        return known(form) ? factorsOf(forms.get(form).g().longValueExact()).size() : BAD;
    }

    long factor(int form, int i, int what) {
        if (!known(form) || what < 0 || what > 1) {
            return BAD;
        }
        List<long[]> all = factorsOf(forms.get(form).g().longValueExact());
        return i < 0 || i >= all.size() ? BAD : all.get(i)[what];
    }

    /** Each polynomial is tried by rising numbers, so that none that divides is a product. */
    static List<long[]> factorsOf(long g) {
        List<long[]> all = new ArrayList<>();
        long rest = g;
        for (long p = 2; rest != 1; p++) {
            if (2 * degree(p) > degree(rest)) {
                p = rest;
            }
            int times = 0;
            while (divided(rest, p)[1] == 0) {
                rest = divided(rest, p)[0];
                times++;
            }
            if (times > 0) {
                all.add(new long[] {p, times});
            }
        }
        return all;
    }

    private static int degree(long p) {
        return 63 - Long.numberOfLeadingZeros(p);
    }

    private static long[] divided(long p, long by) {
        long quotient = 0;
        long rest = p;
        while (rest != 0 && degree(rest) >= degree(by)) {
            quotient ^= 1L << (degree(rest) - degree(by));
            rest ^= by << (degree(rest) - degree(by));
        }
        return new long[] {quotient, rest};
    }

    long order(int form) {
        if (!known(form)) {
            return BAD;
        }
        Form f = forms.get(form);
        long power = move(f, 1);
        long n = 1;
        while (power != 1) {
            power = move(f, power);
            n++;
        }
        return n;
    }

    /** Whether n is the order: x^n is 1, and x^(n / p) is not, for all primes p of n. */
    static boolean isOrder(long g, long n) {
        if (n < 1 || !powerOfX(g, n).equals(BigInteger.ONE)) {
            return false;
        }
        long rest = n;
        for (long p = 2; rest > 1; p++) {
            if (p * p > rest) {
                p = rest;
            }
            if (rest % p == 0) {
                if (powerOfX(g, n / p).equals(BigInteger.ONE)) {
                    return false;
                }
                while (rest % p == 0) {
                    rest /= p;
                }
            }
        }
        return true;
    }

    private static BigInteger powerOfX(long g, long n) {
        return power(TWO, BigInteger.valueOf(n), BigInteger.valueOf(g));
    }

    long distance(int form, int n) {
        if (!known(form) || n < 1 || n > 200) {
            return BAD;
        }
        return distanceOf(forms.get(form).g().longValueExact(), n);
    }

    /** All polynomials with 1, 2, 3, 4 bits of n are looked at. */
    static int distanceOf(long g, int n) {
        long[] rest = new long[n];
        for (int i = 0; i < n; i++) {
            rest[i] = i == 0 ? 1 : divided(rest[i - 1] << 1, g)[1];
        }
        for (int bits = 1; bits <= 4; bits++) {
            if (some(rest, bits, 0, 0)) {
                return bits;
            }
        }
        return 5;
    }

    private static boolean some(long[] rest, int bits, int from, long sum) {
        if (bits == 0) {
            return sum == 0;
        }
        for (int i = from; i < rest.length; i++) {
            if (some(rest, bits - 1, i + 1, sum ^ rest[i])) {
                return true;
            }
        }
        return false;
    }

    long added(int what, int from, int to) {
        if (what < 0 || what > 1 || !part(from, to)) {
            return BAD;
        }
        long a = what == 0 ? 1 : 0;
        long b = 0;
        for (int octet : text.subList(from, to)) {
            a += octet;
            b += a;
        }
        return what == 0 ? 65536 * (b % 65521) + a % 65521 : 256 * (b % 255) + a % 255;
    }

    long addedJoined(int what, long a, long b, long n) {
        if (what < 0 || what > 1 || !length(n)) {
            return BAD;
        }
        long half = what == 0 ? 65536 : 256;
        long modulus = what == 0 ? 65521 : 255;
        long less = what == 0 ? 1 : 0;
        for (long told : new long[] {a, b}) {
            if (told < 0 || told / half >= modulus || told % half >= modulus) {
                return BAD;
            }
        }
        BigInteger low = BigInteger.valueOf(a % half + b % half - less);
        BigInteger times = BigInteger.valueOf(n).multiply(BigInteger.valueOf(a % half - less));
        BigInteger high = BigInteger.valueOf(a / half + b / half).add(times);
        BigInteger m = BigInteger.valueOf(modulus);
        return half * high.mod(m).longValue() + low.mod(m).longValue();
    }

    private boolean known(int form) {
        return form >= 0 && form < forms.size();
    }

    private boolean part(int from, int to) {
        return 0 <= from && from <= to && to <= text.size();
    }

    private static boolean length(long n) {
        return n >= 0 && n <= 1152921504606846976L;
    }

    private static boolean bits(long value, int width) {
        return value >= 0 && BigInteger.valueOf(value).bitLength() <= width;
    }

    static List<Integer> row(long octets, int n) {
        List<Integer> row = new ArrayList<>();
        for (int i = n - 1; i >= 0; i--) {
            row.add((int) (octets >>> 8 * i & 255));
        }
        return row;
    }

    private static long fed(Form f, long register, List<Integer> octets) {
        long now = register;
        for (int octet : octets) {
            String bits = String.format("%8s", Integer.toBinaryString(octet)).replace(' ', '0');
            if (f.in) {
                bits = new StringBuilder(bits).reverse().toString();
            }
            for (char bit : bits.toCharArray()) {
                boolean other = (now >>> f.width - 1 & 1) != bit - '0';
                now = now * 2 % (1L << f.width);
                if (other) {
                    now ^= f.polynomial;
                }
            }
        }
        return now;
    }

    private static long move(Form f, long register) {
        boolean high = register >>> f.width - 1 == 1;
        long up = register * 2 % (1L << f.width);
        return high ? up ^ f.polynomial : up;
    }

    /** Few octets bit by bit; many as a product with a power of x, for a register is a polynomial. */
    private static long moved(Form f, long register, long octets) {
        if (octets < 100) {
            long now = register;
            for (int i = 0; i < 8 * octets; i++) {
                now = move(f, now);
            }
            return now;
        }
        BigInteger bits = BigInteger.valueOf(octets).multiply(BigInteger.valueOf(8));
        return times(BigInteger.valueOf(register), power(TWO, bits, f.g()), f.g()).longValueExact();
    }

    private static BigInteger power(BigInteger p, BigInteger n, BigInteger g) {
        BigInteger all = times(BigInteger.ONE, BigInteger.ONE, g);
        for (int bit = n.bitLength() - 1; bit >= 0; bit--) {
            all = times(all, all, g);
            if (n.testBit(bit)) {
                all = times(all, p, g);
            }
        }
        return all;
    }

    private static BigInteger times(BigInteger p, BigInteger q, BigInteger g) {
        BigInteger all = BigInteger.ZERO;
        for (int bit = 0; bit < q.bitLength(); bit++) {
            if (q.testBit(bit)) {
                all = all.xor(p.shiftLeft(bit));
            }
        }
        while (all.bitLength() >= g.bitLength()) {
            all = all.xor(g.shiftLeft(all.bitLength() - g.bitLength()));
        }
        return all;
    }

    private static long toSum(Form f, long register) {
        return (f.out ? turned(register, f.width) : register) ^ f.end;
    }

    private static long toRegister(Form f, long sum) {
        return f.out ? turned(sum ^ f.end, f.width) : sum ^ f.end;
    }

    private static long turned(long value, int width) {
        return Long.reverse(value) >>> 64 - width;
    }
}
