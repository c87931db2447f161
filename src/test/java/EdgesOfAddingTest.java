/** The boundary cases of promises 17 and 18 and of the terms of ADDING SUMS: a method for each sentence. */
public final class EdgesOfAddingTest {
    private static final Due due = new Due("EdgesOfAddingTest");
    private static final Refusals refusals = new Refusals(due);
    private static final int LEAST = Integer.MIN_VALUE;
    private static final int MOST = Integer.MAX_VALUE;
    private static final long LONGEST = 1L << 60;
    private static final long[] HALF = {65536, 256};
    private static final long[] MODULUS = {65521, 255};

    public static void main(String[] args) {
        addedOfNone();
        addedOfOne();
        adlerWrapsA();
        adlerWrapsB();
        fletcherWraps();
        addedParts();
        addedAll();
        addedWhat();
        addedNoPart();
        joinedHalves();
        joinedNoHalves();
        joinedLengths();
        joinedNoLengths();
        joinedNone();
        joinedNotBelowZero();
        joinedModulo();
        joinedWhat();
        due.end();
    }

    private static void addedOfNone() {
        due.about("ADDING SUMS, \"a is 1 at first, b is 0\", \"a and b are 0 at first\", of no octets");
        for (Refusals.Setting setting : Refusals.Setting.values()) {
            Calls x = Refusals.made(setting);
            for (int at : new int[] {0, setting.octets / 2, setting.octets}) {
                due.is(setting + ": added(0, " + at + ", " + at + ")", x.added(0, at, at), 1);
                due.is(setting + ": added(1, " + at + ", " + at + ")", x.added(1, at, at), 0);
            }
        }
    }

    private static void addedOfOne() {
        due.about("ADDING SUMS, \"for each octet a becomes a + it, then b becomes b + a\", of one octet");
        for (int octet = 0; octet <= 255; octet++) {
            Calls x = new Calls();
            x.feed(1, octet);
            due.is("ADLER of " + octet, x.added(0, 0, 1), 65536L * (1 + octet) + 1 + octet);
            due.is("FLETCHER of " + octet, x.added(1, 0, 1), 256L * (octet % 255) + octet % 255);
        }
    }

    /** A text of so many octets 255 and one more behind them. */
    private static Calls high(int many, int last) {
        Calls x = new Calls();
        int left = many;
        while (left > 0) {
            int n = Math.min(8, left);
            x.feed(n, -1);
            left -= n;
        }
        x.feed(1, last);
        return x;
    }

    private static void adlerWrapsA() {
        due.about("ADDING SUMS, ADLER's a \"modulo 65521\"");
        // 1 and 256 times 255 are 65281, so that 239 is the last octet that does not lead around.
        due.is("a is 65520", high(256, 239).added(0, 0, 257) % 65536, 65520);
        due.is("a is 65521: 0", high(256, 240).added(0, 0, 257) % 65536, 0);
        due.is("a is 65522: 1", high(256, 241).added(0, 0, 257) % 65536, 1);
        due.is("a is 65536: 15", high(256, 255).added(0, 0, 257) % 65536, 15);
    }

    private static void adlerWrapsB() {
        due.about("ADDING SUMS, ADLER's b \"modulo 65521\"");
        // An octet 181 with 359 octets 0 behind it gives b = 360 + 360 * 181 = 65520.
        due.is("b is 65520", spread(0, 0).added(0, 0, 360), 65520L * 65536 + 182);
        due.is("b is 65521: 0", spread(1, 0).added(0, 0, 361), 182);
        due.is("b is 65522: 1", spread(1, 1).added(0, 0, 361), 65536 + 183);
        // 22 octets 255 give b = 22 + 255 * 253 = 64537, one more gives 70403.
        due.is("22 octets 255", high(21, 255).added(0, 0, 22), 64537L * 65536 + 5611);
        due.is("23 octets 255", high(22, 255).added(0, 0, 23), (70403L - 65521) * 65536 + 5866);
    }

    /** Some octets 0, an octet 181, 358 octets 0, and one more. */
    private static Calls spread(int before, int last) {
        Calls x = new Calls();
        for (int i = 0; i < before; i++) {
            x.feed(1, 0);
        }
        x.feed(1, 181);
        for (int i = 0; i < 358; i++) {
            x.feed(1, 0);
        }
        x.feed(1, last);
        return x;
    }

    private static void fletcherWraps() {
        due.about("ADDING SUMS, FLETCHER's a and b \"modulo 255\"");
        long[][] rows = {{0xFE, 1, 254, 254}, {0xFF, 1, 0, 0}, {0xFE01, 2, 0, 254}, {0xFEFE, 2, 253, 252},
            {0x7F80, 2, 0, 127}, {0x7F7F, 2, 254, 126}, {0x0001FD, 3, 254, 0}, {0xFFFF, 2, 0, 0},
            {0x01FF, 2, 1, 2}, {0x80FF, 2, 128, 1}, {0x80FE, 2, 127, 0}, {0x80FD, 2, 126, 254}};
        for (long[] row : rows) {
            Calls x = new Calls();
            x.feed((int) row[1], row[0]);
            due.is("FLETCHER of " + Long.toHexString(row[0]), x.added(1, 0, (int) row[1]),
                    256 * row[3] + row[2]);
        }
        for (int many = 0; many < 600; many += 37) {
            due.is("FLETCHER of " + many + " octets 255", high(many, 0).added(1, 0, many), 0);
        }
    }

    private static void addedParts() {
        due.about("Promise 17, \"from, to as sum()\"");
        Calls x = new Calls();
        Plain plain = new Plain();
        x.feed(5, 0x31FF008037L);
        plain.feed(5, 0x31FF008037L);
        for (int what = 0; what < 2; what++) {
            for (int from = -2; from <= 7; from++) {
                for (int to = -2; to <= 7; to++) {
                    boolean taken = 0 <= from && from <= to && to <= 5;
                    due.is("added(" + what + ", " + from + ", " + to + ") of 5", x.added(what, from, to),
                            taken ? plain.added(what, from, to) : -1);
                }
            }
        }
    }

    private static void addedAll() {
        due.about("Promise 17, \"from, to as sum()\", of a full text");
        Calls x = new Calls();
        Plain plain = new Plain();
        for (int i = 0; i < 75; i++) {
            x.feed(8, -1L - i);
            plain.feed(8, -1L - i);
        }
        int[][] parts = {{0, 600}, {0, 599}, {1, 600}, {599, 600}, {600, 600}};
        for (int what = 0; what < 2; what++) {
            for (int[] part : parts) {
                due.is("added(" + what + ", " + part[0] + ", " + part[1] + ")",
                        x.added(what, part[0], part[1]), plain.added(what, part[0], part[1]));
            }
            due.is("added(" + what + ", 0, 601)", x.added(what, 0, 601), -1);
            due.is("added(" + what + ", 601, 601)", x.added(what, 601, 601), -1);
        }
        x.cut(5);
        due.is("added(0, 0, 5) behind cut(5)", x.added(0, 0, 5), plain.added(0, 0, 5));
        due.is("added(0, 0, 6) behind cut(5)", x.added(0, 0, 6), -1);
    }

    private static void addedWhat() {
        due.about("Promise 17, \"ADLER (what = 0), FLETCHER (1)\", \"BAD\"");
        for (int what : new int[] {-1, 2, -2, 3, 256, LEAST, MOST}) {
            refusals.bad("added(" + what + ", 0, 0)", x -> x.added(what, 0, 0));
        }
    }

    private static void addedNoPart() {
        due.about("Promise 17, \"from, to as sum()\", \"BAD\"");
        for (Refusals.Setting setting : Refusals.Setting.values()) {
            int end = setting.octets;
            int[][] parts = {{-1, 0}, {-1, -1}, {1, 0}, {end, end - 1}, {0, end + 1}, {end + 1, end + 1},
                {LEAST, 0}, {LEAST, LEAST}, {0, MOST}, {MOST, MOST}, {LEAST, MOST}, {MOST, LEAST}};
            for (int[] part : parts) {
                for (int what = 0; what < 2; what++) {
                    int by = what;
                    refusals.bad(setting, "added(" + by + ", " + part[0] + ", " + part[1] + ")",
                            x -> x.added(by, part[0], part[1]));
                }
            }
        }
    }

    private static void joinedHalves() {
        due.about("Promise 18, \"both halves below 65521, 255\", the highest that are taken");
        Plain plain = new Plain();
        for (int what = 0; what < 2; what++) {
            Calls x = new Calls();
            long top = MODULUS[what] - 1;
            for (long a : new long[] {0, top, HALF[what] * top, HALF[what] * top + top}) {
                for (long b : new long[] {0, top, HALF[what] * top, HALF[what] * top + top}) {
                    due.is("addedJoined(" + what + ", " + a + ", " + b + ", 7)", x.addedJoined(what, a, b, 7),
                            plain.addedJoined(what, a, b, 7));
                }
            }
        }
    }

    private static void joinedNoHalves() {
        due.about("Promise 18, \"both halves below 65521, 255\", \"BAD\"");
        for (int what = 0; what < 2; what++) {
            int by = what;
            long half = HALF[what];
            long past = MODULUS[what];
            // Behind the two halves there is nothing: a third one is no sum.
            for (long wrong : new long[] {past, half - 1, half * past, half * past + 1, half * (half - 1),
                    half * half - 1, half * half, half * half + 1, half * half * half, 1L << 32, 1L << 48,
                    -1, -half, -half * half, Long.MIN_VALUE, Long.MIN_VALUE + 1, Long.MAX_VALUE}) {
                refusals.bad("addedJoined(" + by + ", " + wrong + ", 1, 1)",
                        x -> x.addedJoined(by, wrong, 1, 1));
                refusals.bad("addedJoined(" + by + ", 1, " + wrong + ", 1)",
                        x -> x.addedJoined(by, 1, wrong, 1));
            }
        }
        refusals.bad("an ADLER as a FLETCHER", x -> x.addedJoined(1, 65536, 0, 1));
    }

    private static void joinedLengths() {
        due.about("Promise 18, \"B having n octets (0 to 2^60)\"");
        Plain plain = new Plain();
        long[] lengths = {0, 1, 2, 254, 255, 256, 65520, 65521, 65522, (1L << 31) - 1, 1L << 31, 1L << 32,
            LONGEST - 1, LONGEST};
        for (int what = 0; what < 2; what++) {
            Calls x = new Calls();
            for (long n : lengths) {
                for (long a : new long[] {0, 1, 2, MODULUS[what] - 1, HALF[what] * 3 + 5}) {
                    due.is("addedJoined(" + what + ", " + a + ", " + 4 + ", " + n + ")",
                            x.addedJoined(what, a, 4, n), plain.addedJoined(what, a, 4, n));
                }
            }
        }
        // 2^60 is 64590 modulo 65521, and 16 modulo 255.
        due.is("ADLER, 2^60 octets", new Calls().addedJoined(0, 2, 1, LONGEST), 64590L * 65536 + 2);
        due.is("FLETCHER, 2^60 octets", new Calls().addedJoined(1, 1, 0, LONGEST), 16 * 256 + 1);
    }

    private static void joinedNoLengths() {
        due.about("Promise 18, \"n octets (0 to 2^60)\", \"BAD\"");
        for (long n : new long[] {-1, LONGEST + 1, -LONGEST, 2 * LONGEST, Long.MIN_VALUE, Long.MAX_VALUE}) {
            for (int what = 0; what < 2; what++) {
                int by = what;
                refusals.bad("addedJoined(" + by + ", 1, 1, " + n + ")", x -> x.addedJoined(by, 1, 1, n));
            }
        }
    }

    private static void joinedNone() {
        due.about("ADDING SUMS, \"PUT TOGETHER\", where one has no octets");
        Calls x = new Calls();
        x.feed(4, 0xFF800137L);
        for (int what = 0; what < 2; what++) {
            long none = x.added(what, 0, 0);
            long all = x.added(what, 0, 4);
            due.is("none and none", x.addedJoined(what, none, none, 0), none);
            due.is("all and none", x.addedJoined(what, all, none, 0), all);
            due.is("none and all", x.addedJoined(what, none, all, 4), all);
        }
    }

    private static void joinedNotBelowZero() {
        due.about("ADDING SUMS, \"PUT TOGETHER\", \"not below 0\"");
        Calls x = new Calls();
        due.is("a 0 and 0 less 1", x.addedJoined(0, 0, 0, 0), 65520);
        due.is("b once 0 less 1", x.addedJoined(0, 0, 0, 1), 65520L * 65536 + 65520);
        due.is("b 1 and once 0 less 1", x.addedJoined(0, 65536, 0, 1), 65520);
        due.is("b 65520 times 0 less 1", x.addedJoined(0, 0, 1, 65520), 65536);
        due.is("b 65521 times 0 less 1", x.addedJoined(0, 0, 1, 65521), 0);
        due.is("b 65522 times 0 less 1", x.addedJoined(0, 0, 1, 65522), 65520L * 65536);
        due.is("b 2^60 times 0 less 1", x.addedJoined(0, 0, 1, LONGEST),
                (65521 - 64590) * 65536);
        due.is("FLETCHER of 0 and 0", x.addedJoined(1, 0, 0, LONGEST), 0);
    }

    private static void joinedModulo() {
        due.about("ADDING SUMS, \"PUT TOGETHER\", \"modulo 65521, 255\"");
        Calls x = new Calls();
        due.is("ADLER's a 65520", x.addedJoined(0, 65520, 1, 0), 65520);
        due.is("ADLER's a 65521", x.addedJoined(0, 65520, 2, 0), 0);
        due.is("ADLER's a 65522", x.addedJoined(0, 65520, 3, 0), 1);
        due.is("ADLER's a 2 * 65520 - 1", x.addedJoined(0, 65520, 65520, 0), 65518);
        due.is("ADLER's b 65520", x.addedJoined(0, 65536L * 65519 + 1, 65536 + 1, 9), 65520L * 65536 + 1);
        due.is("ADLER's b 65521", x.addedJoined(0, 65536L * 65520 + 1, 65536 + 1, 9), 1);
        due.is("ADLER's b 65522", x.addedJoined(0, 65536L * 65520 + 1, 65536 * 2 + 1, 9), 65536 + 1);
        due.is("FLETCHER's a 254", x.addedJoined(1, 253, 1, 0), 254);
        due.is("FLETCHER's a 255", x.addedJoined(1, 254, 1, 0), 0);
        due.is("FLETCHER's a 256", x.addedJoined(1, 254, 2, 0), 1);
        due.is("FLETCHER's b 254", x.addedJoined(1, 256 * 253, 256, 9), 256 * 254);
        due.is("FLETCHER's b 255", x.addedJoined(1, 256 * 254, 256, 9), 0);
        due.is("FLETCHER's b of n times a", x.addedJoined(1, 254, 0, 254), 256 + 254);
        due.is("FLETCHER's n 255 counts as 0", x.addedJoined(1, 254, 0, 255), 254);
        due.is("ADLER's n 65521 counts as 0", x.addedJoined(0, 65520, 1, 65521), 65520);
    }

    private static void joinedWhat() {
        due.about("Promise 18, \"likewise\": ADLER (what = 0), FLETCHER (1), \"BAD\"");
        due.is("ADLER", new Calls().addedJoined(0, 2, 2, 1), 65536 + 3);
        due.is("FLETCHER", new Calls().addedJoined(1, 2, 2, 1), 2 * 256 + 4);
        for (int what : new int[] {-1, 2, -2, 3, 256, LEAST, MOST}) {
            refusals.bad("addedJoined(" + what + ", 1, 1, 1)", x -> x.addedJoined(what, 1, 1, 1));
        }
    }
}
