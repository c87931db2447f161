import java.util.Random;

/** The boundary cases of promises 8 to 12 and of the terms of THE SUM: a method for each sentence. */
public final class EdgesOfSumsTest {
    private static final Due due = new Due("EdgesOfSumsTest");
    private static final Refusals refusals = new Refusals(due);
    private static final int LEAST = Integer.MIN_VALUE;
    private static final int MOST = Integer.MAX_VALUE;
    private static final long LONGEST = 1L << 60;
    /** Numbers of octets that are taken, those among them that are another number to an int. */
    private static final long[] LENGTHS = {0, 1, 2, 255, 256, (1L << 31) - 1, 1L << 31, 1L << 32,
        (1L << 32) + 1, 1L << 59, LONGEST - 1, LONGEST};
    private static final long[] NO_LENGTHS = {-1, LONGEST + 1, -LONGEST, 2 * LONGEST, 1L << 61,
        Long.MIN_VALUE, Long.MAX_VALUE};
    private static final int[] NO_FORMS = {-1, 8, 9, -8, 256, LEAST, MOST};

    /** A SumForms and a Plain with the same forms: one of each kind of IN and OUT. */
    private record Pair(int width, Calls x, Plain plain) {
        static Pair of(int width) {
            Random random = new Random(width);
            Pair pair = new Pair(width, new Calls(), new Plain());
            for (int i = 0; i < 4; i++) {
                long p = random.nextLong() & pair.most() | 1;
                long start = random.nextLong() & pair.most();
                long end = random.nextLong() & pair.most();
                pair.x.form(width, p, start, end, i % 2 == 1, i > 1);
                pair.plain.form(width, p, start, end, i % 2 == 1, i > 1);
            }
            return pair;
        }

        long most() {
            return (1L << width) - 1;
        }

        /** The least, the highest, and what a sign or a turned row might spoil. */
        long[] sums() {
            return new long[] {0, most(), 1, 1L << width - 1};
        }

        long[] noSums() {
            return new long[] {most() + 1, -1, most() + 2, -most() - 1, Long.MIN_VALUE, Long.MAX_VALUE};
        }
    }

    public static void main(String[] args) {
        sumOfNone();
        sumOfParts();
        sumOfAll();
        sumOfNoPart();
        sumOfNoForm();
        narrowAndWide();
        joinedSums();
        joinedLengths();
        joinedNone();
        joinedRefusals();
        zerosSums();
        zerosLengths();
        zerosRefusals();
        changedSums();
        changedLengths();
        changedMasks();
        changedRefusals();
        tailWidths();
        tailSums();
        tailRefusals();
        due.end();
    }

    private static void sumOfNone() {
        due.about("A FORM, \"A REGISTER of W bits is START at first.\", of no octets");
        for (int width = 3; width <= 32; width++) {
            Pair pair = Pair.of(width);
            due.is("width " + width + ": sum(0, 0, 0), an empty text", pair.x.sum(0, 0, 0),
                    pair.plain.sum(0, 0, 0));
            pair.x.feed(3, 0x81FF00);
            for (int i = 0; i < 4; i++) {
                for (int at = 0; at <= 3; at++) {
                    due.is("width " + width + ": sum(" + i + ", " + at + ", " + at + ")",
                            pair.x.sum(i, at, at), pair.plain.sum(i, 0, 0));
                }
            }
        }
        Calls x = new Calls();
        x.form(8, 7, 0x12, 0x34, false, false);
        x.form(8, 7, 0x12, 0x34, false, true);
        due.is("START and END", x.sum(0, 0, 0), 0x12 ^ 0x34);
        due.is("START turned, and END", x.sum(1, 0, 0), 0x48 ^ 0x34);
    }

    private static void sumOfParts() {
        due.about("Promise 8, \"octets from one on, before another one\", \"from is not 0 .. to, to not up to\"");
        Calls x = new Calls();
        Plain plain = new Plain();
        x.form(16, 0x1021, 0xFFFF, 0, false, false);
        plain.form(16, 0x1021, 0xFFFF, 0, false, false);
        x.feed(5, 0x31FF008037L);
        plain.feed(5, 0x31FF008037L);
        for (int from = -2; from <= 7; from++) {
            for (int to = -2; to <= 7; to++) {
                boolean taken = 0 <= from && from <= to && to <= 5;
                due.is("sum(0, " + from + ", " + to + ") of 5", x.sum(0, from, to),
                        taken ? plain.sum(0, from, to) : -1);
            }
        }
    }

    private static void sumOfAll() {
        due.about("Promise 8, \"to not up to how many there are\", of a full text");
        Calls x = new Calls();
        Plain plain = new Plain();
        x.form(32, 0x04C11DB7L, 0xFFFFFFFFL, 0xFFFFFFFFL, true, true);
        plain.form(32, 0x04C11DB7L, 0xFFFFFFFFL, 0xFFFFFFFFL, true, true);
        for (int i = 0; i < 75; i++) {
            x.feed(8, 0x8000FF0123456789L * (i + 1));
            plain.feed(8, 0x8000FF0123456789L * (i + 1));
        }
        int[][] parts = {{0, 600}, {0, 599}, {1, 600}, {599, 600}, {600, 600}, {0, 0}};
        for (int[] part : parts) {
            due.is("sum(0, " + part[0] + ", " + part[1] + ")", x.sum(0, part[0], part[1]),
                    plain.sum(0, part[0], part[1]));
        }
        due.is("sum(0, 0, 601)", x.sum(0, 0, 601), -1);
        due.is("sum(0, 601, 601)", x.sum(0, 601, 601), -1);
        due.is("sum(0, 600, 601)", x.sum(0, 600, 601), -1);
        due.is("sum(0, 600, 599)", x.sum(0, 600, 599), -1);
        x.cut(5);
        due.is("sum(0, 0, 5) behind cut(5)", x.sum(0, 0, 5), plain.sum(0, 0, 5));
        due.is("sum(0, 0, 6) behind cut(5)", x.sum(0, 0, 6), -1);
    }

    private static void sumOfNoPart() {
        due.about("Promise 8, \"BAD: from is not 0 .. to, to not up to how many there are.\"");
        for (Refusals.Setting setting : Refusals.Setting.values()) {
            int end = setting.octets;
            int[][] parts = {{-1, 0}, {-1, -1}, {-1, end}, {1, 0}, {end, end - 1}, {end + 1, end},
                {0, end + 1}, {end, end + 1}, {end + 1, end + 1}, {0, -1}, {LEAST, 0}, {LEAST, LEAST},
                {0, MOST}, {MOST, MOST}, {LEAST, MOST}, {MOST, LEAST}};
            for (int[] part : parts) {
                refusals.bad(setting, "sum(0, " + part[0] + ", " + part[1] + ")",
                        x -> x.sum(0, part[0], part[1]));
            }
        }
    }

    private static void sumOfNoForm() {
        due.about("Promise 8, \"by a FORM\", \"BAD\": there is no such form");
        for (Refusals.Setting setting : Refusals.Setting.values()) {
            Calls taken = Refusals.made(setting);
            for (int form = 0; form < setting.forms; form++) {
                due.holds(setting + ": sum(" + form + ", 0, 0)", taken.sum(form, 0, 0) >= 0);
            }
            refusals.bad(setting, "sum(" + setting.forms + ", 0, 0)", x -> x.sum(setting.forms, 0, 0));
        }
        for (int form : NO_FORMS) {
            refusals.bad("sum(" + form + ", 0, 0)", x -> x.sum(form, 0, 0));
        }
    }

    private static void narrowAndWide() {
        due.about("A FORM, \"the REGISTER is moved up by one (the highest bit goes, the lowest is 0)\"");
        for (int width = 3; width <= 32; width++) {
            Pair pair = Pair.of(width);
            long[] fed = {-1, 0, 0x8000000000000000L, 1, 0x0123456789ABCDEFL};
            for (long v : fed) {
                pair.x.feed(8, v);
                pair.plain.feed(8, v);
            }
            for (int i = 0; i < 4; i++) {
                for (int to = 1; to <= 40; to++) {
                    due.is("width " + width + ": sum(" + i + ", 0, " + to + ")", pair.x.sum(i, 0, to),
                            pair.plain.sum(i, 0, to));
                }
            }
        }
    }

    private static void joinedSums() {
        due.about("Promise 9, \"A with sum a, and B with sum b\": numbers of W bits, 0 to 2^W - 1");
        for (int width = 3; width <= 32; width++) {
            Pair pair = Pair.of(width);
            for (int i = 0; i < 4; i++) {
                for (long a : pair.sums()) {
                    for (long b : pair.sums()) {
                        due.is("width " + width + ": joined(" + i + ", " + a + ", " + b + ", 3)",
                                pair.x.joined(i, a, b, 3), pair.plain.joined(i, a, b, 3));
                    }
                }
            }
            for (long wrong : pair.noSums()) {
                due.is("width " + width + ": joined(0, " + wrong + ", 0, 0)", pair.x.joined(0, wrong, 0, 0), -1);
                due.is("width " + width + ": joined(0, 0, " + wrong + ", 0)", pair.x.joined(0, 0, wrong, 0), -1);
            }
        }
    }

    private static void joinedLengths() {
        due.about("Promise 9, \"n octets (0 to 2^60)\"");
        for (int width = 3; width <= 32; width++) {
            Pair pair = Pair.of(width);
            for (int i = 0; i < 4; i++) {
                for (long n : LENGTHS) {
                    due.is("width " + width + ": joined(" + i + ", 5, 3, " + n + ")",
                            pair.x.joined(i, 5, 3, n), pair.plain.joined(i, 5, 3, n));
                }
            }
            for (long n : NO_LENGTHS) {
                due.is("width " + width + ": joined(0, 5, 3, " + n + ")", pair.x.joined(0, 5, 3, n), -1);
            }
        }
    }

    private static void joinedNone() {
        due.about("\"If B has n octets, it is the SUM of A's octets and then B's.\", where one has none");
        for (int width = 3; width <= 32; width++) {
            Pair pair = Pair.of(width);
            pair.x.feed(4, 0xFF800137L);
            for (int i = 0; i < 4; i++) {
                long none = pair.x.sum(i, 0, 0);
                long all = pair.x.sum(i, 0, 4);
                due.is("width " + width + ": none and none", pair.x.joined(i, none, none, 0), none);
                due.is("width " + width + ": all and none", pair.x.joined(i, all, none, 0), all);
                due.is("width " + width + ": none and all", pair.x.joined(i, none, all, 4), all);
            }
        }
    }

    private static void joinedRefusals() {
        due.about("Promise 9, \"BAD\"");
        for (Refusals.Setting setting : Refusals.Setting.values()) {
            refusals.bad(setting, "joined by the form past the last", x -> x.joined(setting.forms, 0, 0, 0));
        }
        for (int form : NO_FORMS) {
            refusals.bad("joined(" + form + ", 0, 0, 0)", x -> x.joined(form, 0, 0, 0));
        }
        for (int form = 0; form < 3; form++) {
            int by = form;
            for (long wrong : new long[] {1L << Refusals.FORMS[form][0], -1, Long.MIN_VALUE}) {
                refusals.badWithForms("joined(" + by + ", " + wrong + ", 0, 1)", x -> x.joined(by, wrong, 0, 1));
                refusals.badWithForms("joined(" + by + ", 0, " + wrong + ", 1)", x -> x.joined(by, 0, wrong, 1));
            }
        }
        for (long n : NO_LENGTHS) {
            refusals.badWithForms("joined(0, 1, 2, " + n + ")", x -> x.joined(0, 1, 2, n));
        }
    }

    private static void zerosSums() {
        due.about("Promise 10, \"a row with a sum\": a number of W bits, 0 to 2^W - 1");
        for (int width = 3; width <= 32; width++) {
            Pair pair = Pair.of(width);
            for (int i = 0; i < 4; i++) {
                for (long sum : pair.sums()) {
                    due.is("width " + width + ": zeros(" + i + ", " + sum + ", 3)", pair.x.zeros(i, sum, 3),
                            pair.plain.zeros(i, sum, 3));
                }
            }
            for (long wrong : pair.noSums()) {
                due.is("width " + width + ": zeros(0, " + wrong + ", 0)", pair.x.zeros(0, wrong, 0), -1);
            }
        }
    }

    private static void zerosLengths() {
        due.about("Promise 10, \"n octets 0 (0 to 2^60)\"");
        for (int width = 3; width <= 32; width++) {
            Pair pair = Pair.of(width);
            for (int i = 0; i < 4; i++) {
                due.is("width " + width + ": none behind", pair.x.zeros(i, 5, 0), 5);
                for (long n : LENGTHS) {
                    due.is("width " + width + ": zeros(" + i + ", 5, " + n + ")", pair.x.zeros(i, 5, n),
                            pair.plain.zeros(i, 5, n));
                }
                long order = pair.x.order(i);
                due.is("width " + width + ": once around", pair.x.zeros(i, 5, order), 5);
                due.is("width " + width + ": around and one more", pair.x.zeros(i, 5, order + 1),
                        pair.plain.zeros(i, 5, 1));
            }
            for (long n : NO_LENGTHS) {
                due.is("width " + width + ": zeros(0, 5, " + n + ")", pair.x.zeros(0, 5, n), -1);
            }
        }
    }

    private static void zerosRefusals() {
        due.about("Promise 10, \"BAD\"");
        for (Refusals.Setting setting : Refusals.Setting.values()) {
            refusals.bad(setting, "zeros by the form past the last", x -> x.zeros(setting.forms, 0, 0));
        }
        for (int form : NO_FORMS) {
            refusals.bad("zeros(" + form + ", 0, 0)", x -> x.zeros(form, 0, 0));
        }
        for (int form = 0; form < 3; form++) {
            int by = form;
            for (long wrong : new long[] {1L << Refusals.FORMS[form][0], -1, Long.MIN_VALUE}) {
                refusals.badWithForms("zeros(" + by + ", " + wrong + ", 1)", x -> x.zeros(by, wrong, 1));
            }
        }
        for (long n : NO_LENGTHS) {
            refusals.badWithForms("zeros(0, 1, " + n + ")", x -> x.zeros(0, 1, n));
        }
    }

    private static void changedSums() {
        due.about("CHANGED, \"a SUM\": a number of W bits, 0 to 2^W - 1");
        for (int width = 3; width <= 32; width++) {
            Pair pair = Pair.of(width);
            for (int i = 0; i < 4; i++) {
                for (long sum : pair.sums()) {
                    due.is("width " + width + ": changed(" + i + ", " + sum + ", 3, 0x81)",
                            pair.x.changed(i, sum, 3, 0x81), pair.plain.changed(i, sum, 3, 0x81));
                }
            }
            for (long wrong : pair.noSums()) {
                due.is("width " + width + ": changed(0, " + wrong + ", 0, 0)",
                        pair.x.changed(0, wrong, 0, 0), -1);
            }
        }
    }

    private static void changedLengths() {
        due.about("Promise 11, \"n octets behind it (0 to 2^60)\"");
        for (int width = 3; width <= 32; width++) {
            Pair pair = Pair.of(width);
            for (int i = 0; i < 4; i++) {
                for (long n : LENGTHS) {
                    due.is("width " + width + ": changed(" + i + ", 5, " + n + ", 0x43)",
                            pair.x.changed(i, 5, n, 0x43), pair.plain.changed(i, 5, n, 0x43));
                }
            }
            for (long n : NO_LENGTHS) {
                due.is("width " + width + ": changed(0, 5, " + n + ", 1)", pair.x.changed(0, 5, n, 1), -1);
                due.is("width " + width + ": changed(0, 5, " + n + ", 0)", pair.x.changed(0, 5, n, 0), -1);
            }
        }
        firstAndLastOctetChanged();
    }

    private static void firstAndLastOctetChanged() {
        for (int i = 0; i < 4; i++) {
            Calls x = Pair.of(16).x;
            x.feed(3, 0x310000L);
            x.feed(3, 0xCE0000L);
            x.feed(3, 0x3100FFL);
            long sum = x.sum(i, 0, 3);
            due.is("the first octet, two behind it", x.changed(i, sum, 2, 255), x.sum(i, 3, 6));
            due.is("the last octet, none behind it", x.changed(i, sum, 0, 255), x.sum(i, 6, 9));
        }
    }

    private static void changedMasks() {
        due.about("Promise 11, \"mask 0 to 255\"");
        for (int width : new int[] {3, 8, 15, 32}) {
            for (int i = 0; i < 4; i++) {
                Pair pair = Pair.of(width);
                for (int mask = 0; mask <= 255; mask++) {
                    due.is("width " + width + ": changed(" + i + ", 5, 2, " + mask + ")",
                            pair.x.changed(i, 5, 2, mask), pair.plain.changed(i, 5, 2, mask));
                }
                due.is("width " + width + ": mask 0 changes nothing", pair.x.changed(i, 5, 9, 0), 5);
                for (int mask : new int[] {-1, 256, 257, -255, -256, 511, LEAST, MOST}) {
                    due.is("width " + width + ": changed(" + i + ", 5, 2, " + mask + ")",
                            pair.x.changed(i, 5, 2, mask), -1);
                }
            }
        }
    }

    private static void changedRefusals() {
        due.about("Promise 11, \"BAD\"");
        for (Refusals.Setting setting : Refusals.Setting.values()) {
            refusals.bad(setting, "changed by the form past the last", x -> x.changed(setting.forms, 0, 0, 0));
        }
        for (int form : NO_FORMS) {
            refusals.bad("changed(" + form + ", 0, 0, 0)", x -> x.changed(form, 0, 0, 0));
        }
        for (int form = 0; form < 3; form++) {
            int by = form;
            for (long wrong : new long[] {1L << Refusals.FORMS[form][0], -1, Long.MIN_VALUE}) {
                refusals.badWithForms("changed(" + by + ", " + wrong + ", 1, 1)",
                        x -> x.changed(by, wrong, 1, 1));
            }
        }
        for (long n : NO_LENGTHS) {
            refusals.badWithForms("changed(0, 1, " + n + ", 1)", x -> x.changed(0, 1, n, 1));
        }
        for (int mask : new int[] {-1, 256, LEAST, MOST}) {
            refusals.badWithForms("changed(0, 1, 1, " + mask + ")", x -> x.changed(0, 1, 1, mask));
        }
    }

    private static void tailWidths() {
        due.about("Promise 12, \"BAD: also, W is none of the four.\" (8, 16, 24, 32)");
        for (int width = 3; width <= 32; width++) {
            Pair pair = Pair.of(width);
            for (int i = 0; i < 4; i++) {
                boolean four = width == 8 || width == 16 || width == 24 || width == 32;
                due.is("width " + width + ": tail(" + i + ", 1, 6)", pair.x.tail(i, 1, 6),
                        four ? pair.plain.tail(i, 1, 6) : -1);
            }
        }
        for (int form = 4; form < 8; form++) {
            int by = form;
            refusals.bad(Refusals.Setting.FULL, "tail of width " + Refusals.FORMS[form][0],
                    x -> x.tail(by, 1, 2));
        }
    }

    private static void tailSums() {
        due.about("THE TAIL, \"the octets, W / 8 of them\", \"as a number, the first octet highest\"");
        for (int width = 8; width <= 32; width += 8) {
            for (int i = 0; i < 4; i++) {
                Pair pair = Pair.of(width);
                Calls x = pair.x;
                x.feed(2, 0x37F1);
                for (long wanted : pair.sums()) {
                    for (long sum : pair.sums()) {
                        due.is("width " + width + ": tail(" + i + ", " + sum + ", " + wanted + ")",
                                x.tail(i, sum, wanted), pair.plain.tail(i, sum, wanted));
                    }
                    leads(x, i, width, wanted);
                }
                leads(x, i, width, x.sum(i, 0, 2));
                for (long wrong : pair.noSums()) {
                    due.is("width " + width + ": tail(" + i + ", " + wrong + ", 0)", x.tail(i, wrong, 0), -1);
                    due.is("width " + width + ": tail(" + i + ", 0, " + wrong + ")", x.tail(i, 0, wrong), -1);
                }
            }
        }
    }

    /** The tail, fed, makes the sum of the text's two octets and it what is wanted. */
    private static void leads(Calls x, int form, int width, long wanted) {
        long tail = x.tail(form, x.sum(form, 0, 2), wanted);
        due.holds("width " + width + ": the tail " + tail + " has W bits", tail >= 0 && tail < 1L << width);
        x.feed(width / 8, tail);
        due.is("width " + width + ": the sum with the tail", x.sum(form, 0, 2 + width / 8), wanted);
        x.cut(2);
    }

    private static void tailRefusals() {
        due.about("Promise 12, \"BAD\"");
        for (Refusals.Setting setting : Refusals.Setting.values()) {
            refusals.bad(setting, "tail by the form past the last", x -> x.tail(setting.forms, 0, 0));
        }
        for (int form : NO_FORMS) {
            refusals.bad("tail(" + form + ", 0, 0)", x -> x.tail(form, 0, 0));
        }
        for (int form = 0; form < 3; form++) {
            int by = form;
            for (long wrong : new long[] {1L << Refusals.FORMS[form][0], -1, Long.MIN_VALUE}) {
                refusals.badWithForms("tail(" + by + ", " + wrong + ", 0)", x -> x.tail(by, wrong, 0));
                refusals.badWithForms("tail(" + by + ", 0, " + wrong + ")", x -> x.tail(by, 0, wrong));
            }
        }
    }
}
