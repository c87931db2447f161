import java.util.Random;
import java.util.zip.CRC32;
import java.util.zip.CRC32C;

/** Promises 8 to 12: sum, joined, zeros, changed, tail. */
public final class SumsTest {
    private static final Due due = new Due("SumsTest");
    private static final long MOST = 1L << 60;
    private static final Random random = new Random(8);

    public static void main(String[] args) {
        wellKnownForms();
        librarySums();
        partsOfSum();
        joined();
        zeros();
        changed();
        tail();
        due.end();
    }

    /** Sums of the octets "123456789" as they are published. */
    private static void wellKnownForms() {
        published(3, 0x3, 0, 0x7, false, false, 0x4);
        published(4, 0x3, 0, 0, true, true, 0x7);
        published(5, 0x05, 0x1F, 0x1F, true, true, 0x19);
        published(6, 0x19, 0, 0, true, true, 0x26);
        published(7, 0x09, 0, 0, false, false, 0x75);
        published(8, 0x07, 0, 0, false, false, 0xF4);
        published(8, 0x39, 0, 0, true, true, 0x15);
        published(10, 0x233, 0, 0, false, false, 0x199);
        published(12, 0x80F, 0, 0, false, true, 0xDAF);
        published(15, 0x4599, 0, 0, false, false, 0x059E);
        published(16, 0x8005, 0, 0, true, true, 0xBB3D);
        published(16, 0x1021, 0, 0, false, false, 0x31C3);
        published(16, 0x1021, 0xFFFF, 0, false, false, 0x29B1);
        published(16, 0x1021, 0, 0, true, true, 0x2189);
        published(16, 0x8005, 0xFFFF, 0, true, true, 0x4B37);
        published(24, 0x864CFB, 0xB704CE, 0, false, false, 0x21CF02);
        published(31, 0x04C11DB7, 0x7FFFFFFF, 0x7FFFFFFF, false, false, 0x0CE9E46C);
        published(32, 0x04C11DB7, 0xFFFFFFFFL, 0xFFFFFFFFL, true, true, 0xCBF43926L);
        published(32, 0x04C11DB7, 0xFFFFFFFFL, 0xFFFFFFFFL, false, false, 0xFC891918L);
        published(32, 0x04C11DB7, 0xFFFFFFFFL, 0, false, false, 0x0376E6E7L);
        published(32, 0x1EDC6F41, 0xFFFFFFFFL, 0xFFFFFFFFL, true, true, 0xE3069283L);
    }

    private static void published(int width, long polynomial, long start, long end, boolean in, boolean out,
            long want) {
        Calls x = new Calls();
        x.form(width, polynomial, start, end, in, out);
        x.feed(8, 0x3132333435363738L);
        x.feed(1, 0x39);
        due.is("sum of width " + width + ", polynomial " + polynomial, x.sum(0, 0, 9), want);
    }

    private static void librarySums() {
        Calls x = new Calls();
        x.form(32, 0x04C11DB7, 0xFFFFFFFFL, 0xFFFFFFFFL, true, true);
        x.form(32, 0x1EDC6F41, 0xFFFFFFFFL, 0xFFFFFFFFL, true, true);
        byte[] octets = Octets.feed(x, random, 600);
        for (int k = 0; k < 100; k++) {
            int from = k == 0 ? 0 : random.nextInt(601);
            int to = k == 0 ? 600 : from + random.nextInt(601 - from);
            CRC32 crc = new CRC32();
            crc.update(octets, from, to - from);
            due.is("sum(0, " + from + ", " + to + ")", x.sum(0, from, to), crc.getValue());
            CRC32C other = new CRC32C();
            other.update(octets, from, to - from);
            due.is("sum(1, " + from + ", " + to + ")", x.sum(1, from, to), other.getValue());
        }
    }

    private static void partsOfSum() {
        Calls x = new Calls();
        x.form(8, 7, 0x12, 0x34, false, false);
        x.form(8, 7, 0x12, 0x34, false, true);
        Octets.feed(x, random, 9);
        for (int i = 0; i <= 9; i++) {
            due.is("sum of none", x.sum(0, i, i), 0x12 ^ 0x34);
            due.is("sum of none, turned", x.sum(1, i, i), 0x48 ^ 0x34);
        }
        due.is("sum(0, 9, 10)", x.sum(0, 9, 10), -1);
        due.is("sum(0, 10, 10)", x.sum(0, 10, 10), -1);
        due.is("sum(0, 5, 4)", x.sum(0, 5, 4), -1);
        due.is("sum(0, -1, 4)", x.sum(0, -1, 4), -1);
        due.is("sum(0, -1, -1)", x.sum(0, -1, -1), -1);
        due.is("sum(0, least, 0)", x.sum(0, Integer.MIN_VALUE, 0), -1);
        due.is("sum(0, 0, most)", x.sum(0, 0, Integer.MAX_VALUE), -1);
        due.is("sum(0, most, least)", x.sum(0, Integer.MAX_VALUE, Integer.MIN_VALUE), -1);
        due.is("sum(2, 0, 1)", x.sum(2, 0, 1), -1);
        due.is("sum(-1, 0, 1)", x.sum(-1, 0, 1), -1);
        due.is("sum(8, 0, 1)", x.sum(8, 0, 1), -1);
        x.cut(4);
        due.is("sum of octets that went", x.sum(0, 0, 5), -1);
    }

    private static void anyForm(Calls x, int width) {
        long bits = (1L << width) - 1;
        x.form(width, random.nextLong() & bits | 1, random.nextLong() & bits, random.nextLong() & bits,
                random.nextBoolean(), random.nextBoolean());
    }

    private static void joined() {
        for (int width = 3; width <= 32; width++) {
            Calls x = new Calls();
            anyForm(x, width);
            Octets.feed(x, random, 60);
            for (int middle = 0; middle <= 60; middle++) {
                due.is("joined at " + middle + ", width " + width,
                        x.joined(0, x.sum(0, 0, middle), x.sum(0, middle, 60), 60 - middle), x.sum(0, 0, 60));
            }
        }
    }

    private static void zeros() {
        for (int width = 3; width <= 32; width++) {
            Calls x = new Calls();
            anyForm(x, width);
            Octets.feed(x, random, 10);
            long sum = x.sum(0, 0, 10);
            for (int n = 0; n <= 30; n++) {
                due.is("zeros " + n + ", width " + width, x.zeros(0, sum, n), x.sum(0, 0, 10 + n));
                x.feed(1, 0);
            }
            long far = x.zeros(0, x.zeros(0, sum, MOST / 2 - 3), MOST / 2 + 3);
            due.is("zeros 2^60 are two times 2^59, width " + width, x.zeros(0, sum, MOST), far);
            long around = x.order(0);
            due.is("zeros as the order, width " + width, x.zeros(0, sum, around), sum);
        }
    }

    private static void changed() {
        for (int width = 3; width <= 32; width++) {
            for (int i = 0; i < 20; i++) {
                int mask = i == 0 ? 255 : i == 1 ? 1 : random.nextInt(256);
                Calls x = new Calls();
                anyForm(x, width);
                Octets.feed(x, random, 20);
                long sum = x.sum(0, 0, 20);
                due.is("changed by none", x.changed(0, sum, 19 - i, 0), sum);
                long changed = x.changed(0, sum, 19 - i, mask);
                due.is("changed back", x.changed(0, changed, 19 - i, mask), sum);
                changeOctet(x, i, mask);
                due.is("changed octet " + i + " by " + mask + ", width " + width, changed, x.sum(0, 0, 20));
            }
        }
    }

    private static void changeOctet(Calls x, int i, int mask) {
        int[] behind = new int[20];
        for (int k = i; k < 20; k++) {
            behind[k] = x.octet(k);
        }
        behind[i] ^= mask;
        x.cut(i);
        for (int k = i; k < 20; k++) {
            x.feed(1, behind[k]);
        }
    }

    private static void tail() {
        for (int width = 3; width <= 32; width++) {
            for (int round = 0; round < 20; round++) {
                Calls x = new Calls();
                anyForm(x, width);
                Octets.feed(x, random, 5);
                long bits = (1L << width) - 1;
                long wanted = round == 0 ? 0 : round == 1 ? bits : random.nextLong() & bits;
                long tail = x.tail(0, x.sum(0, 0, 5), wanted);
                if (width % 8 != 0) {
                    due.is("tail of width " + width, tail, -1);
                    continue;
                }
                due.holds("tail has " + width + " bits: " + tail, tail >= 0 && tail <= bits);
                x.feed(width / 8, tail);
                due.is("sum with the tail, width " + width, x.sum(0, 0, 5 + width / 8), wanted);
            }
        }
    }
}
