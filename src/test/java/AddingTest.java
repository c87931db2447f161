import java.util.Random;
import java.util.zip.Adler32;

/** Promises 17 and 18: added, addedJoined. */
public final class AddingTest {
    private static final Due due = new Due("AddingTest");
    private static final long MOST = 1L << 60;
    private static final Random random = new Random(17);

    public static void main(String[] args) {
        published();
        parts();
        highestOctets();
        joined();
        joinedEdges();
        due.end();
    }

    private static void published() {
        Calls x = new Calls();
        x.feed(5, 0x6162636465L);
        due.is("FLETCHER of abcde", x.added(1, 0, 5), 0xC8F0);
        x.cut(0);
        x.feed(6, 0x616263646566L);
        due.is("FLETCHER of abcdef", x.added(1, 0, 6), 0x2057);
        x.feed(2, 0x6768);
        due.is("FLETCHER of abcdefgh", x.added(1, 0, 8), 0x0627);
        x.cut(0);
        x.feed(8, 0x57696B6970656469L);
        x.feed(1, 0x61);
        due.is("ADLER of Wikipedia", x.added(0, 0, 9), 0x11E60398);
    }

    private static long fletcher(byte[] octets, int from, int to) {
        int a = 0;
        int b = 0;
        for (int i = from; i < to; i++) {
            a = (a + (octets[i] & 255)) % 255;
            b = (b + a) % 255;
        }
        return 256 * b + a;
    }

    private static void parts() {
        Calls x = new Calls();
        byte[] octets = Octets.feed(x, random, 500);
        for (int k = 0; k < 100; k++) {
            int from = k == 0 ? 0 : random.nextInt(501);
            int to = k == 0 ? 500 : from + random.nextInt(501 - from);
            Adler32 adler = new Adler32();
            adler.update(octets, from, to - from);
            due.is("added(0, " + from + ", " + to + ")", x.added(0, from, to), adler.getValue());
            due.is("added(1, " + from + ", " + to + ")", x.added(1, from, to), fletcher(octets, from, to));
            due.is("ADLER of none", x.added(0, from, from), 1);
            due.is("FLETCHER of none", x.added(1, from, from), 0);
        }
    }

    private static void highestOctets() {
        Calls x = new Calls();
        for (int i = 0; i < 75; i++) {
            x.feed(8, -1);
        }
        due.is("FLETCHER of 600 octets 255", x.added(1, 0, 600), 0);
        byte[] octets = new byte[600];
        java.util.Arrays.fill(octets, (byte) -1);
        Adler32 adler = new Adler32();
        adler.update(octets);
        due.is("ADLER of 600 octets 255", x.added(0, 0, 600), adler.getValue());
    }

    private static void joined() {
        for (int what = 0; what < 2; what++) {
            Calls x = new Calls();
            Octets.feed(x, random, 400);
            for (int middle = 0; middle <= 400; middle += 4) {
                due.is("addedJoined(" + what + ", ..) at " + middle, x.addedJoined(what,
                        x.added(what, 0, middle), x.added(what, middle, 400), 400 - middle),
                        x.added(what, 0, 400));
            }
        }
    }

    private static void joinedEdges() {
        Plain plain = new Plain();
        long[] lengths = {0, 1, 254, 255, 256, 65520, 65521, 65522, MOST - 1, MOST};
        for (int what = 0; what < 2; what++) {
            long half = what == 0 ? 65536 : 256;
            long top = what == 0 ? 65520 : 254;
            long[] sums = {0, 1, 2, top, half, half + 1, half * top, half * top + top, half * top + 1};
            for (long n : lengths) {
                Calls x = new Calls();
                for (long a : sums) {
                    for (long b : sums) {
                        due.is("addedJoined(" + what + ", " + a + ", " + b + ", " + n + ")",
                                x.addedJoined(what, a, b, n), plain.addedJoined(what, a, b, n));
                    }
                }
            }
        }
    }
}
