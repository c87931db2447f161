import java.util.Random;

/** Octets for a text, the same in every run of the tests. */
final class Octets {
    private Octets() {
    }

    static byte[] feed(SumForms x, Random random, int n) {
        byte[] octets = new byte[n];
        random.nextBytes(octets);
        for (byte octet : octets) {
            x.feed(1, octet);
        }
        return octets;
    }
}
