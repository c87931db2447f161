import java.util.Random;

/** Octets for a text, the same in every run of the tests. */
final class Octets {
    private Octets() {
    }

    static byte[] feed(Calls x, Random random, int n) {
        byte[] octets = new byte[n];
        random.nextBytes(octets);
        for (int i = 0; i < n; i += 8) {
            int many = Math.min(8, n - i);
            long v = 0;
            for (int k = 0; k < many; k++) {
                v = v << 8 | octets[i + k] & 255;
            }
            x.feed(many, v);
        }
        return octets;
    }
}
