/** A SumForms that is asked for no more calls than those whose answers the document promises. */
final class Calls {
    private static final int MOST = 512;

    private final SumForms x = new SumForms();
    private int made = 0;

    /** How many calls may still be made. */
    int left() {
        return MOST - made;
    }

    private SumForms counted() {
        made++;
        if (made > MOST) {
            throw new IllegalStateException("a test asks one object for more than " + MOST + " calls");
        }
        return x;
    }

    int form(int width, long polynomial, long start, long end, boolean in, boolean out) {
        return counted().form(width, polynomial, start, end, in, out);
    }

    int forget() {
        return counted().forget();
    }

    int feed(int n, long v) {
        return counted().feed(n, v);
    }

    int cut(int n) {
        return counted().cut(n);
    }

    int octet(int i) {
        return counted().octet(i);
    }

    int count(int what) {
        return counted().count(what);
    }

    long sum(int form, int from, int to) {
        return counted().sum(form, from, to);
    }

    long joined(int form, long a, long b, long n) {
        return counted().joined(form, a, b, n);
    }

    long zeros(int form, long sum, long n) {
        return counted().zeros(form, sum, n);
    }

    long changed(int form, long sum, long n, int mask) {
        return counted().changed(form, sum, n, mask);
    }

    long tail(int form, long sum, long wanted) {
        return counted().tail(form, sum, wanted);
    }

    int factors(int form) {
        return counted().factors(form);
    }

    long factor(int form, int i, int what) {
        return counted().factor(form, i, what);
    }

    long order(int form) {
        return counted().order(form);
    }

    int distance(int form, int n) {
        return counted().distance(form, n);
    }

    long added(int what, int from, int to) {
        return counted().added(what, from, to);
    }

    long addedJoined(int what, long a, long b, long n) {
        return counted().addedJoined(what, a, b, n);
    }
}
