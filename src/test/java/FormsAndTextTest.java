/** Promises 1 to 7: a new object, form, forget, feed, cut, octet, count. */
public final class FormsAndTextTest {
    private static final Due due = new Due("FormsAndTextTest");

    public static void main(String[] args) {
        newObject();
        forget();
        feed();
        cut();
        octetAndCount();
        due.end();
    }

    private static void newObject() {
        Calls x = new Calls();
        due.is("new: count(0)", x.count(0), 0);
        due.is("new: count(1)", x.count(1), 0);
        due.is("new: octet(0)", x.octet(0), -1);
        due.is("new: forget()", x.forget(), 0);
        due.is("new: cut(0)", x.cut(0), 0);
        due.is("new: sum(0, 0, 0)", x.sum(0, 0, 0), -1);
        due.is("new: added(0, 0, 0)", x.added(0, 0, 0), 1);
        Calls y = new Calls();
        x.form(8, 7, 0, 0, false, false);
        x.feed(1, 1);
        due.is("another object: count(0)", y.count(0), 0);
        due.is("another object: count(1)", y.count(1), 0);
    }

    private static void forget() {
        Calls x = new Calls();
        x.feed(3, 0x010203);
        for (int round = 0; round < 5; round++) {
            for (int i = 0; i < 3 + round; i++) {
                due.is("form again", x.form(16, 4129, i + round, 0, false, false), i);
            }
            due.is("sum", x.sum(2, 0, 0), 2 + round);
            due.is("forget()", x.forget(), 3 + round);
            due.is("forget() again", x.forget(), 0);
            due.is("sum of a gone form", x.sum(0, 0, 0), -1);
            due.is("joined by a gone form", x.joined(0, 0, 0, 0), -1);
            due.is("zeros by a gone form", x.zeros(0, 0, 0), -1);
            due.is("changed by a gone form", x.changed(0, 0, 0, 0), -1);
            due.is("tail by a gone form", x.tail(0, 0, 0), -1);
            due.is("factors of a gone form", x.factors(0), -1);
            due.is("factor of a gone form", x.factor(0, 0, 0), -1);
            due.is("order of a gone form", x.order(0), -1);
            due.is("distance of a gone form", x.distance(0, 1), -1);
        }
        due.is("the text stays", x.count(1), 3);
        due.is("its octets stay", x.octet(2), 3);
    }

    private static void feed() {
        Calls x = new Calls();
        long v = 0xF1E2D3C4B5A69788L;
        int all = 0;
        for (int n = 1; n <= 8; n++) {
            all += n;
            due.is("feed(" + n + ")", x.feed(n, v), all);
            for (int i = 0; i < n; i++) {
                due.is("octet fed", x.octet(all - n + i), (int) (v >>> 8 * (n - 1 - i)) & 255);
            }
        }
        for (int n : new int[] {0, -1, 9, 10, 256, Integer.MIN_VALUE, Integer.MAX_VALUE}) {
            due.is("feed(" + n + ", ..)", x.feed(n, v), -1);
        }
        due.is("refusals change nothing", x.count(1), all);
        due.is("feed(1, -1)", x.feed(1, -1), all + 1);
        due.is("octet of -1", x.octet(all), 255);
    }

    private static void cut() {
        Calls x = new Calls();
        x.feed(8, 0x0102030405060708L);
        due.is("cut(9)", x.cut(9), -1);
        due.is("cut(-1)", x.cut(-1), -1);
        due.is("cut(least)", x.cut(Integer.MIN_VALUE), -1);
        due.is("cut(most)", x.cut(Integer.MAX_VALUE), -1);
        due.is("refusals change nothing", x.count(1), 8);
        due.is("cut(8)", x.cut(8), 0);
        due.is("cut(5)", x.cut(5), 3);
        due.is("count(1)", x.count(1), 5);
        due.is("octet(4)", x.octet(4), 5);
        due.is("octet(5)", x.octet(5), -1);
        due.is("cut(6)", x.cut(6), -1);
        due.is("feed behind", x.feed(1, 9), 6);
        due.is("octet(5) now", x.octet(5), 9);
        due.is("cut(0)", x.cut(0), 6);
        due.is("octet(0)", x.octet(0), -1);
    }

    private static void octetAndCount() {
        Calls x = new Calls();
        x.feed(2, 0xFF80);
        due.is("octet(0)", x.octet(0), 255);
        due.is("octet(1)", x.octet(1), 128);
        for (int i : new int[] {2, -1, 600, Integer.MIN_VALUE, Integer.MAX_VALUE}) {
            due.is("octet(" + i + ")", x.octet(i), -1);
        }
        x.form(3, 3, 0, 0, true, false);
        due.is("count(0)", x.count(0), 1);
        due.is("count(1)", x.count(1), 2);
        for (int what : new int[] {2, -1, Integer.MIN_VALUE, Integer.MAX_VALUE}) {
            due.is("count(" + what + ")", x.count(what), -1);
        }
    }
}
