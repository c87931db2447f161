/** The boundary cases of promises 4 to 7 and of the terms of THE TEXT: a method for each sentence. */
public final class EdgesOfTextTest {
    private static final Due due = new Due("EdgesOfTextTest");
    private static final Refusals refusals = new Refusals(due);
    private static final int LEAST = Integer.MIN_VALUE;
    private static final int MOST = Integer.MAX_VALUE;

    public static void main(String[] args) {
        fedNumbers();
        fedOctets();
        upToSixHundred();
        fullText();
        badBeforeFull();
        cutEmpty();
        cutSome();
        cutFull();
        cutRefusals();
        cutLeavesTheForms();
        octetsOfNone();
        octetsOfSome();
        octetsOfAll();
        octetRefusals();
        countForms();
        countOctets();
        countRefusals();
        due.end();
    }

    private static void fedNumbers() {
        due.about("Promise 4, \"The n lowest octets (1 to 8)\"");
        for (int n = 1; n <= 8; n++) {
            due.is("feed(" + n + ", 0)", new Calls().feed(n, 0), n);
        }
        for (int n : new int[] {0, 9, -1, -8, 10, 16, 256, 257, LEAST, LEAST + 1, MOST}) {
            refusals.bad("feed(" + n + ", 1)", x -> x.feed(n, 1));
        }
    }

    private static void fedOctets() {
        due.about("Promise 4, \"the highest of them first\"");
        for (long v : new long[] {0x0102030405060708L, 0xFFFEFDFCFBFAF9F8L, 0x80FF7F0080FF7F00L, 0, -1,
                Long.MIN_VALUE, Long.MAX_VALUE, 0xFF, 0x100, 0x80000000L}) {
            for (int n = 1; n <= 8; n++) {
                Calls x = new Calls();
                x.feed(1, 0x5A);
                due.is("feed(" + n + ", " + v + ")", x.feed(n, v), 1 + n);
                due.is("the octet before", x.octet(0), 0x5A);
                for (int i = 0; i < n; i++) {
                    due.is("octet(" + (1 + i) + ") of feed(" + n + ", " + v + ")", x.octet(1 + i),
                            (v >> 8 * (n - 1 - i)) & 255);
                }
                due.is("the octet behind", x.octet(1 + n), -1);
            }
        }
    }

    /** A text of so many octets, none of them 0x77. */
    private static Calls ofLength(int octets) {
        Calls x = new Calls();
        int left = octets;
        while (left > 0) {
            int n = Math.min(8, left);
            x.feed(n, 0x0102030405060708L);
            left -= n;
        }
        return x;
    }

    private static void upToSixHundred() {
        due.about("THE TEXT, \"600 at most\"");
        for (int n = 1; n <= 8; n++) {
            Calls x = ofLength(600 - n);
            due.is("feed(" + n + ") to 600", x.feed(n, 0x7700000000000077L | 0x77L << 8 * (n - 1)), 600);
            due.is("count(1)", x.count(1), 600);
            due.is("the first of the last", x.octet(600 - n), 0x77);
            due.is("the last", x.octet(599), 0x77);
            due.is("one before", x.octet(599 - n), ofLength(600 - n).octet(599 - n));
            due.is("one behind", x.octet(600), -1);
            due.is("one more", x.feed(1, 0), -2);
        }
    }

    private static void fullText() {
        due.about("Promise 4, \"FULL: more than 600.\"");
        for (int n = 1; n <= 8; n++) {
            for (int past = 1; past <= n; past++) {
                Calls x = ofLength(600 - n + past);
                long adler = x.added(0, 0, 600 - n + past);
                due.is("feed(" + n + ") to " + (600 + past), x.feed(n, -1), -2);
                due.is("count(1)", x.count(1), 600 - n + past);
                due.is("the octets are as they were", x.added(0, 0, 600 - n + past), adler);
                due.is("none is behind", x.octet(600 - n + past), -1);
            }
        }
        for (int n = 1; n <= 8; n++) {
            int many = n;
            refusals.full(Refusals.Setting.FULL, "feed(" + n + ", -1)", x -> x.feed(many, -1));
            if (n > 1) {
                refusals.full(Refusals.Setting.NEARLY, "feed(" + n + ", -1)", x -> x.feed(many, -1));
            }
        }
        Calls x = Refusals.made(Refusals.Setting.FULL);
        x.cut(599);
        due.is("there is room again", x.feed(1, 0x44), 600);
        due.is("its octet", x.octet(599), 0x44);
    }

    private static void badBeforeFull() {
        due.about("REFUSALS, \"of several the first in this order: BAD .., FULL\", of feed");
        for (int n : new int[] {0, 9, -1, 601, LEAST, MOST}) {
            refusals.bad(Refusals.Setting.FULL, "feed(" + n + ", 1)", x -> x.feed(n, 1));
            refusals.bad(Refusals.Setting.NEARLY, "feed(" + n + ", 1)", x -> x.feed(n, 1));
        }
    }

    private static void cutEmpty() {
        due.about("Promise 5, \"keeps its first n octets\", of an empty text");
        Calls x = new Calls();
        due.is("cut(0)", x.cut(0), 0);
        due.is("count(1)", x.count(1), 0);
        refusals.bad(Refusals.Setting.NEW, "cut(1)", y -> y.cut(1));
        due.is("feed behind", x.feed(1, 7), 1);
    }

    private static void cutSome() {
        due.about("Promise 5, \"THE TEXT keeps its first n octets: how many went.\"");
        for (int n = 0; n <= 8; n++) {
            Calls x = new Calls();
            x.feed(8, 0xF1F2F3F4F5F6F7F8L);
            due.is("cut(" + n + ")", x.cut(n), 8 - n);
            due.is("count(1)", x.count(1), n);
            for (int i = 0; i <= 8; i++) {
                due.is("octet(" + i + ") behind cut(" + n + ")", x.octet(i), i < n ? 0xF1 + i : -1);
            }
            due.is("cut(" + n + ") again", x.cut(n), 0);
            due.is("cut(" + (n + 1) + ")", x.cut(n + 1), -1);
            due.is("feed behind", x.feed(1, 0x99), n + 1);
            due.is("its octet", x.octet(n), 0x99);
        }
    }

    private static void cutFull() {
        due.about("Promise 5, \"keeps its first n octets\", of a full text");
        Calls x = Refusals.made(Refusals.Setting.FULL);
        due.is("cut(600)", x.cut(600), 0);
        due.is("count(1)", x.count(1), 600);
        due.is("cut(599)", x.cut(599), 1);
        due.is("cut(600) now", x.cut(600), -1);
        due.is("cut(1)", x.cut(1), 598);
        due.is("cut(0)", x.cut(0), 1);
        due.is("count(1)", x.count(1), 0);
        due.is("feed", x.feed(8, 1), 8);
        due.is("all of 600 at once", Refusals.made(Refusals.Setting.FULL).cut(0), 600);
    }

    private static void cutRefusals() {
        due.about("Promise 5, \"BAD\": there are no such octets");
        for (Refusals.Setting setting : Refusals.Setting.values()) {
            for (int n : new int[] {-1, setting.octets + 1, -2, 601, LEAST, MOST}) {
                refusals.bad(setting, "cut(" + n + ")", x -> x.cut(n));
            }
        }
    }

    private static void cutLeavesTheForms() {
        due.about("Promise 5, \"THE TEXT keeps its first n octets\", and the forms stay");
        Calls x = Refusals.made(Refusals.Setting.FULL);
        x.cut(0);
        due.is("count(0)", x.count(0), 8);
        due.is("sum of none by form 0", x.sum(0, 0, 0), 0x12 ^ 0x34);
        due.is("order of form 0", x.order(0), 127);
    }

    private static void octetsOfNone() {
        due.about("Promise 6, \"Octet i of THE TEXT.\", of an empty text");
        refusals.bad(Refusals.Setting.NEW, "octet(0)", x -> x.octet(0));
    }

    private static void octetsOfSome() {
        due.about("Promise 6, \"Octet i of THE TEXT.\", 0 to 255");
        Calls x = new Calls();
        for (int octet = 0; octet < 256; octet++) {
            x.feed(1, octet);
        }
        for (int i = 0; i < 255; i++) {
            due.is("octet(" + i + ")", x.octet(i), i);
        }
        Calls y = new Calls();
        y.feed(1, 255);
        due.is("octet(0), 255", y.octet(0), 255);
        due.is("octet(1) of one", y.octet(1), -1);
    }

    private static void octetsOfAll() {
        due.about("Promise 6, \"Octet i of THE TEXT.\", of a full text");
        Calls x = ofLength(592);
        x.feed(8, 0xA1A2A3A4A5A6A7A8L);
        due.is("octet(0)", x.octet(0), 1);
        due.is("octet(591)", x.octet(591), 8);
        due.is("octet(592)", x.octet(592), 0xA1);
        due.is("octet(599)", x.octet(599), 0xA8);
        due.is("octet(600)", x.octet(600), -1);
    }

    private static void octetRefusals() {
        due.about("Promise 6, \"BAD\": there is no such octet");
        for (Refusals.Setting setting : Refusals.Setting.values()) {
            for (int i : new int[] {-1, setting.octets, setting.octets + 1, 600, 601, LEAST, MOST}) {
                refusals.bad(setting, "octet(" + i + ")", x -> x.octet(i));
            }
        }
    }

    private static void countForms() {
        due.about("Promise 7, \"FORMS (what = 0)\"");
        for (Refusals.Setting setting : Refusals.Setting.values()) {
            due.is(setting + ": count(0)", Refusals.made(setting).count(0), setting.forms);
        }
    }

    private static void countOctets() {
        due.about("Promise 7, \"octets of THE TEXT (1)\"");
        for (Refusals.Setting setting : Refusals.Setting.values()) {
            due.is(setting + ": count(1)", Refusals.made(setting).count(1), setting.octets);
        }
    }

    private static void countRefusals() {
        due.about("Promise 7, \"BAD\": what is neither 0 nor 1");
        for (int what : new int[] {-1, 2, -2, 3, 256, LEAST, MOST}) {
            refusals.bad("count(" + what + ")", x -> x.count(what));
        }
    }
}
