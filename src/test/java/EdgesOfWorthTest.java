/** The boundary cases of promises 13 to 16 and of the terms of G: a method for each sentence. */
public final class EdgesOfWorthTest {
    private static final Due due = new Due("EdgesOfWorthTest");
    private static final Refusals refusals = new Refusals(due);
    private static final int LEAST = Integer.MIN_VALUE;
    private static final int MOST = Integer.MAX_VALUE;
    private static final int[] NO_FORMS = {-1, 8, 9, -8, 256, LEAST, MOST};

    public static void main(String[] args) {
        highestPower();
        oneFactor();
        mostFactors();
        factorsOfNoForm();
        factorNumbers();
        howOften();
        risingNumbers();
        factorOfNone();
        factorWhat();
        leastOrders();
        greatestOrders();
        doubledOrders();
        orderOfNoForm();
        distanceNumbers();
        distanceOfNone();
        distanceOfG();
        distanceTwo();
        distanceThreeAndFour();
        distanceAboveFour();
        distanceAtTwoHundred();
        distanceOfNoForm();
        eachFormItsOwn();
        due.end();
    }

    /** A form with G, its highest power included. */
    private static Calls of(long g) {
        int width = 63 - Long.numberOfLeadingZeros(g);
        Calls x = new Calls();
        due.is("form of G " + g, x.form(width, g ^ 1L << width, 0, 0, false, false), 0);
        return x;
    }

    private static long times(long... factors) {
        long all = 1;
        for (long by : factors) {
            long product = 0;
            for (int bit = 0; bit < 33; bit++) {
                product ^= (by >>> bit & 1) * (all << bit);
            }
            all = product;
        }
        return all;
    }

    private static void highestPower() {
        due.about("G, \"with the highest power x^W\"");
        // No products of two: each is its own one factor, with its highest power.
        for (long g : new long[] {11, 13, 0x11B, 0x1002D, 0x80000009L, 0x104C11DB7L}) {
            Calls x = of(g);
            due.is("factors of " + g, x.factors(0), 1);
            due.is("factor 0 of " + g, x.factor(0, 0, 0), g);
            due.is("how often", x.factor(0, 0, 1), 1);
        }
    }

    private static void oneFactor() {
        due.about("Promise 13, \"How many unlike FACTORS G has.\", one, however often");
        for (int width = 4; width <= 32; width *= 2) {
            Calls x = of(1L << width | 1);
            due.is("factors of (x + 1)^" + width, x.factors(0), 1);
            due.is("factor 0", x.factor(0, 0, 0), 3);
            due.is("how often", x.factor(0, 0, 1), width);
        }
    }

    private static void mostFactors() {
        due.about("Promise 13, \"How many unlike FACTORS G has.\", the most that 32 bits hold");
        long[] nine = {3, 7, 11, 13, 19, 25, 31, 37, 41};
        Calls x = of(times(nine));
        due.is("factors", x.factors(0), 9);
        for (int i = 0; i < 9; i++) {
            due.is("factor " + i, x.factor(0, i, 0), nine[i]);
            due.is("factor " + i + ", how often", x.factor(0, i, 1), 1);
        }
        due.is("factor 9", x.factor(0, 9, 0), -1);
        due.is("factor 9, how often", x.factor(0, 9, 1), -1);
        due.is("order", x.order(0), 3 * 7 * 5 * 31);
        Calls y = of(times(3, 3, 7, 11, 13, 19, 25, 31, 37, 41));
        due.is("factors, x + 1 two times", y.factors(0), 9);
        due.is("factor 0, how often", y.factor(0, 0, 1), 2);
        due.is("factor 8", y.factor(0, 8, 0), 41);
    }

    private static void factorsOfNoForm() {
        due.about("Promise 13, \"BAD\": there is no such form");
        for (Refusals.Setting setting : Refusals.Setting.values()) {
            for (int form = 0; form < setting.forms; form++) {
                due.holds(setting + ": factors(" + form + ")", Refusals.made(setting).factors(form) > 0);
            }
            refusals.bad(setting, "factors of the form past the last", x -> x.factors(setting.forms));
        }
        for (int form : NO_FORMS) {
            refusals.bad("factors(" + form + ")", x -> x.factors(form));
        }
    }

    private static void factorNumbers() {
        due.about("Promise 14, \"FACTOR i (from 0 on)\"");
        // x^16 + x^12 + x^5 + 1 has two, x + 1 and another one.
        Calls x = of(0x11021);
        due.is("factors(0)", x.factors(0), 2);
        due.is("factor(0, 0, 0)", x.factor(0, 0, 0), 3);
        due.is("factor(0, 1, 0)", x.factor(0, 1, 0), 61471);
        due.is("factor(0, 0, 1)", x.factor(0, 0, 1), 1);
        due.is("factor(0, 1, 1)", x.factor(0, 1, 1), 1);
        // Form 1 of the settings is the same.
        for (int i : new int[] {2, -1, 3, 9, 10, -2, 33, LEAST, MOST}) {
            refusals.badWithForms("factor(1, " + i + ", 0)", y -> y.factor(1, i, 0));
            refusals.badWithForms("factor(1, " + i + ", 1)", y -> y.factor(1, i, 1));
        }
    }

    private static void howOften() {
        due.about("FACTORS, \"each as often as told\"");
        for (int often = 1; often <= 29; often++) {
            long g = 11;
            for (int k = 0; k < often; k++) {
                g = times(g, 3);
            }
            Calls x = of(g);
            due.is("factors", x.factors(0), 2);
            due.is("x + 1, " + often + " times", x.factor(0, 0, 1), often);
            due.is("the other one", x.factor(0, 1, 0), 11);
            due.is("the other one once", x.factor(0, 1, 1), 1);
        }
        Calls x = of(times(0x1002D, 0x1002D));
        due.is("factors of a square", x.factors(0), 1);
        due.is("the greatest that is there two times", x.factor(0, 0, 0), 0x1002D);
        due.is("two times", x.factor(0, 0, 1), 2);
        Calls y = of(times(11, 11, 13, 13, 13));
        due.is("x^3 + x + 1, two times", y.factor(0, 0, 1), 2);
        due.is("x^3 + x^2 + 1, three times", y.factor(0, 1, 1), 3);
    }

    private static void risingNumbers() {
        due.about("FACTORS, \"of degree 1 and more\", \"by rising numbers\"");
        long[][] rows = {{3, 7}, {11, 13}, {3, 11, 13}, {19, 25, 31}, {37, 41, 47, 55, 59, 61}, {3, 0x80000009L},
            {7, 11, 13, 0x11B}, {0x1002D, 0x1100B}, {0x1002D, 0x10039}, {7, 0x40000053L}};
        for (long[] row : rows) {
            Calls x = of(times(row));
            due.is("factors of " + times(row), x.factors(0), row.length);
            for (int i = 0; i < row.length; i++) {
                due.is("factor " + i + " of " + times(row), x.factor(0, i, 0), row[i]);
            }
            due.is("one more of " + times(row), x.factor(0, row.length, 0), -1);
        }
    }

    private static void factorOfNone() {
        due.about("Promise 14, \"BAD\": there is no such form");
        for (Refusals.Setting setting : Refusals.Setting.values()) {
            refusals.bad(setting, "factor of the form past the last", x -> x.factor(setting.forms, 0, 0));
        }
        for (int form : NO_FORMS) {
            refusals.bad("factor(" + form + ", 0, 0)", x -> x.factor(form, 0, 0));
            refusals.bad("factor(" + form + ", 0, 1)", x -> x.factor(form, 0, 1));
        }
    }

    private static void factorWhat() {
        due.about("Promise 14, \"what = 0 the polynomial, 1 how often\"");
        Calls x = of(0x101);
        due.is("factor(0, 0, 0)", x.factor(0, 0, 0), 3);
        due.is("factor(0, 0, 1)", x.factor(0, 0, 1), 8);
        for (int what : new int[] {-1, 2, 3, -2, LEAST, MOST}) {
            refusals.badWithForms("factor(0, 0, " + what + ")", y -> y.factor(0, 0, what));
        }
    }

    private static void leastOrders() {
        due.about("THE ORDER, \"the least n, 1 or more, such that G divides x^n - 1\"");
        for (int width = 3; width <= 32; width++) {
            due.is("order of x^" + width + " - 1", of(1L << width | 1).order(0), width);
            // All powers up to x^W are there: times x + 1 it is x^(W+1) - 1.
            due.is("order of x^" + width + " + .. + 1", of((2L << width) - 1).order(0), width + 1);
        }
    }

    private static void greatestOrders() {
        due.about("THE ORDER, \"the least n\", up to 2^32 - 1");
        due.is("width 3", of(11).order(0), 7);
        due.is("width 8", of(0x11D).order(0), 255);
        due.is("width 16", of(0x1002D).order(0), 65535);
        due.is("width 31", of(0x80000009L).order(0), 2147483647L);
        due.is("width 32", of(0x104C11DB7L).order(0), 4294967295L);
        due.is("width 32, x + 1 and one of degree 31", of(0x11EDC6F41L).order(0), 2147483647L);
        // No product of two, and yet not the whole 2^8 - 1.
        due.is("width 8, a part of 255", of(0x11B).order(0), 51);
    }

    private static void doubledOrders() {
        due.about("THE ORDER, of factors that are there more than once");
        for (int often = 3; often <= 32; often++) {
            long g = 1;
            for (int k = 0; k < often; k++) {
                g = times(g, 3);
            }
            int want = 1;
            while (want < often) {
                want *= 2;
            }
            due.is("order of (x + 1)^" + often, of(g).order(0), want);
        }
        due.is("a square of degree 32", of(times(0x1002D, 0x1002D)).order(0), 131070);
        due.is("three times of degree 3", of(times(11, 11, 11)).order(0), 28);
        due.is("two of degree 3, one of them twice", of(times(11, 11, 13)).order(0), 14);
    }

    private static void orderOfNoForm() {
        due.about("Promise 15, \"BAD\": there is no such form");
        for (Refusals.Setting setting : Refusals.Setting.values()) {
            for (int form = 0; form < setting.forms; form++) {
                due.holds(setting + ": order(" + form + ")", Refusals.made(setting).order(form) > 0);
            }
            refusals.bad(setting, "order of the form past the last", x -> x.order(setting.forms));
        }
        for (int form : NO_FORMS) {
            refusals.bad("order(" + form + ")", x -> x.order(form));
        }
    }

    private static void distanceNumbers() {
        due.about("Promise 16, \"n bits (1 to 200)\"");
        Calls x = of(0x11021);
        due.is("distance(0, 1)", x.distance(0, 1), 5);
        due.is("distance(0, 200)", x.distance(0, 200), 4);
        due.is("distance(0, 0)", x.distance(0, 0), -1);
        due.is("distance(0, 201)", x.distance(0, 201), -1);
        for (int n : new int[] {0, 201, -1, -200, 202, 256, 257, LEAST, MOST}) {
            refusals.badWithForms("distance(0, " + n + ")", y -> y.distance(0, n));
            refusals.badWithForms("distance(2, " + n + ")", y -> y.distance(2, n));
        }
    }

    private static void distanceOfNone() {
        due.about("THE DISTANCE, \"5, if .. there is none\": n bits up to W");
        for (int width = 3; width <= 32; width++) {
            for (long p : new long[] {1, 3, 5, (1L << width) - 1}) {
                Calls x = of(1L << width | p);
                for (int n = 1; n <= width; n++) {
                    due.is("distance for " + n + " of width " + width + ", P " + p, x.distance(0, n), 5);
                }
            }
        }
    }

    private static void distanceOfG() {
        due.about("THE DISTANCE, \"of degree n - 1 or less\": for W + 1 bits G alone");
        for (int width = 5; width <= 32; width++) {
            long high = 1L << width;
            due.is("two bits, width " + width, of(high | 1).distance(0, width + 1), 2);
            due.is("three bits, width " + width, of(high | 3).distance(0, width + 1), 3);
            due.is("four bits, width " + width, of(high | 7).distance(0, width + 1), 4);
            due.is("five bits, width " + width, of(high | 15).distance(0, width + 1), 5);
            due.is("all bits, width " + width, of(2 * high - 1).distance(0, width + 1), 5);
        }
    }

    private static void distanceTwo() {
        due.about("THE DISTANCE, 2 from the order's degree on");
        for (long g : new long[] {9, 11, 13, 0x107, 0x11B, 0x11D, 0x1FF, times(11, 13), times(3, 11, 11)}) {
            Calls x = of(g);
            int order = (int) x.order(0);
            if (order < 200) {
                due.holds("distance for " + order + " of " + g, x.distance(0, order) > 2);
                due.is("distance for one more of " + g, x.distance(0, order + 1), 2);
                due.is("distance for 200 of " + g, x.distance(0, 200), 2);
            }
        }
    }

    private static void distanceThreeAndFour() {
        due.about("THE DISTANCE, \"how many bits .. the polynomials have that G divides\": the fewest of all");
        for (long g : new long[] {0x107, 0x11D, 0x131, 0x1D5, 0x633, 0x11021, 0x18005, 0x1002D, 0x1864CFB}) {
            Calls x = of(g);
            for (int n = 1; n <= 100; n++) {
                due.is("distance for " + n + " of " + g, x.distance(0, n), Plain.distanceOf(g, n));
            }
        }
    }

    private static void distanceAboveFour() {
        due.about("THE DISTANCE, \"5, if that is above 4\"");
        // Golay's code: all that it divides below x^23 - 1 have seven bits and more.
        Calls x = of(0xC75);
        for (int n = 12; n <= 23; n++) {
            due.is("distance for " + n + " of Golay's", x.distance(0, n), 5);
        }
        due.is("distance for 24 of Golay's", x.distance(0, 24), 2);
        Calls y = of(0x104C11DB7L);
        due.is("distance for 40 of CRC-32", y.distance(0, 40), 5);
        due.is("distance for 200 of CRC-32", y.distance(0, 200), 5);
    }

    private static void distanceAtTwoHundred() {
        due.about("THE DISTANCE, \"of degree n - 1 or less\": degree 199 for 200 bits alone");
        // What G divides with the fewest bits has just degree 199: G, the distance for 199, for 200.
        long[][] rows = {{8437, 4, 3}, {33235, 4, 3}, {133241, 4, 3}, {1048717, 5, 4}, {2097263, 5, 4},
            {1101703, 5, 3}, {2181471, 5, 3}};
        for (long[] row : rows) {
            due.is("distance for 199 of " + row[0], of(row[0]).distance(0, 199), row[1]);
            due.is("distance for 200 of " + row[0], of(row[0]).distance(0, 200), row[2]);
            due.is("by the plain way for 199 of " + row[0], Plain.distanceOf(row[0], 199), row[1]);
            due.is("by the plain way for 200 of " + row[0], Plain.distanceOf(row[0], 200), row[2]);
        }
    }

    private static void distanceOfNoForm() {
        due.about("Promise 16, \"BAD\": there is no such form");
        for (Refusals.Setting setting : Refusals.Setting.values()) {
            for (int form = 0; form < setting.forms; form++) {
                due.holds(setting + ": distance(" + form + ", 1)",
                        Refusals.made(setting).distance(form, 1) == 5);
            }
            refusals.bad(setting, "distance of the form past the last", x -> x.distance(setting.forms, 1));
        }
        for (int form : NO_FORMS) {
            refusals.bad("distance(" + form + ", 1)", x -> x.distance(form, 1));
        }
    }

    private static void eachFormItsOwn() {
        due.about("Promises 13 to 16, form 0 to form 7");
        Calls x = new Calls();
        long[] polynomials = {1, 3, 5, 7, 9, 11, 13, 15};
        for (long p : polynomials) {
            x.form(5, p, 0, 0, false, false);
        }
        for (int form = 7; form >= 0; form--) {
            long g = 32 | polynomials[form];
            due.is("factors(" + form + ")", x.factors(form), Plain.factorsOf(g).size());
            due.is("factor(" + form + ", 0, 0)", x.factor(form, 0, 0), Plain.factorsOf(g).get(0)[0]);
            due.holds("order(" + form + ")", Plain.isOrder(g, x.order(form)));
            due.is("distance(" + form + ", 9)", x.distance(form, 9), Plain.distanceOf(g, 9));
        }
    }
}
