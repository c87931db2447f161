/** The boundary cases of promises 1 to 3 and of the terms of A FORM: a method for each sentence. */
public final class EdgesOfFormsTest {
    private static final Due due = new Due("EdgesOfFormsTest");
    private static final Refusals refusals = new Refusals(due);

    public static void main(String[] args) {
        newObject();
        newObjectsShareNothing();
        widths();
        polynomials();
        oddPolynomials();
        starts();
        ends();
        inAndOut();
        eightForms();
        fullForms();
        badBeforeFull();
        forgetNone();
        forgetOne();
        forgetEight();
        forgetLeavesTheText();
        due.end();
    }

    private static long most(int width) {
        return (1L << width) - 1;
    }

    private static void newObject() {
        due.about("Promise 1, \"No FORMS, an empty TEXT.\"");
        due.is("count(0)", new Calls().count(0), 0);
        due.is("count(1)", new Calls().count(1), 0);
        due.is("octet(0)", new Calls().octet(0), -1);
        due.is("forget()", new Calls().forget(), 0);
        due.is("cut(0)", new Calls().cut(0), 0);
        due.is("cut(1)", new Calls().cut(1), -1);
        due.is("added(0, 0, 0)", new Calls().added(0, 0, 0), 1);
        due.is("added(0, 0, 1)", new Calls().added(0, 0, 1), -1);
        due.is("the first form", new Calls().form(8, 7, 0, 0, false, false), 0);
        due.is("the first octet", new Calls().feed(1, 0), 1);
        noForm(new Calls(), 0);
    }

    private static void newObjectsShareNothing() {
        due.about("Promise 1, \"No FORMS, an empty TEXT.\", of another object");
        Calls x = Refusals.made(Refusals.Setting.FULL);
        Calls y = new Calls();
        due.is("count(0)", y.count(0), 0);
        due.is("count(1)", y.count(1), 0);
        y.form(8, 7, 0, 0, false, false);
        y.feed(1, 0xAB);
        due.is("forms of the first", x.count(0), 8);
        due.is("octets of the first", x.count(1), 600);
        due.is("order of the first's form 0", x.order(0), 127);
        y.forget();
        y.cut(0);
        due.is("forms of the first when the other's go", x.count(0), 8);
        due.is("octets of the first when the other's go", x.count(1), 600);
    }

    /** No call knows the form. */
    private static void noForm(Calls x, int form) {
        due.is("sum by form " + form, x.sum(form, 0, 0), -1);
        due.is("joined by form " + form, x.joined(form, 0, 0, 0), -1);
        due.is("zeros by form " + form, x.zeros(form, 0, 0), -1);
        due.is("changed by form " + form, x.changed(form, 0, 0, 0), -1);
        due.is("tail by form " + form, x.tail(form, 0, 0), -1);
        due.is("factors of form " + form, x.factors(form), -1);
        due.is("factor of form " + form, x.factor(form, 0, 0), -1);
        due.is("order of form " + form, x.order(form), -1);
        due.is("distance of form " + form, x.distance(form, 1), -1);
    }

    private static void widths() {
        due.about("A FORM, \"WIDTH W (3 to 32)\"");
        for (int width = 3; width <= 32; width++) {
            due.is("form(" + width + ", 1, 0, 0, ..)", new Calls().form(width, 1, 0, 0, false, false), 0);
        }
        // 35 and 40 would be 3 and 8 to a shift of 32 bits, 67 and 72 to one of 64.
        for (int width : new int[] {2, 33, 1, 0, -1, -3, 34, 35, 40, 63, 64, 67, 72, Integer.MIN_VALUE,
                Integer.MAX_VALUE}) {
            refusals.bad("form(" + width + ", 1, 0, 0, ..)", x -> x.form(width, 1, 0, 0, false, false));
        }
    }

    private static void polynomials() {
        due.about("A FORM, \"POLYNOMIAL P ..: numbers of W bits\" (0 to 2^W - 1)");
        for (int width = 3; width <= 32; width++) {
            taken(width, 1, 0, 0);
            taken(width, most(width), 0, 0);
            taken(width, most(width) - 2, 1, 2);
            for (long p : new long[] {most(width) + 2, -1, 2 * most(width) + 1}) {
                due.is("form(" + width + ", " + p + ", 0, 0, ..)",
                        new Calls().form(width, p, 0, 0, false, false), -1);
            }
        }
        for (long p : new long[] {257, -1, -255, 0x100000001L, Long.MAX_VALUE, Long.MIN_VALUE + 1}) {
            refusals.bad("form(8, " + p + ", 0, 0, ..)", x -> x.form(8, p, 0, 0, false, false));
        }
        refusals.bad("form(3, 9, 0, 0, ..)", x -> x.form(3, 9, 0, 0, false, false));
        refusals.bad("form(32, 2^32 + 1, ..)", x -> x.form(32, 0x100000001L, 0, 0, false, false));
    }

    /** The form is taken, and works with just these numbers. */
    private static void taken(int width, long polynomial, long start, long end) {
        Calls x = new Calls();
        Plain plain = new Plain();
        String form = "form(" + width + ", " + polynomial + ", " + start + ", " + end + ", ..)";
        for (int i = 0; i < 4; i++) {
            due.is(form, x.form(width, polynomial, start, end, i % 2 == 1, i > 1), i);
            plain.form(width, polynomial, start, end, i % 2 == 1, i > 1);
        }
        x.feed(6, 0x8001FF00C35AL);
        plain.feed(6, 0x8001FF00C35AL);
        for (int i = 0; i < 4; i++) {
            for (int to = 0; to <= 6; to++) {
                due.is(form + ", sum(" + i + ", 0, " + to + ")", x.sum(i, 0, to), plain.sum(i, 0, to));
            }
        }
    }

    private static void oddPolynomials() {
        due.about("A FORM, \"P odd\"");
        for (int width = 3; width <= 32; width++) {
            for (long p : new long[] {0, 2, most(width) - 1, 1L << width - 1}) {
                due.is("form(" + width + ", " + p + ", 0, 0, ..)",
                        new Calls().form(width, p, 0, 0, false, false), -1);
            }
        }
        for (long p : new long[] {0, 2, 128, 254}) {
            refusals.bad("form(8, " + p + ", 1, 1, ..)", x -> x.form(8, p, 1, 1, true, true));
        }
    }

    private static void starts() {
        due.about("A FORM, \"START ..: numbers of W bits\" (0 to 2^W - 1)");
        for (int width = 3; width <= 32; width++) {
            taken(width, 3, 0, 0);
            taken(width, 3, 1, 0);
            taken(width, 3, most(width), 0);
            taken(width, 3, 1L << width - 1, most(width));
            for (long start : new long[] {most(width) + 1, -1, Long.MIN_VALUE, Long.MAX_VALUE}) {
                due.is("form(" + width + ", 3, " + start + ", 0, ..)",
                        new Calls().form(width, 3, start, 0, false, false), -1);
            }
        }
        for (long start : new long[] {256, -1, -256, 1L << 32, Long.MIN_VALUE, Long.MAX_VALUE}) {
            refusals.bad("form(8, 7, " + start + ", 0, ..)", x -> x.form(8, 7, start, 0, false, false));
        }
        refusals.bad("form(3, 3, 8, 0, ..)", x -> x.form(3, 3, 8, 0, false, false));
        refusals.bad("form(32, 3, 2^32, 0, ..)", x -> x.form(32, 3, 1L << 32, 0, false, false));
    }

    private static void ends() {
        due.about("A FORM, \"END: numbers of W bits\" (0 to 2^W - 1)");
        for (int width = 3; width <= 32; width++) {
            taken(width, 5, 0, 1);
            taken(width, 5, 0, most(width));
            taken(width, 5, most(width), most(width));
            for (long end : new long[] {most(width) + 1, -1, Long.MIN_VALUE, Long.MAX_VALUE}) {
                due.is("form(" + width + ", 5, 0, " + end + ", ..)",
                        new Calls().form(width, 5, 0, end, false, false), -1);
            }
        }
        for (long end : new long[] {256, -1, -256, 1L << 32, Long.MIN_VALUE, Long.MAX_VALUE}) {
            refusals.bad("form(8, 7, 0, " + end + ", ..)", x -> x.form(8, 7, 0, end, false, false));
        }
        refusals.bad("form(3, 3, 0, 8, ..)", x -> x.form(3, 3, 0, 8, false, false));
        refusals.bad("form(32, 3, 0, 2^32, ..)", x -> x.form(32, 3, 0, 1L << 32, false, false));
    }

    private static void inAndOut() {
        due.about("A FORM, \"the highest first (IN: the lowest first)\", \"OUT: its bits in the other order\"");
        Calls x = new Calls();
        for (int i = 0; i < 4; i++) {
            x.form(8, 0x07, 0, 0, i % 2 == 1, i > 1);
        }
        x.feed(2, 0x8001);
        // Bit 0 of the register meets the octet's last bit, bit 7 its first; P is 0x07, turned 0xE0.
        long[] ofLast = {0x07, 0x89, 0xE0, 0x91};
        long[] ofFirst = {0x89, 0x07, 0x91, 0xE0};
        for (int i = 0; i < 4; i++) {
            due.is("sum(" + i + ") of 0x01", x.sum(i, 1, 2), ofLast[i]);
            due.is("sum(" + i + ") of 0x80", x.sum(i, 0, 1), ofFirst[i]);
        }
    }

    private static void eightForms() {
        due.about("A FORM, \"(8 at most)\"; promise 2, \"A FORM more: its number.\"");
        Calls x = new Calls();
        for (int i = 0; i < 8; i++) {
            due.is("form " + i, x.form(3 + i, 1 + 2 * (i % 4), i, 0, i % 2 == 0, false), i);
            due.is("count(0)", x.count(0), i + 1);
            due.is("its sum of none", x.sum(i, 0, 0), i);
            due.is("the next one's", x.sum(i + 1, 0, 0), -1);
        }
        due.is("a ninth form", x.form(8, 7, 0, 0, false, false), -2);
        due.is("count(0)", x.count(0), 8);
        for (int i = 0; i < 8; i++) {
            due.is("form " + i + " is as it was", x.sum(i, 0, 0), i);
        }
        noForm(x, 8);
    }

    private static void fullForms() {
        due.about("Promise 2, \"FULL: there are 8.\"");
        due.is("an eighth form", Refusals.made(Refusals.Setting.NEARLY).form(8, 7, 0, 0, false, false), 7);
        refusals.full(Refusals.Setting.FULL, "form(8, 7, ..)", x -> x.form(8, 7, 0, 0, false, false));
        refusals.full(Refusals.Setting.FULL, "form(3, 1, ..)", x -> x.form(3, 1, 0, 0, true, true));
        refusals.full(Refusals.Setting.FULL, "form(32, 2^32 - 1, ..)",
                x -> x.form(32, most(32), most(32), most(32), true, false));
    }

    private static void badBeforeFull() {
        due.about("REFUSALS, \"of several the first in this order: BAD .., FULL\", of form");
        Refusals.Setting full = Refusals.Setting.FULL;
        refusals.bad(full, "width 2", x -> x.form(2, 1, 0, 0, false, false));
        refusals.bad(full, "width 33", x -> x.form(33, 1, 0, 0, false, false));
        refusals.bad(full, "polynomial 2^W + 1", x -> x.form(8, 257, 0, 0, false, false));
        refusals.bad(full, "polynomial -1", x -> x.form(8, -1, 0, 0, false, false));
        refusals.bad(full, "polynomial even", x -> x.form(8, 6, 0, 0, false, false));
        refusals.bad(full, "start 2^W", x -> x.form(8, 7, 256, 0, false, false));
        refusals.bad(full, "start -1", x -> x.form(8, 7, -1, 0, false, false));
        refusals.bad(full, "end 2^W", x -> x.form(8, 7, 0, 256, false, false));
        refusals.bad(full, "end -1", x -> x.form(8, 7, 0, -1, false, false));
    }

    private static void forgetNone() {
        due.about("Promise 3, \"how many there were\", of none");
        Calls x = new Calls();
        due.is("forget()", x.forget(), 0);
        due.is("count(0)", x.count(0), 0);
        due.is("form", x.form(8, 7, 0, 0, false, false), 0);
    }

    private static void forgetOne() {
        due.about("Promise 3, \"how many there were\", of one");
        Calls x = new Calls();
        x.form(8, 7, 0, 0, false, false);
        due.is("forget()", x.forget(), 1);
        noForm(x, 0);
        due.is("forget() again", x.forget(), 0);
    }

    private static void forgetEight() {
        due.about("Promise 3, \"All FORMS go: how many there were.\", of eight");
        Calls x = Refusals.made(Refusals.Setting.FULL);
        due.is("form", x.form(8, 7, 0, 0, false, false), -2);
        due.is("forget()", x.forget(), 8);
        due.is("count(0)", x.count(0), 0);
        for (int form = 0; form < 8; form++) {
            noForm(x, form);
        }
        for (int i = 0; i < 8; i++) {
            due.is("form anew", x.form(8, 1, 5, 0, false, false), i);
            due.is("its sum of none", x.sum(i, 0, 0), 5);
            due.is("its order", x.order(i), 8);
            due.is("its factor", x.factor(i, 0, 1), 8);
            due.is("its distance", x.distance(i, 9), 2);
            due.is("the next one is still gone", x.sum(i + 1, 0, 0), -1);
        }
        due.is("a ninth form", x.form(8, 1, 0, 0, false, false), -2);
    }

    private static void forgetLeavesTheText() {
        due.about("Promise 3, \"All FORMS go\", and nothing else");
        for (Refusals.Setting setting : Refusals.Setting.values()) {
            Calls x = Refusals.made(setting);
            long adler = x.added(0, 0, setting.octets);
            x.forget();
            due.is(setting + ": count(1)", x.count(1), setting.octets);
            due.is(setting + ": added(0, ..)", x.added(0, 0, setting.octets), adler);
        }
    }
}
