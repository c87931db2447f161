import java.util.ArrayList;
import java.util.EnumMap;
import java.util.List;
import java.util.Map;

/**
 * "REFUSALS are answers .. They change nothing.": a call that must be refused is made in settings from
 * a new object to a full one, and behind it every call must answer as if it had not been made.
 */
final class Refusals {
    interface Call {
        long on(Calls x);
    }

    /** What there is before the call; the first forms of FORMS, the first octets of one row. */
    enum Setting {
        NEW(0, 0, false), SOME(3, 5, false), NEARLY(7, 599, false), FULL(8, 600, true);

        final int forms;
        final int octets;
        /** Whether each form's worth has been asked for before, which a class may keep. */
        final boolean asked;

        Setting(int forms, int octets, boolean asked) {
            this.forms = forms;
            this.octets = octets;
            this.asked = asked;
        }
    }

    private static final int VIEWS = 4;
    /** Widths, polynomials, starts and ends; the four with a tail come first. */
    static final long[][] FORMS = {
        {8, 0x07, 0x12, 0x34}, {16, 0x1021, 0xFFFF, 0}, {32, 0x04C11DB7L, 0xFFFFFFFFL, 0xFFFFFFFFL},
        {24, 0x864CFB, 0xB704CE, 1}, {3, 3, 0, 7}, {5, 5, 0x1F, 0x1F}, {12, 0x80F, 0, 0}, {31, 1, 3, 2}
    };

    private final Due due;
    private final Map<Setting, List<List<Long>>> before = new EnumMap<>(Setting.class);

    Refusals(Due due) {
        this.due = due;
        for (Setting setting : Setting.values()) {
            List<List<Long>> views = new ArrayList<>();
            for (int view = 0; view < VIEWS; view++) {
                views.add(seen(view, made(setting)));
            }
            before.put(setting, views);
        }
    }

    static Calls made(Setting setting) {
        Calls x = new Calls();
        for (int i = 0; i < setting.forms; i++) {
            x.form((int) FORMS[i][0], FORMS[i][1], FORMS[i][2], FORMS[i][3], i % 2 == 1, i % 4 > 1);
        }
        for (int fed = 0; fed < setting.octets; fed += 8) {
            x.feed(Math.min(8, setting.octets - fed), 0x0180FF00C35A3CA5L * (fed + 1));
        }
        for (int i = 0; i < setting.forms && setting.asked; i++) {
            x.factors(i);
            x.order(i);
            x.distance(i, 100);
        }
        return x;
    }

    /** The call is BAD whatever there is. */
    void bad(String name, Call call) {
        for (Setting setting : Setting.values()) {
            refused(setting, name, call, SumForms.BAD);
        }
    }

    /** The call is BAD where there is a form 0. */
    void badWithForms(String name, Call call) {
        refused(Setting.SOME, name, call, SumForms.BAD);
        refused(Setting.FULL, name, call, SumForms.BAD);
    }

    void bad(Setting setting, String name, Call call) {
        refused(setting, name, call, SumForms.BAD);
    }

    void full(Setting setting, String name, Call call) {
        refused(setting, name, call, SumForms.FULL);
    }

    private void refused(Setting setting, String name, Call call, long answer) {
        for (int view = 0; view < VIEWS; view++) {
            Calls x = made(setting);
            due.is(setting + ": " + name, call.on(x), answer);
            List<Long> was = before.get(setting).get(view);
            List<Long> is = seen(view, x);
            int same = firstUnlike(was, is);
            due.is(setting + ": nothing has changed behind " + name + ", but answer " + same + " of view "
                    + view, same, was.size());
        }
    }

    private static int firstUnlike(List<Long> was, List<Long> is) {
        int same = 0;
        while (same < was.size() && same < is.size() && was.get(same).equals(is.get(same))) {
            same++;
        }
        return same;
    }

    /** Several views, each on an object of its own: one would ask for more calls than are promised. */
    private static List<Long> seen(int view, Calls x) {
        List<Long> all = new ArrayList<>();
        all.add((long) x.count(0));
        all.add((long) x.count(1));
        switch (view) {
            case 0 -> lookAtForms(x, all);
            case 1 -> lookAtOctets(x, 0, 300, all);
            case 2 -> lookAtOctets(x, 300, 601, all);
            default -> goOn(x, all);
        }
        return all;
    }

    private static void lookAtForms(Calls x, List<Long> all) {
        int octets = x.count(1);
        for (int i = 0; i < 8; i++) {
            all.add(x.sum(i, 0, octets));
            all.add(x.sum(i, 0, 0));
            all.add(x.joined(i, 1, 2, 3));
            all.add(x.zeros(i, 5, 4));
            all.add(x.changed(i, 6, 5, 0x35));
            all.add(x.tail(i, 3, 4));
            all.add((long) x.factors(i));
            all.add(x.factor(i, 0, 0));
            all.add(x.factor(i, 0, 1));
            all.add(x.order(i));
            all.add((long) x.distance(i, 30));
        }
        for (int what = 0; what < 2; what++) {
            all.add(x.added(what, 0, octets));
            all.add(x.addedJoined(what, 3, 4, 5));
        }
    }

    private static void lookAtOctets(Calls x, int from, int to, List<Long> all) {
        for (int i = from; i < to; i++) {
            all.add((long) x.octet(i));
        }
    }

    /** How much room there is, and what is made anew in it. */
    private static void goOn(Calls x, List<Long> all) {
        for (int i = 0; i < 9; i++) {
            all.add((long) x.form(9, 17 + 2 * i, i, 3, false, true));
            all.add(x.sum(i, 0, 0));
        }
        all.add((long) x.forget());
        all.add((long) x.form(10, 0x233, 4, 5, true, false));
        all.add((long) x.cut(x.count(1) / 2));
        int room = 600 - x.count(1);
        for (int fed = 0; fed < room + 8; fed += 8) {
            all.add((long) x.feed(8, fed));
        }
        all.add(x.sum(0, 0, x.count(1)));
        all.add((long) x.cut(0));
    }
}
