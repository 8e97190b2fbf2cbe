import java.util.ArrayList;
import java.util.List;

/** Two like objects: one takes a call more, or a call in place of another, and both must answer alike from then on. */
final class Twins {
    interface Making {
        void with(SlateSchool x);
    }

    interface Call {
        long on(SlateSchool x);
    }

    private final Due due;
    private final Making making;

    Twins(Due due, Making making) {
        this.due = due;
        this.making = making;
    }

    /** The call answers so and changes nothing, not even the tape. */
    void nothing(String name, Call call, long want) {
        alike(name, call, want, x -> 0);
    }

    /** The call changes nothing, whatever it answers. */
    void nothing(String name, Call call) {
        alike(name, call, call.on(made()), x -> 0);
    }

    /** The call leaves all as another one does that answers the same. */
    void nothing(String name, Call call, Call instead) {
        SlateSchool x = made();
        SlateSchool twin = made();
        call.on(x);
        instead.on(twin);
        compare(name, x, twin);
    }

    /** The call answers so and changes nothing but that the tape is empty then. */
    void nothingButTape(String name, Call call, long want) {
        alike(name, call, want, x -> x.check(0));
    }

    /** What the call changes is as it was, when it is undone. */
    void undone(String name, Call call) {
        SlateSchool x = made();
        SlateSchool twin = made();
        x.keep();
        twin.keep();
        call.on(x);
        due.is(name + " undone", x.undo(), true);
        compare(name + " undone", x, twin);
        SlateSchool changed = made();
        SlateSchool other = made();
        call.on(changed);
        due.is(name + " changes something", !told(changed).equals(told(other)), true);
    }

    private void alike(String name, Call call, long want, Call instead) {
        SlateSchool x = made();
        SlateSchool twin = made();
        due.is(name, call.on(x), want);
        instead.on(twin);
        compare(name, x, twin);
    }

    private SlateSchool made() {
        SlateSchool x = new SlateSchool();
        making.with(x);
        return x;
    }

    private void compare(String name, SlateSchool x, SlateSchool twin) {
        List<Long> got = told(x);
        List<Long> want = told(twin);
        boolean isAlike = got.size() == want.size();
        for (int i = 0; i < got.size() && isAlike; i++) {
            isAlike = got.get(i).equals(want.get(i));
            if (!isAlike) {
                due.is(name + " changed answer " + i, got.get(i), want.get(i));
            }
        }
        due.is(name + " changes nothing else", isAlike, true);
    }

    /**
     * What can be looked at, what the tape and the LAW are, what is KEPT; in fewer calls than an object is used
     * for.
     */
    private static List<Long> told(SlateSchool x) {
        List<Long> all = new ArrayList<>();
        look(x, all);
        add(all, x.hours(2));
        glance(x, all);
        add(all, x.count(4) >= 7 ? x.law(7) : 0);
        add(all, x.hour(9));
        glance(x, all);
        add(all, x.undo() ? 1 : 0);
        look(x, all);
        return all;
    }

    private static void look(SlateSchool x, List<Long> all) {
        glance(x, all);
        int[] hours = {100, 103, 104, 150, 199};
        for (int h : hours) {
            add(all, x.count(h));
        }
        for (int q : someOf(x.count(0))) {
            for (int what = 0; what <= 4; what++) {
                add(all, x.roofIs(q, what));
            }
        }
        for (int a : someOf(x.count(1))) {
            for (int what = 0; what <= 14; what = what == 4 ? 10 : what + 1) {
                add(all, x.apprenticeIs(a, what));
            }
            for (int b : someOf(x.count(2))) {
                add(all, x.owes(a, b, 0));
                add(all, x.owes(a, b, 1));
            }
        }
        for (int b : someOf(x.count(2))) {
            for (int what = 0; what <= 4; what++) {
                add(all, x.masterIs(b, what));
            }
        }
    }

    private static void glance(SlateSchool x, List<Long> all) {
        for (int what = 0; what <= 9; what++) {
            add(all, x.count(what));
        }
        for (int q : someOf(x.count(0))) {
            add(all, x.roofIs(q, 1));
        }
        for (int a : someOf(x.count(1))) {
            add(all, x.apprenticeIs(a, 0));
            add(all, x.apprenticeIs(a, 3));
        }
        for (int b : someOf(x.count(2))) {
            add(all, x.masterIs(b, 4));
        }
    }

    /** The first three and the last one of so many. */
    private static int[] someOf(int count) {
        int most = Math.max(0, Math.min(count, 4));
        int[] some = new int[most];
        for (int i = 0; i < most; i++) {
            some[i] = i < 3 ? i : count - 1;
        }
        return some;
    }

    private static void add(List<Long> all, long answer) {
        all.add(answer);
    }
}
