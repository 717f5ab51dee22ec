import java.util.ArrayList;
import java.util.List;

/** Compares answers with those that are due, and looks at all that can be seen of an object. */
final class Due {
    static final Class<?> ARGUMENT = IllegalArgumentException.class;
    static final Class<?> INDEX = IndexOutOfBoundsException.class;
    static final Class<?> STATE = IllegalStateException.class;

    interface Maker {
        HalfTables make();
    }

    interface Call {
        long of(HalfTables x);
    }

    interface CallWith {
        long of(HalfTables x, int value);
    }

    private static final int MORE_THAN_CAN_BE_SAVED = 9;

    private static int wrong = 0;
    private static int checked = 0;
    private static String sentence = "";

    private Due() {
    }

    /** The words of the document that the checks behind this are about. */
    static void sentence(String words) {
        sentence = words;
    }

    static void answer(String what, long got, long want) {
        checked++;
        if (got != want) {
            complain(what + " answered " + got + ", due is " + want);
        }
    }

    /** Tells 0.0 from -0.0. */
    static void answer(String what, double got, double want) {
        checked++;
        if (Double.doubleToLongBits(got) != Double.doubleToLongBits(want)) {
            complain(what + " answered " + got + ", due is " + want);
        }
    }

    /** The call throws just this exception, and all that can be seen of the object stays as it was. */
    static void refused(String what, Class<?> due, Maker maker, Call call) {
        HalfTables x = maker.make();
        checked++;
        Class<?> thrown = null;
        try {
            call.of(x);
        } catch (RuntimeException e) {
            thrown = e.getClass();
        }
        if (thrown != due) {
            complain(what + " threw " + thrown + ", due is " + due);
        }
        same(what, whole(x), whole(maker.make()));
    }

    /** Each of these values is refused where the call takes it. */
    static void refusedWith(String what, Class<?> due, Maker maker, CallWith call, int... values) {
        for (int value : values) {
            refused(what + " with v = " + value, due, maker, x -> call.of(x, value));
        }
    }

    /** As above, of a new object, of one with all that a state can have, and of one with no saved state. */
    static void refusedInAll(String what, Class<?> due, CallWith call, int... values) {
        refusedWith(what, due, HalfTables::new, call, values);
        refusedWith(what, due, () -> Made.busy(8), call, values);
        refusedWith(what, due, Made::busyWithoutSaved, call, values);
    }

    /** The call succeeds and leaves the object as it was, the saved states too. */
    static void changesNothing(String what, Maker maker, Call call) {
        HalfTables x = maker.make();
        call.of(x);
        same(what, whole(x), whole(maker.make()));
    }

    /** The call saves one state, that from before it; the oldest of more than four is dropped. */
    static void savesOneState(String what, Maker maker, Call call) {
        HalfTables x = maker.make();
        call.of(x);
        int remain = undone(x);
        List<String> due = states(maker.make());
        List<String> got = states(x);
        answer(what + ", then undo()", remain, Math.min(due.size(), 4) - 1);
        same(what + ", then undo()", got, due.subList(0, Math.min(due.size(), 4)));
        sameText(what, maker, call);
    }

    private static void sameText(String what, Maker maker, Call call) {
        HalfTables x = maker.make();
        call.of(x);
        undone(x);
        same(what + ", then undo() and run()", afterRun(x), afterRun(maker.make()));
    }

    /** All that calls can tell of the object, which is used up by that. */
    static List<String> whole(HalfTables x) {
        List<String> told = states(x);
        told.addAll(afterRun(x));
        return told;
    }

    /** The present state and each saved one, from the newest to the oldest. */
    private static List<String> states(HalfTables x) {
        List<String> told = new ArrayList<>();
        List<Long> digests = new ArrayList<>();
        boolean more = true;
        while (more && told.size() < MORE_THAN_CAN_BE_SAVED) {
            told.add(state(x));
            digests.add(x.digest());
            more = undone(x) >= 0;
        }
        for (int i = 0; i < told.size(); i++) {
            // The number of saved states comes last in the digest.
            long saved = told.size() - 1 - i;
            told.set(i, told.get(i) + " digest " + (digests.get(i) - saved));
        }
        return told;
    }

    /** Takes back a state. Returns how many remain, or -1 if there was none. */
    private static int undone(HalfTables x) {
        try {
            return x.undo();
        } catch (IllegalStateException e) {
            return -1;
        }
    }

    private static String state(HalfTables x) {
        StringBuilder told = new StringBuilder("values ");
        for (int what = 0; what <= 7; what++) {
            told.append(x.value(what)).append(' ');
        }
        told.append("account ").append(x.account()).append(" registers ");
        for (int register = 0; register < 8; register++) {
            told.append(x.register(register)).append(' ');
        }
        told.append("wrong ").append(x.wrongPairs()).append(' ').append(x.firstWrong());
        return told.append(" suspect ").append(x.suspect()).toString();
    }

    private static List<String> afterRun(HalfTables x) {
        return List.of("run " + x.run(), state(x), "digest " + x.digest(), "length " + x.clearText());
    }

    private static void same(String what, List<String> got, List<String> due) {
        checked++;
        if (!got.equals(due)) {
            complain(what + " left " + got + ", due is " + due);
        }
    }

    private static void complain(String words) {
        wrong++;
        System.out.println("\"" + sentence + "\": " + words);
    }

    static void end() {
        System.out.println(wrong == 0 ? checked + " answers are as due" : wrong + " of " + checked + " are not as due");
        if (wrong != 0) {
            System.exit(1);
        }
    }
}
