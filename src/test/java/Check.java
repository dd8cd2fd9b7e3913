import java.util.List;
import java.util.function.Supplier;

/** What the tests share: they say what is due, print what is not, and end with exit code 1 if anything was not. */
final class Check {
    private static int wrong = 0;
    private static int looked = 0;

    private Check() {
    }

    static void same(String what, Object got, Object due) {
        looked++;
        if (!got.equals(due)) {
            wrong++;
            System.out.println(what + " answered " + got + ", due is " + due);
        }
    }

    /** The call throws just this, and changes nothing. */
    static void refused(String what, LoomDraft draft, Class<?> due, Supplier<?> call) {
        List<Object> before = stateOf(draft);
        Object got;
        try {
            got = call.get();
        } catch (RuntimeException e) {
            got = e.getClass();
        }
        same(what, got, due);
        same(what + ", what it left", stateOf(draft), before);
    }

    /** All that the calls tell of a draft without changing it. */
    static List<Object> stateOf(LoomDraft draft) {
        return List.of(draft.digest(), draft.count(true), draft.count(false), draft.differences(), draft.layers(),
            draft.warpShare(), draft.period(true), draft.period(false));
    }

    static void finish(Class<?> test) {
        System.out.println(test.getSimpleName() + ": " + looked + " answers looked at, " + wrong + " not as due");
        if (wrong != 0) {
            System.exit(1);
        }
    }

    // ---- drafts that several tests begin with

    /** Ends with these shafts, all of colour 0. */
    static void threadAll(LoomDraft draft, int... shafts) {
        for (int shaft : shafts) {
            draft.thread(shaft, 0);
        }
    }

    /** Picks with these sets of treadles, all of colour 1. */
    static void treadAll(LoomDraft draft, int... treadles) {
        for (int set : treadles) {
            draft.tread(set, 1);
        }
    }

    /** Plain weave: shafts 0 and 1 in turn, each on a treadle of its own. */
    static LoomDraft plain(int ends, int picks) {
        LoomDraft draft = new LoomDraft();
        draft.tie(0, 1);
        draft.tie(1, 2);
        for (int end = 0; end < ends; end++) {
            draft.thread(end % 2, 0);
        }
        for (int pick = 0; pick < picks; pick++) {
            draft.tread(1 << pick % 2, 1);
        }
        return draft;
    }

    /** A draft whose ends or picks have the colours 0 to 7 in turn, so that each of eight can be told. */
    static LoomDraft coloured(int ends, int picks) {
        LoomDraft draft = new LoomDraft();
        for (int end = 0; end < ends; end++) {
            draft.thread(7 - end % 8, end % 8);
        }
        for (int pick = 0; pick < picks; pick++) {
            draft.tread(1023 - pick, pick % 8);
        }
        return draft;
    }

    /** The colours of the ends or the picks, as the digits of a text. */
    static String colours(LoomDraft draft, boolean isWarp) {
        StringBuilder text = new StringBuilder();
        for (int place = 0; place < draft.count(isWarp); place++) {
            text.append(isWarp ? draft.end(place, 1) : draft.pick(place, 1));
        }
        return text.toString();
    }

    /** The shafts of the ends or the treadles of the picks. */
    static String bindings(LoomDraft draft, boolean isWarp) {
        StringBuilder text = new StringBuilder();
        for (int place = 0; place < draft.count(isWarp); place++) {
            text.append(place == 0 ? "" : " ").append(isWarp ? draft.end(place, 0) : draft.pick(place, 0));
        }
        return text.toString();
    }

    /** A drawing with so many columns and these rows. */
    static LoomDraft drawn(int columns, long... rows) {
        LoomDraft draft = new LoomDraft();
        drawOn(draft, columns, rows);
        return draft;
    }

    static LoomDraft drawnAndFitted(int columns, long... rows) {
        LoomDraft draft = drawn(columns, rows);
        draft.fit();
        return draft;
    }

    static void drawOn(LoomDraft draft, int columns, long... rows) {
        draft.draw(columns);
        for (long cells : rows) {
            draft.row(cells);
        }
    }
}
