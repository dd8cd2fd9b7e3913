/** Promises 9 to 12: changes of the rows of ends and of picks. */
final class ChangesTest {
    private static final boolean[] BOTH = {true, false};

    private ChangesTest() {
    }

    public static void main(String[] args) {
        for (boolean isWarp : BOTH) {
            reverse(isWarp);
            rotate(isWarp);
            repeat(isWarp);
            cut(isWarp);
        }
        Check.finish(ChangesTest.class);
    }

    /** A row of so many, and a row of three of the other kind, which is to stay. */
    private static LoomDraft row(boolean isWarp, int length) {
        return isWarp ? Check.coloured(length, 3) : Check.coloured(3, length);
    }

    private static void looks(String what, LoomDraft draft, boolean isWarp, String colours) {
        Check.same(what + ", colours", Check.colours(draft, isWarp), colours);
        Check.same(what + ", the other row", Check.colours(draft, !isWarp), "012");
    }

    private static void reverse(boolean isWarp) {
        String what = "9 reverse(" + isWarp + ")";
        String[] due = {"", "0", "10", "210", "3210", "43210"};
        for (int length = 0; length < due.length; length++) {
            LoomDraft draft = row(isWarp, length);
            Check.same(what, draft.reverse(isWarp), length);
            looks(what, draft, isWarp, due[length]);
        }
        LoomDraft draft = row(isWarp, 3);
        draft.reverse(isWarp);
        Check.same(what + ", bindings", Check.bindings(draft, isWarp), isWarp ? "5 6 7" : "1021 1022 1023");
        LoomDraft full = row(isWarp, 40);
        Check.same(what + ", full", full.reverse(isWarp), 40);
        looks(what + ", full", full, isWarp, "76543210".repeat(5));
    }

    private static void rotate(boolean isWarp) {
        String what = "10 rotate(" + isWarp + ")";
        for (int length = 1; length <= 8; length++) {
            String first = "01234567".substring(0, length);
            for (int places = 0; places <= 40; places++) {
                LoomDraft draft = row(isWarp, length);
                Check.same(what, draft.rotate(isWarp, places), length);
                int beyond = length - places % length;
                looks(what + " by " + places, draft, isWarp, first.substring(beyond) + first.substring(0, beyond));
            }
        }
        LoomDraft draft = row(isWarp, 3);
        draft.rotate(isWarp, 1);
        looks(what + " by 1", draft, isWarp, "201");
        Check.same(what + ", bindings", Check.bindings(draft, isWarp), isWarp ? "5 7 6" : "1021 1023 1022");
        LoomDraft full = row(isWarp, 40);
        Check.same(what + ", full", full.rotate(isWarp, 39), 40);
        looks(what + ", full", full, isWarp, "1234567".concat("01234567".repeat(4)).concat("0"));
        LoomDraft empty = row(isWarp, 0);
        for (int places : new int[] {0, 1, 40}) {
            Check.same(what + ", empty", empty.rotate(isWarp, places), 0);
        }
        for (int bad : new int[] {-1, 41, Integer.MIN_VALUE, Integer.MAX_VALUE}) {
            for (LoomDraft any : new LoomDraft[] {empty, draft, full}) {
                Check.refused(what + " by " + bad, any, IllegalArgumentException.class, () -> any.rotate(isWarp, bad));
            }
        }
    }

    private static void repeat(boolean isWarp) {
        String what = "11 repeat(" + isWarp + ")";
        LoomDraft empty = row(isWarp, 0);
        Check.same(what + ", empty", empty.repeat(isWarp), 0);
        looks(what + ", empty", empty, isWarp, "");
        LoomDraft draft = row(isWarp, 3);
        Check.same(what, draft.repeat(isWarp), 6);
        looks(what, draft, isWarp, "012012");
        Check.same(what + ", bindings", Check.bindings(draft, isWarp),
            isWarp ? "7 6 5 7 6 5" : "1023 1022 1021 1023 1022 1021");
        LoomDraft half = row(isWarp, 20);
        Check.same(what + ", 20", half.repeat(isWarp), 40);
        looks(what + ", 20", half, isWarp, "01234567012345670123".repeat(2));
        Check.refused(what + ", 40", half, IllegalStateException.class, () -> half.repeat(isWarp));
        LoomDraft more = row(isWarp, 21);
        Check.refused(what + ", 21", more, IllegalStateException.class, () -> more.repeat(isWarp));
        Check.same(what + ", the other beside a full one", half.repeat(!isWarp), 6);
    }

    private static void cut(boolean isWarp) {
        String what = "12 cut(" + isWarp + ")";
        LoomDraft draft = row(isWarp, 5);
        Check.refused(what + ", 6 of 5", draft, IllegalArgumentException.class, () -> draft.cut(isWarp, 6));
        Check.same(what + ", 5 of 5", draft.cut(isWarp, 5), 0);
        looks(what + ", 5 of 5", draft, isWarp, "01234");
        Check.same(what + ", 2 of 5", draft.cut(isWarp, 2), 3);
        looks(what + ", 2 of 5", draft, isWarp, "01");
        for (int bad : new int[] {-1, 3, 40, Integer.MIN_VALUE, Integer.MAX_VALUE}) {
            Check.refused(what + ", " + bad + " of 2", draft, IllegalArgumentException.class,
                () -> draft.cut(isWarp, bad));
        }
        Check.same(what + ", what comes behind", isWarp ? draft.thread(0, 6) : draft.tread(0, 6), 2);
        looks(what + ", what comes behind", draft, isWarp, "016");
        Check.same(what + ", 0 of 3", draft.cut(isWarp, 0), 3);
        looks(what + ", 0 of 3", draft, isWarp, "");
        Check.same(what + ", 0 of 0", draft.cut(isWarp, 0), 0);
        Check.refused(what + ", 1 of 0", draft, IllegalArgumentException.class, () -> draft.cut(isWarp, 1));
        LoomDraft full = row(isWarp, 40);
        Check.same(what + ", 40 of 40", full.cut(isWarp, 40), 0);
        Check.same(what + ", 39 of 40", full.cut(isWarp, 39), 1);
        Check.same(what + ", 0 of 39", full.cut(isWarp, 0), 39);
    }
}
