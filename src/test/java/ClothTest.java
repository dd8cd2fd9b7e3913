/** Promises 13 to 22: the cloth. */
final class ClothTest {
    private static final Class<?> ARGUMENT = IllegalArgumentException.class;
    private static final Class<?> INDEX = IndexOutOfBoundsException.class;

    private ClothTest() {
    }

    public static void main(String[] args) {
        isWarpOnTop();
        colour();
        longestFloat();
        floats();
        warpShare();
        period();
        layers();
        hangsTogether();
        colourAt();
        threadsOf();
        Check.finish(ClothTest.class);
    }

    /** Ends on the shafts 0, 1, 2, 7, 0 and picks with the treadles {0}, {1, 9}, none, {0, 1}. */
    private static LoomDraft mixed() {
        LoomDraft draft = new LoomDraft();
        draft.tie(0, 0b10000001);
        draft.tie(1, 0b00000010);
        draft.tie(9, 0b00000110);
        draft.tie(4, 0b11111111);
        Check.threadAll(draft, 0, 1, 2, 7, 0);
        Check.treadAll(draft, 1, 2 + 512, 0, 3);
        return draft;
    }

    private static void isWarpOnTop() {
        LoomDraft draft = mixed();
        String[] due = {"10011", "01100", "00000", "11011"};
        for (int pick = 0; pick < 4; pick++) {
            for (int end = 0; end < 5; end++) {
                boolean up = due[pick].charAt(end) == '1';
                draft.setRising(true);
                Check.same("13 rising " + pick + " " + end, draft.isWarpOnTop(pick, end), up);
                draft.setRising(false);
                Check.same("13 sinking " + pick + " " + end, draft.isWarpOnTop(pick, end), !up);
            }
        }
        noSuchCrossing("13", draft, 4, 5);
        noSuchCrossing("13", new LoomDraft(), 0, 0);
        noSuchCrossing("13", Check.plain(3, 0), 0, 3);
        noSuchCrossing("13", Check.plain(0, 3), 3, 0);
        LoomDraft full = Check.plain(40, 40);
        noSuchCrossing("13", full, 40, 40);
        Check.same("13 the last of a full one", full.isWarpOnTop(39, 39), true);
        Check.same("13 beside the last of a full one", full.isWarpOnTop(38, 39), false);
    }

    private static void noSuchCrossing(String promise, LoomDraft draft, int picks, int ends) {
        int somePick = Math.max(picks - 1, 0);
        int someEnd = Math.max(ends - 1, 0);
        for (int bad : new int[] {-1, picks, Integer.MIN_VALUE, Integer.MAX_VALUE}) {
            Check.refused(promise + " pick " + bad, draft, INDEX, () -> draft.isWarpOnTop(bad, someEnd));
            Check.refused(promise + " pick " + bad, draft, INDEX, () -> draft.colour(bad, someEnd));
        }
        for (int bad : new int[] {-1, ends, Integer.MIN_VALUE, Integer.MAX_VALUE}) {
            Check.refused(promise + " end " + bad, draft, INDEX, () -> draft.isWarpOnTop(somePick, bad));
            Check.refused(promise + " end " + bad, draft, INDEX, () -> draft.colour(somePick, bad));
        }
    }

    private static void colour() {
        LoomDraft draft = new LoomDraft();
        draft.tie(0, 1);
        draft.thread(0, 3);
        draft.thread(1, 7);
        draft.tread(1, 5);
        draft.tread(0, 6);
        Check.same("14 an end on top", draft.colour(0, 0), 3);
        Check.same("14 a pick on top", draft.colour(0, 1), 5);
        Check.same("14 the next pick on top", draft.colour(1, 0), 6);
        draft.setRising(false);
        Check.same("14 sinking, a pick on top", draft.colour(0, 0), 5);
        Check.same("14 sinking, an end on top", draft.colour(0, 1), 7);
        Check.same("14 sinking, the next pick", draft.colour(1, 0), 3);
        noSuchCrossing("14", draft, 2, 2);
    }

    private static void lengths(String what, LoomDraft draft, int warp, int weft, int warpBack, int weftBack) {
        Check.same("15 " + what + ", ends", draft.longestFloat(true, true), warp);
        Check.same("15 " + what + ", picks", draft.longestFloat(false, true), weft);
        Check.same("15 " + what + ", ends on the back", draft.longestFloat(true, false), warpBack);
        Check.same("15 " + what + ", picks on the back", draft.longestFloat(false, false), weftBack);
    }

    private static void longestFloat() {
        lengths("none", new LoomDraft(), 0, 0, 0, 0);
        lengths("ends alone", Check.plain(5, 0), 0, 0, 0, 0);
        lengths("picks alone", Check.plain(0, 5), 0, 0, 0, 0);
        lengths("plain", Check.plain(4, 4), 1, 1, 1, 1);
        // The rows of mixed() are 10011, 01100, 00000 and 11011.
        LoomDraft draft = mixed();
        lengths("mixed", draft, 1, 5, 2, 2);
        draft.setRising(false);
        lengths("mixed and sinking", draft, 2, 2, 1, 5);
        draft.setRising(true);
        draft.rotate(false, 1);
        lengths("a float at the edge", draft, 2, 5, 2, 2);
        LoomDraft full = Check.plain(40, 40);
        full.tie(0, 3);
        full.tie(1, 3);
        lengths("full, ends on top", full, 40, 0, 0, 40);
        full.setRising(false);
        lengths("full, picks on top", full, 0, 40, 40, 0);
    }

    private static void floats() {
        LoomDraft draft = mixed();
        int[] warp = {9, 0, 0};
        int[] weft = {5, 3, 1, 1, 1, 0};
        for (int length = 1; length <= 40; length++) {
            int warpDue = length <= warp.length ? warp[length - 1] : 0;
            int weftDue = length <= weft.length ? weft[length - 1] : 0;
            Check.same("16 ends " + length, draft.floats(true, length), warpDue);
            Check.same("16 picks " + length, draft.floats(false, length), weftDue);
        }
        draft.setRising(false);
        Check.same("16 ends, sinking", draft.floats(true, 2), 4);
        Check.same("16 picks, sinking", draft.floats(false, 2), 4);
        LoomDraft full = Check.plain(40, 40);
        Check.same("16 full, 1", full.floats(true, 1), 800);
        Check.same("16 full, 2", full.floats(true, 2), 0);
        full.tie(0, 3);
        full.tie(1, 3);
        Check.same("16 full, 40", full.floats(true, 40), 40);
        Check.same("16 full, picks", full.floats(false, 1), 0);
        for (boolean isWarp : new boolean[] {true, false}) {
            Check.same("16 none", new LoomDraft().floats(isWarp, 1), 0);
            Check.same("16 none of 40", new LoomDraft().floats(isWarp, 40), 0);
            for (int bad : new int[] {0, -1, 41, Integer.MIN_VALUE, Integer.MAX_VALUE}) {
                Check.refused("16 length " + bad, full, ARGUMENT, () -> full.floats(isWarp, bad));
            }
        }
    }

    private static void warpShare() {
        Check.same("17 none", new LoomDraft().warpShare(), 0.0);
        Check.same("17 ends alone", Check.plain(3, 0).warpShare(), 0.0);
        Check.same("17 picks alone", Check.plain(0, 3).warpShare(), 0.0);
        Check.same("17 no end on top", Check.drawnAndFitted(3, 0, 0).warpShare(), 0.0);
        LoomDraft draft = mixed();
        Check.same("17 mixed", draft.warpShare(), 9.0 / 20);
        draft.setRising(false);
        Check.same("17 mixed, sinking", draft.warpShare(), 11.0 / 20);
        Check.same("17 3 by 3", Check.plain(3, 3).warpShare(), 5.0 / 9);
        LoomDraft full = Check.plain(40, 40);
        Check.same("17 full", full.warpShare(), 0.5);
        full.tie(0, 255);
        full.tie(1, 255);
        Check.same("17 all ends on top", full.warpShare(), 1.0);
    }

    private static void period() {
        LoomDraft draft = new LoomDraft();
        Check.same("18 no ends", draft.period(true), 0);
        Check.same("18 no picks", draft.period(false), 0);
        int[] shafts = {1, 1, 2, 1, 1, 2, 1, 1, 1};
        int[] due = {1, 1, 3, 3, 3, 3, 3, 3, 7};
        for (int end = 0; end < shafts.length; end++) {
            draft.thread(shafts[end], 4);
            draft.tread(shafts[end], 4);
            Check.same("18 ends up to " + end, draft.period(true), due[end]);
            Check.same("18 picks up to " + end, draft.period(false), due[end]);
        }
        LoomDraft colours = new LoomDraft();
        for (int place = 0; place < 6; place++) {
            colours.thread(0, place % 3);
            colours.tread(0, place % 2);
        }
        Check.same("18 ends of other colours", colours.period(true), 3);
        Check.same("18 picks of other colours", colours.period(false), 2);
        LoomDraft full = Check.plain(39, 40);
        Check.same("18 39 ends", full.period(true), 2);
        Check.same("18 40 picks", full.period(false), 2);
        full.thread(0, 0);
        Check.same("18 40 ends", full.period(true), 39);
        full.cut(true, 39);
        full.thread(7, 0);
        Check.same("18 40 ends that do not repeat", full.period(true), 40);
        Check.same("18 one that was cut is not looked at", full.cut(true, 4) * 10 + full.period(true), 362);
    }

    private static void layers() {
        Check.same("19 none", new LoomDraft().layers(), 0);
        Check.same("19 ends alone", Check.plain(40, 0).layers(), 40);
        Check.same("19 picks alone", Check.plain(0, 40).layers(), 40);
        Check.same("19 one end and one pick", Check.plain(1, 1).layers(), 2);
        Check.same("19 plain", Check.plain(2, 2).layers(), 1);
        Check.same("19 plain, full", Check.plain(40, 40).layers(), 1);
        Check.same("19 all ends on top", Check.drawnAndFitted(3, 7, 7).layers(), 5);
        Check.same("19 one end on top of all", Check.drawnAndFitted(3, 1 + 2, 1 + 4).layers(), 2);
        Check.same("19 two cloths on each other", doubleCloth().layers(), 2);
        Check.same("19 a long way round", staircase(8).layers(), 1);
        LoomDraft open = staircase(8);
        open.tie(7, 255);
        Check.same("19 the way is open", open.layers(), 16);
        LoomDraft changed = Check.plain(2, 2);
        Check.same("19 before a change", changed.layers(), 1);
        changed.tie(0, 3);
        changed.tie(1, 3);
        Check.same("19 all ends on top after a change", changed.layers(), 4);
        changed.tie(0, 0);
        changed.tie(1, 0);
        Check.same("19 all picks on top after a change", changed.layers(), 4);
    }

    /** Above plain weave of the shafts 0 and 1 lies plain weave of the shafts 2 and 3. */
    private static LoomDraft doubleCloth() {
        LoomDraft draft = new LoomDraft();
        draft.tie(0, 0b1101);
        draft.tie(1, 0b1110);
        draft.tie(2, 0b0100);
        draft.tie(3, 0b1000);
        Check.threadAll(draft, 0, 2, 1, 3, 0, 2, 1, 3);
        Check.treadAll(draft, 1, 4, 2, 8, 1, 4, 2, 8);
        return draft;
    }

    /** Pick k has the ends 0 to k on top, but the last one just the end with the last number. */
    private static LoomDraft staircase(int steps) {
        LoomDraft draft = new LoomDraft();
        for (int step = 0; step < steps; step++) {
            draft.thread(step, 0);
            draft.tie(step, step == steps - 1 ? 1 << step : (2 << step) - 1);
            draft.tread(1 << step, 0);
        }
        return draft;
    }

    private static void hangsTogether() {
        Check.same("20 none", new LoomDraft().hangsTogether(), false);
        Check.same("20 one end alone", Check.plain(1, 0).hangsTogether(), false);
        Check.same("20 one pick alone", Check.plain(0, 1).hangsTogether(), false);
        Check.same("20 one end and one pick", Check.plain(1, 1).hangsTogether(), false);
        Check.same("20 plain", Check.plain(2, 2).hangsTogether(), true);
        Check.same("20 plain, full", Check.plain(40, 40).hangsTogether(), true);
        Check.same("20 two cloths on each other", doubleCloth().hangsTogether(), false);
        LoomDraft draft = Check.plain(3, 2);
        draft.thread(7, 0);
        Check.same("20 an end below all", draft.hangsTogether(), false);
        draft.setRising(false);
        Check.same("20 an end above all", draft.hangsTogether(), false);
        draft.cut(true, 3);
        Check.same("20 that end is cut off", draft.hangsTogether(), true);
    }

    private static void noColour(LoomDraft draft, int different) {
        for (int bad : new int[] {-1, different, 8, Integer.MIN_VALUE, Integer.MAX_VALUE}) {
            Check.refused("21 index " + bad, draft, INDEX, () -> draft.colourAt(bad));
        }
    }

    private static void colourAt() {
        LoomDraft draft = new LoomDraft();
        noColour(draft, 0);
        draft.tread(0, 7);
        draft.tread(0, 3);
        draft.tread(0, 1);
        draft.tread(0, 7);
        draft.tread(0, 0);
        noColour(draft, 4);
        for (int colour : new int[] {3, 3, 5, 3}) {
            draft.thread(0, colour);
        }
        int[] due = {3, 5, 7, 1, 0};
        for (int index = 0; index < due.length; index++) {
            Check.same("21 colourAt(" + index + ")", draft.colourAt(index), due[index]);
        }
        noColour(draft, 5);
        draft.cut(true, 1);
        Check.same("21 the colour of an end that is cut", draft.colourAt(1), 7);
        noColour(draft, 4);
        LoomDraft full = Check.coloured(40, 40);
        for (int index = 0; index < 8; index++) {
            Check.same("21 full, colourAt(" + index + ")", full.colourAt(index), index);
        }
        noColour(full, 8);
    }

    private static void threadsOf() {
        LoomDraft draft = new LoomDraft();
        for (int colour = 0; colour < 8; colour++) {
            Check.same("22 none", draft.threadsOf(colour), 0);
        }
        draft.thread(0, 7);
        draft.thread(7, 0);
        draft.tread(7, 7);
        draft.tread(5, 3);
        Check.same("22 in warp and weft", draft.threadsOf(7), 2);
        Check.same("22 in the warp", draft.threadsOf(0), 1);
        Check.same("22 in the weft", draft.threadsOf(3), 1);
        Check.same("22 nowhere", draft.threadsOf(5), 0);
        for (int bad : new int[] {-1, 8, Integer.MIN_VALUE, Integer.MAX_VALUE}) {
            Check.refused("22 colour " + bad, draft, INDEX, () -> draft.threadsOf(bad));
        }
        LoomDraft full = Check.coloured(40, 40);
        Check.same("22 full", full.threadsOf(6), 10);
        full.cut(true, 6);
        Check.same("22 those that are cut", full.threadsOf(6), 5);
        LoomDraft one = Check.plain(40, 40);
        Check.same("22 all ends", one.threadsOf(0), 40);
        one.cut(false, 0);
        Check.same("22 the ends of a draft without picks", one.threadsOf(0), 40);
        Check.same("22 no picks", one.threadsOf(1), 0);
    }
}
