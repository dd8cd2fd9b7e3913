import java.util.ArrayList;
import java.util.List;
import java.util.stream.IntStream;

/** Drafts that several tests begin with, and what they tell. */
final class Drafts {
    private Drafts() {
    }

    /** Plain weave: shafts 0 and 1 in turn, each on a treadle of its own. */
    static LoomDraft plain(int ends, int picks) {
        LoomDraft draft = new LoomDraft();
        draft.tie(0, 1);
        draft.tie(1, 2);
        for (int end = 0; end < ends; end++) {
            draft.thread(end % 2, 0);
        }
        for (int pick = 0; pick < picks; pick++) {
            draft.tread(1 << pick % 2, 1);
        }
        return draft;
    }

    /** All ends lie on top of all picks. */
    static LoomDraft allEndsOnTop(int ends, int picks) {
        LoomDraft draft = plain(ends, picks);
        draft.tie(0, 3);
        draft.tie(1, 3);
        return draft;
    }

    /** All picks lie on top of all ends. */
    static LoomDraft allPicksOnTop(int ends, int picks) {
        LoomDraft draft = plain(ends, picks);
        draft.tie(0, 0);
        draft.tie(1, 0);
        return draft;
    }

    /**
     * A cloth that is told by its picks, each with 1 for an end on top and 0 for the pick on top. End k is on
     * shaft k, so there are at most 8; pick k has treadle k alone, so there are at most 10.
     */
    static LoomDraft woven(String... picks) {
        LoomDraft draft = new LoomDraft();
        for (int end = 0; end < picks[0].length(); end++) {
            draft.thread(end, 0);
        }
        for (int pick = 0; pick < picks.length; pick++) {
            draft.tie(pick, (int) cells(picks[pick]));
            draft.tread(1 << pick, 1);
        }
        return draft;
    }

    /** The set of the places of 1 in a text. */
    static long cells(String text) {
        long cells = 0;
        for (int place = 0; place < text.length(); place++) {
            cells |= text.charAt(place) == '1' ? 1L << place : 0;
        }
        return cells;
    }

    /** So many ends and picks that no two are equal, in an order that order() tells as 0, 1, 2 .. */
    static LoomDraft numbered(int ends, int picks) {
        LoomDraft draft = new LoomDraft();
        for (int end = 0; end < ends; end++) {
            draft.thread(end % 8, end / 8);
        }
        for (int pick = 0; pick < picks; pick++) {
            draft.tread(pick, pick % 7);
        }
        return draft;
    }

    /** Where the ends or the picks of a numbered draft stood at first; -1 for what stood nowhere. */
    static List<Integer> order(LoomDraft draft, boolean isWarp) {
        List<Integer> order = new ArrayList<>();
        for (int place = 0; place < draft.count(isWarp); place++) {
            if (isWarp) {
                order.add(draft.end(place, 0) + 8 * draft.end(place, 1));
            } else {
                int pick = draft.pick(place, 0);
                order.add(draft.pick(place, 1) == pick % 7 ? pick : -1);
            }
        }
        return order;
    }

    static List<Integer> upTo(int length) {
        return IntStream.range(0, length).boxed().toList();
    }

    /** The shafts of the ends or the sets of treadles of the picks. */
    static List<Integer> bindings(LoomDraft draft, boolean isWarp) {
        return IntStream.range(0, draft.count(isWarp)).map(place -> binding(draft, isWarp, place)).boxed().toList();
    }

    private static int binding(LoomDraft draft, boolean isWarp, int place) {
        return isWarp ? draft.end(place, 0) : draft.pick(place, 0);
    }

    static List<Integer> colours(LoomDraft draft, boolean isWarp) {
        return IntStream.range(0, draft.count(isWarp)).map(place -> colour(draft, isWarp, place)).boxed().toList();
    }

    private static int colour(LoomDraft draft, boolean isWarp, int place) {
        return isWarp ? draft.end(place, 1) : draft.pick(place, 1);
    }

    /** The sets of shafts to which the treadles are tied; it unties them. */
    static List<Integer> tiesUndone(LoomDraft draft) {
        return IntStream.range(0, 10).map(treadle -> draft.tie(treadle, 0)).boxed().toList();
    }

    /** A new draft with a drawing of so many columns and these rows. */
    static LoomDraft drawn(int columns, long... rows) {
        LoomDraft draft = new LoomDraft();
        drawOn(draft, columns, rows);
        return draft;
    }

    static void drawOn(LoomDraft draft, int columns, long... rows) {
        draft.draw(columns);
        for (long cells : rows) {
            draft.row(cells);
        }
    }

    /** A drawing of six rows in which each of so many columns, at most 40, is another one. */
    static LoomDraft drawnWithDifferentColumns(int columns) {
        LoomDraft draft = new LoomDraft();
        draft.draw(columns);
        for (int bit = 1; bit < 64; bit *= 2) {
            long cells = 0;
            for (int column = 0; column < columns; column++) {
                cells |= (column & bit) != 0 ? 1L << column : 0;
            }
            draft.row(cells);
        }
        return draft;
    }

    /** A drawing of four columns in which each of so many rows, at most 16, is another one. */
    static LoomDraft drawnWithDifferentRows(int rows) {
        LoomDraft draft = new LoomDraft();
        draft.draw(4);
        for (int row = 0; row < rows; row++) {
            draft.row(row);
        }
        return draft;
    }

    /** A sinking loom with all treadles tied, 3 ends, 4 picks, and a drawing of 3 columns and 4 rows. */
    static LoomDraft filled() {
        LoomDraft draft = drawn(3, 5, 2, 7, 0);
        tieAll(draft);
        draft.setRising(false);
        draft.thread(0, 3);
        draft.thread(5, 1);
        draft.thread(7, 3);
        draft.tread(1, 5);
        draft.tread(514, 6);
        draft.tread(0, 7);
        draft.tread(1023, 3);
        return draft;
    }

    /** A rising loom with all treadles tied, 40 ends, 40 picks, and a drawing of 40 columns and 40 rows. */
    static LoomDraft full() {
        LoomDraft draft = numbered(40, 40);
        tieAll(draft);
        draft.draw(40);
        for (int row = 0; row < 40; row++) {
            draft.row(0xC3A50F965AL >>> row % 3);
        }
        return draft;
    }

    private static void tieAll(LoomDraft draft) {
        for (int treadle = 0; treadle < 10; treadle++) {
            draft.tie(treadle, (37 * treadle + 9) % 256);
        }
    }

    /** Some 250 answers that tell all that a draft holds; the draft is not what it was then. */
    static List<Object> allThatIsTold(LoomDraft draft) {
        List<Object> told = new ArrayList<>();
        told.add(draft.digest());
        for (boolean isWarp : Check.BOTH) {
            told.add(bindings(draft, isWarp));
            told.add(colours(draft, isWarp));
            told.add(draft.period(isWarp));
            told.add(draft.floats(isWarp, 1));
            told.add(draft.floats(isWarp, 2));
            told.add(draft.longestFloat(isWarp, true));
            told.add(draft.longestFloat(isWarp, false));
        }
        for (int pick = 0; pick < draft.count(false); pick++) {
            told.add(draft.pick(pick, 2));
        }
        told.add(draft.warpShare());
        told.add(draft.layers());
        told.add(draft.hangsTogether());
        told.add(draft.differences());
        told.add(draft.setRising(true));
        told.add(tiesUndone(draft));
        told.add(Check.answer(draft::fit));
        told.add(draft.digest());
        told.add(draft.draw(1));
        return told;
    }
}
