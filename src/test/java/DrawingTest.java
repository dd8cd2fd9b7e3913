import java.math.BigInteger;
import java.util.Arrays;
import java.util.Collections;
import java.util.List;
import java.util.function.Supplier;

/** Promises 23 to 27: drawn cloth, and the digest. */
final class DrawingTest {
    private static final Class<?> ARGUMENT = Check.ARGUMENT;
    private static final Class<?> STATE = Check.STATE;
    private static final long ALL = (1L << 40) - 1;
    private static final Supplier<LoomDraft> FILLED = Drafts::filled;

    private DrawingTest() {
    }

    public static void main(String[] args) {
        Check.runAll(DrawingTest.class);
    }

    // ---- Promise 23: draw

    private static void promise23ReturnsTheRowsOfTheDrawingBefore() {
        Check.same("of none", new LoomDraft().draw(3), 0);
        Check.same("of one without rows", Drafts.drawn(3).draw(3), 0);
        Check.same("of one with a row", Drafts.drawn(3, 5).draw(3), 1);
        Check.same("of one with 4 rows", Drafts.filled().draw(3), 4);
        Check.same("of a full one", Drafts.full().draw(3), 40);
    }

    private static void promise23TheNewOneHasNoRows() {
        LoomDraft draft = Drafts.filled();
        draft.draw(3);
        Check.same("fit()", Check.answer(draft::fit), STATE);
        Check.same("differences()", draft.differences(), -1);
        Check.same("row(1)", draft.row(1), 1);
        Check.same("draw(3)", draft.draw(3), 1);
    }

    private static void promise23OneColumnIsTaken() {
        LoomDraft draft = Drafts.filled();
        Check.same("draw(1)", draft.draw(1), 4);
        Check.same("row(2)", Check.answer(() -> draft.row(2)), ARGUMENT);
        Check.same("row(1)", draft.row(1), 1);
    }

    private static void promise23FortyColumnsAreTaken() {
        LoomDraft draft = Drafts.filled();
        Check.same("draw(40)", draft.draw(40), 4);
        Check.same("row of all", draft.row(ALL), 1);
    }

    private static void promise23NoColumnsAreRefused() {
        Check.refusedEverywhere("draw(0)", ARGUMENT, draft -> draft.draw(0));
    }

    private static void promise23FortyOneColumnsAreRefused() {
        Check.refusedEverywhere("draw(41)", ARGUMENT, draft -> draft.draw(41));
    }

    private static void promise23ColumnsFarOutsideAreRefused() {
        for (int columns : new int[] {-1, -40, 64, Integer.MIN_VALUE, Integer.MAX_VALUE}) {
            Check.refused("draw(" + columns + ")", FILLED, ARGUMENT, draft -> draft.draw(columns));
        }
    }

    private static void promise23TheDraftStays() {
        LoomDraft draft = Drafts.filled();
        draft.draw(7);
        Check.same("shafts", Drafts.bindings(draft, true), Drafts.bindings(Drafts.filled(), true));
        Check.same("treadles", Drafts.bindings(draft, false), Drafts.bindings(Drafts.filled(), false));
        Check.same("ties", Drafts.tiesUndone(draft), Drafts.tiesUndone(Drafts.filled()));
        Check.same("the loom", draft.setRising(true), false);
    }

    // ---- Promise 24: row

    private static void promise24ReturnsTheNumberOfRows() {
        LoomDraft draft = Drafts.drawn(3);
        Check.same("the first", draft.row(5), 1);
        Check.same("the second", draft.row(0), 2);
        Check.same("the third", draft.row(7), 3);
    }

    private static void promise24WithoutColumnsItIsRefused() {
        Check.refused("row(0)", LoomDraft::new, STATE, draft -> draft.row(0));
        Check.refused("row(1)", () -> Drafts.plain(3, 3), STATE, draft -> draft.row(1));
    }

    private static void promise24WithoutColumnsBadCellsAreABadState() {
        Check.refused("row(-1)", LoomDraft::new, STATE, draft -> draft.row(-1));
        Check.refused("row(1 << 40)", LoomDraft::new, STATE, draft -> draft.row(1L << 40));
    }

    private static void promise24The40thRowIsTaken() {
        LoomDraft draft = Drafts.drawn(40);
        for (int row = 1; row <= 40; row++) {
            Check.same("row " + row, draft.row(ALL - row), row);
        }
        Check.same("draw(1)", draft.draw(1), 40);
    }

    private static void promise24The41stRowIsRefused() {
        Check.refused("row(0)", Drafts::full, STATE, draft -> draft.row(0));
        Check.refused("row(1)", () -> Drafts.drawn(1, new long[40]), STATE, draft -> draft.row(1));
    }

    private static void promise24A41stRowWithBadCellsIsABadState() {
        Check.refused("row(1 << 40)", Drafts::full, STATE, draft -> draft.row(1L << 40));
        Check.refused("row(-1)", Drafts::full, STATE, draft -> draft.row(-1));
    }

    private static void promise24NoCellsAreTaken() {
        for (int columns = 1; columns <= 40; columns++) {
            Check.same("row(0) of " + columns, Drafts.drawn(columns).row(0), 1);
        }
    }

    private static void promise24TheLastColumnIsTaken() {
        for (int columns = 1; columns <= 40; columns++) {
            Check.same("the last of " + columns, Drafts.drawn(columns).row(1L << columns - 1), 1);
        }
    }

    private static void promise24AllColumnsAreTaken() {
        for (int columns = 1; columns <= 40; columns++) {
            Check.same("all of " + columns, Drafts.drawn(columns).row((1L << columns) - 1), 1);
        }
    }

    private static void promise24TheColumnBehindTheLastIsRefused() {
        for (int columns = 1; columns <= 40; columns++) {
            int last = columns;
            Check.refused("behind " + columns, () -> Drafts.drawn(last), ARGUMENT, draft -> draft.row(1L << last));
            Check.refused("all and behind " + columns, () -> Drafts.drawn(last, 1), ARGUMENT,
                draft -> draft.row((2L << last) - 1));
        }
    }

    private static void promise24CellsFarOutsideAreRefused() {
        long[] bad = {-1, -2, 1L << 31, 1L << 32, 1L << 62, Long.MIN_VALUE, Long.MIN_VALUE + 1, Long.MAX_VALUE, ~7L};
        for (long cells : bad) {
            Check.refused("row(" + cells + ")", () -> Drafts.drawn(3, 5), ARGUMENT, draft -> draft.row(cells));
        }
        for (long cells : new long[] {-1, 1L << 40, 1L << 63, ~ALL, ALL + 2}) {
            Check.refused("row(" + cells + ")", () -> Drafts.drawn(40, 5), ARGUMENT, draft -> draft.row(cells));
        }
    }

    private static void promise24ACellTellsThatTheEndLiesOnTop() {
        LoomDraft draft = Drafts.drawn(3, 0b001, 0b110);
        draft.fit();
        Check.same("(0, 0)", draft.isWarpOnTop(0, 0), true);
        Check.same("(0, 2)", draft.isWarpOnTop(0, 2), false);
        Check.same("(1, 0)", draft.isWarpOnTop(1, 0), false);
        Check.same("(1, 2)", draft.isWarpOnTop(1, 2), true);
    }

    // ---- Promise 25: fit

    /** The columns, from column 0 on, are 11001, 00110, 11001, 11111, 00110 and 00000. */
    private static LoomDraft drawing() {
        return Drafts.drawn(6, 0b001101, 0b001101, 0b011010, 0b011010, 0b001101);
    }

    private static void promise25ReturnsTheNumberOfShafts() {
        Check.same("fit()", drawing().fit(), 4);
        Check.same("fit() of 1 by 1", Drafts.drawn(1, 0).fit(), 1);
        Check.same("fit() of equal columns", Drafts.drawn(5, 0, 31).fit(), 1);
    }

    private static void promise25EqualColumnsGetTheSameShaftInTheOrderInWhichTheyAppear() {
        LoomDraft draft = drawing();
        draft.fit();
        Check.same("shafts", Drafts.bindings(draft, true), List.of(0, 1, 0, 2, 1, 3));
    }

    private static void promise25EqualRowsGetTheSameTreadleInTheOrderInWhichTheyAppear() {
        LoomDraft draft = drawing();
        draft.fit();
        Check.same("treadles", Drafts.bindings(draft, false), List.of(1, 1, 2, 2, 1));
    }

    private static void promise25TheColoursAre0And1() {
        LoomDraft draft = Drafts.filled();
        Check.same("fit()", draft.fit(), 2);
        Check.same("of the ends", Drafts.colours(draft, true), List.of(0, 0, 0));
        Check.same("of the picks", Drafts.colours(draft, false), List.of(1, 1, 1, 1));
    }

    private static void promise25OnARisingLoomTreadlesAreTiedWhereTheRowHasTheEndOnTop() {
        LoomDraft draft = drawing();
        draft.fit();
        Check.same("ties", Drafts.tiesUndone(draft), List.of(0b0101, 0b0110, 0, 0, 0, 0, 0, 0, 0, 0));
    }

    private static void promise25OnASinkingLoomTreadlesAreTiedWhereTheRowHasNot() {
        LoomDraft draft = drawing();
        draft.setRising(false);
        Check.same("fit()", draft.fit(), 4);
        Check.same("differences()", draft.differences(), 0);
        Check.same("ties", Drafts.tiesUndone(draft), List.of(0b1010, 0b1001, 0, 0, 0, 0, 0, 0, 0, 0));
    }

    private static void promise25AllOtherTreadlesAreTiedToNoShafts() {
        LoomDraft draft = Drafts.full();
        Drafts.drawOn(draft, 2, 0b01, 0b10);
        Check.same("fit()", draft.fit(), 2);
        Check.same("ties", Drafts.tiesUndone(draft), List.of(1, 2, 0, 0, 0, 0, 0, 0, 0, 0));
    }

    private static void promise25ItTakesThePlaceOfALongerDraft() {
        LoomDraft draft = Drafts.full();
        Drafts.drawOn(draft, 2, 0b01, 0b10, 0b01);
        draft.fit();
        LoomDraft fresh = Drafts.drawn(2, 0b01, 0b10, 0b01);
        fresh.fit();
        Check.same("as on a new one", Drafts.allThatIsTold(draft), Drafts.allThatIsTold(fresh));
    }

    private static void promise25ItTakesThePlaceOfAShorterDraft() {
        LoomDraft draft = Drafts.plain(1, 1);
        Drafts.drawOn(draft, 40, new long[40]);
        Check.same("fit()", draft.fit(), 1);
        Check.same("ends", Drafts.bindings(draft, true), Collections.nCopies(40, 0));
        Check.same("picks", Drafts.bindings(draft, false), Collections.nCopies(40, 1));
    }

    private static void promise25TheKindOfTheLoomStays() {
        LoomDraft rising = drawing();
        rising.fit();
        Check.same("rising", rising.setRising(true), true);
        LoomDraft sinking = drawing();
        sinking.setRising(false);
        sinking.fit();
        Check.same("sinking", sinking.setRising(true), false);
    }

    private static void promise25TheDrawingStays() {
        LoomDraft draft = drawing();
        draft.fit();
        Check.same("differences()", draft.differences(), 0);
        Check.same("fit() again", draft.fit(), 4);
        Check.same("row(63)", draft.row(63), 6);
        Check.same("row(64)", Check.answer(() -> draft.row(64)), ARGUMENT);
        Check.same("draw(1)", draft.draw(1), 6);
    }

    private static void promise25TheSmallestDrawingIsFitted() {
        for (long cell = 0; cell < 2; cell++) {
            LoomDraft draft = Drafts.drawn(1, cell);
            Check.same("fit()", draft.fit(), 1);
            Check.same("ends", Drafts.bindings(draft, true), List.of(0));
            Check.same("picks", Drafts.bindings(draft, false), List.of(1));
            Check.same("on top", draft.isWarpOnTop(0, 0), cell == 1);
        }
    }

    private static void promise25TheFullDrawingIsFitted() {
        long[] rows = new long[40];
        for (int row = 0; row < 40; row++) {
            rows[row] = row % 3 == 0 ? 0xF0F0F0F0F0L : row % 3 == 1 ? 0xCCCCCCCCCCL : 0xAAAAAAAAAAL;
        }
        LoomDraft draft = Drafts.drawn(40, rows);
        Check.same("fit()", draft.fit(), 8);
        Check.same("count(true)", draft.count(true), 40);
        Check.same("count(false)", draft.count(false), 40);
        Check.same("differences()", draft.differences(), 0);
    }

    private static void promise25WithoutADrawingItIsRefused() {
        Check.refused("fit()", LoomDraft::new, STATE, LoomDraft::fit);
        Check.refused("fit() over a draft", () -> Drafts.plain(3, 3), STATE, LoomDraft::fit);
    }

    private static void promise25WithoutRowsItIsRefused() {
        Check.refused("fit() of 1 column", () -> Drafts.drawn(1), STATE, LoomDraft::fit);
        Check.refused("fit() of 40 columns", () -> Drafts.drawn(40), STATE, LoomDraft::fit);
        Check.refused("fit() over a draft", () -> emptied(Drafts.full()), STATE, LoomDraft::fit);
    }

    private static LoomDraft emptied(LoomDraft draft) {
        draft.draw(5);
        return draft;
    }

    private static void promise25EightShaftsAreFitted() {
        LoomDraft draft = Drafts.drawnWithDifferentColumns(8);
        Check.same("fit()", draft.fit(), 8);
        Check.same("shafts", Drafts.bindings(draft, true), Drafts.upTo(8));
        Check.same("differences()", draft.differences(), 0);
    }

    private static void promise25NineShaftsAreRefused() {
        Check.refused("fit()", () -> Drafts.drawnWithDifferentColumns(9), STATE, LoomDraft::fit);
    }

    private static void promise25FortyShaftsAreRefused() {
        Check.refused("fit()", () -> Drafts.drawnWithDifferentColumns(40), STATE, LoomDraft::fit);
    }

    private static void promise25TenTreadlesAreFitted() {
        LoomDraft draft = Drafts.drawnWithDifferentRows(10);
        Check.same("fit()", draft.fit(), 4);
        Check.same("treadles", Drafts.bindings(draft, false), List.of(1, 2, 4, 8, 16, 32, 64, 128, 256, 512));
        draft.row(9);
        Check.same("fit() of 11 rows", draft.fit(), 4);
        Check.same("the treadle of the last", draft.pick(10, 0), 512);
        Check.same("differences()", draft.differences(), 0);
    }

    private static void promise25ElevenTreadlesAreRefused() {
        Check.refused("fit()", () -> Drafts.drawnWithDifferentRows(11), STATE, LoomDraft::fit);
    }

    private static void promise25FortyTreadlesAreRefused() {
        Check.refused("fit()", DrawingTest::drawnWithFortyDifferentRows, STATE, LoomDraft::fit);
    }

    /** The six columns are different, but not more than six. */
    private static LoomDraft drawnWithFortyDifferentRows() {
        LoomDraft draft = Drafts.drawn(6);
        for (int row = 0; row < 40; row++) {
            draft.row(row);
        }
        return draft;
    }

    private static void promise25NineShaftsAndElevenTreadlesAreRefused() {
        Supplier<LoomDraft> both = () -> Drafts.drawn(9, 1, 2, 4, 8, 16, 32, 64, 128, 256, 257, 258);
        Check.refused("fit()", both, STATE, LoomDraft::fit);
    }

    private static void promise25WhatIsRefusedLeavesTheDraft() {
        Check.refused("fit() of 9 shafts", () -> overAFilledOne(9, 1, 2, 4, 8, 16, 32, 64, 128), STATE, LoomDraft::fit);
        Check.refused("fit() of 11 treadles", () -> overAFilledOne(4, 0, 1, 2, 3, 4, 5, 6, 7, 8, 9, 10), STATE,
            LoomDraft::fit);
    }

    private static LoomDraft overAFilledOne(int columns, long... rows) {
        LoomDraft draft = Drafts.filled();
        Drafts.drawOn(draft, columns, rows);
        return draft;
    }

    // ---- Promise 26: differences

    private static LoomDraft drawnOver(LoomDraft draft, int columns, long... rows) {
        Drafts.drawOn(draft, columns, rows);
        return draft;
    }

    private static void promise26OfTheSameClothItIs0() {
        Check.same("1 by 1", drawnOver(Drafts.plain(1, 1), 1, 1).differences(), 0);
        Check.same("4 by 3", drawnOver(Drafts.plain(4, 3), 4, 0b0101, 0b1010, 0b0101).differences(), 0);
    }

    private static void promise26PlacesThatAreOtherAreCounted() {
        Check.same("the end on top", drawnOver(Drafts.plain(1, 1), 1, 0).differences(), 1);
        Check.same("both ways", drawnOver(Drafts.plain(4, 3), 4, 0b1101, 0b1010, 0b0000).differences(), 3);
        LoomDraft corners = drawnOver(Drafts.plain(4, 3), 4, 0b0100, 0b1010, 0b1101);
        Check.same("the first and last place", corners.differences(), 2);
    }

    private static void promise26TheLastPlacesOfLongAndBroadDrawingsAreCounted() {
        Check.same("1 column, the last of 3 rows", drawnOver(Drafts.plain(1, 3), 1, 1, 0, 0).differences(), 1);
        Check.same("1 row, the last of 3 columns", drawnOver(Drafts.plain(3, 1), 3, 0b001).differences(), 1);
        Check.same("the last of all", drawnOver(Drafts.allPicksOnTop(40, 1), 40, 1L << 39).differences(), 1);
    }

    private static void promise26RowsOfTheDrawingBeforeAreNotCounted() {
        LoomDraft draft = drawnOver(Drafts.allPicksOnTop(5, 4), 5, 31, 31, 31, 31);
        Check.same("4 rows", draft.differences(), 20);
        draft.cut(false, 2);
        Check.same("2 rows", drawnOver(draft, 5, 0, 0).differences(), 0);
    }

    private static void promise26OnASinkingLoomTheOthersAreCounted() {
        LoomDraft draft = drawnOver(Drafts.plain(4, 3), 4, 0b1101, 0b1010, 0b0000);
        draft.setRising(false);
        Check.same("differences()", draft.differences(), 9);
    }

    private static void promise26OfAFullClothItIs0To1600() {
        long[] none = new long[40];
        long[] all = new long[40];
        Arrays.fill(all, ALL);
        Check.same("none and all", drawnOver(Drafts.allPicksOnTop(40, 40), 40, all).differences(), 1600);
        Check.same("all and none", drawnOver(Drafts.allEndsOnTop(40, 40), 40, none).differences(), 1600);
        Check.same("all and all", drawnOver(Drafts.allEndsOnTop(40, 40), 40, all).differences(), 0);
        Check.same("half and none", drawnOver(Drafts.plain(40, 40), 40, none).differences(), 800);
    }

    private static void promise26WithAnEndMoreOrLessItIsMinus1() {
        Check.same("an end more", drawnOver(Drafts.plain(5, 3), 4, 5, 10, 5).differences(), -1);
        Check.same("an end less", drawnOver(Drafts.plain(3, 3), 4, 5, 10, 5).differences(), -1);
        Check.same("no ends", drawnOver(Drafts.plain(0, 3), 4, 5, 10, 5).differences(), -1);
    }

    private static void promise26WithAPickMoreOrLessItIsMinus1() {
        Check.same("a pick more", drawnOver(Drafts.plain(4, 4), 4, 5, 10, 5).differences(), -1);
        Check.same("a pick less", drawnOver(Drafts.plain(4, 2), 4, 5, 10, 5).differences(), -1);
        Check.same("no picks", drawnOver(Drafts.plain(4, 0), 4, 5, 10, 5).differences(), -1);
        Check.same("no rows", drawnOver(Drafts.plain(4, 3), 4).differences(), -1);
    }

    private static void promise26WithBothNumbersChangedForEachOtherItIsMinus1() {
        Check.same("3 by 2 and 2 by 3", drawnOver(Drafts.plain(3, 2), 2, 1, 2, 1).differences(), -1);
    }

    private static void promise26OfAnEmptyDrawingAndAnEmptyDraftItIs0() {
        Check.same("no columns", new LoomDraft().differences(), 0);
        Check.same("as many columns as ends", drawnOver(Drafts.plain(7, 0), 7).differences(), 0);
    }

    private static void promise26OfAnEmptyDrawingAndThreadsItIsMinus1() {
        Check.same("an end", Drafts.plain(1, 0).differences(), -1);
        Check.same("a pick", Drafts.plain(0, 1).differences(), -1);
        Check.same("a column without an end", Drafts.drawn(1).differences(), -1);
    }

    // ---- Promise 27: digest

    /** The sum as the document tells it, without a bound, and wrapped round at its end. */
    private static long wrapped(long... numbers) {
        return whole(numbers).longValue();
    }

    private static BigInteger whole(long... numbers) {
        BigInteger d = BigInteger.valueOf(241);
        for (long x : numbers) {
            d = d.multiply(BigInteger.valueOf(31)).add(BigInteger.valueOf(x));
        }
        return d;
    }

    private static void promise27OfANewObject() {
        Check.same("rising", new LoomDraft().digest(), 2670505999322663216L);
        LoomDraft sinking = new LoomDraft();
        sinking.setRising(false);
        Check.same("sinking", sinking.digest(), 2043077800617959151L);
        Check.same("sinking, told by the sum", sinking.digest(), wrapped(new long[15]));
    }

    private static void promise27ItWrapsAround() {
        BigInteger whole = whole(1, 0, 0, 0, 0, 0, 0, 0, 0, 0, 0, 0, 0, 0, 0);
        Check.same("the sum has more than 64 bits", whole.bitLength() > 64, true);
        Check.same("digest()", new LoomDraft().digest(), whole.longValue());
    }

    private static void promise27ItWrapsAroundToBothSigns() {
        boolean[] seen = new boolean[2];
        for (int shafts = 0; shafts < 256; shafts++) {
            LoomDraft draft = Drafts.drawn(40, ALL);
            draft.tie(0, shafts);
            long due = wrapped(1, shafts, 0, 0, 0, 0, 0, 0, 0, 0, 0, 0, 0, 40, 1, ALL);
            Check.same("digest()", draft.digest(), due);
            seen[due < 0 ? 1 : 0] = true;
        }
        Check.same("numbers from 0 on", seen[0], true);
        Check.same("numbers below 0", seen[1], true);
    }

    private static LoomDraft withSomethingOfAll() {
        LoomDraft draft = Drafts.drawn(40, ALL, 1L << 39);
        draft.setRising(false);
        for (int treadle = 0; treadle < 10; treadle++) {
            draft.tie(treadle, 11 + treadle);
        }
        draft.thread(7, 2);
        draft.thread(1, 6);
        draft.tread(1023, 5);
        draft.tread(12, 0);
        draft.tread(77, 3);
        return draft;
    }

    private static void promise27AllNumbersInTheirOrder() {
        Check.same("digest()", withSomethingOfAll().digest(), wrapped(0, 11, 12, 13, 14, 15, 16, 17, 18, 19, 20,
            2, 7, 2, 1, 6, 3, 1023, 5, 12, 0, 77, 3, 40, 2, ALL, 1L << 39));
    }

    private static void promise27ItChangesNothing() {
        LoomDraft draft = withSomethingOfAll();
        long first = draft.digest();
        Check.same("digest() again", draft.digest(), first);
        Check.same("all else", Drafts.allThatIsTold(draft), Drafts.allThatIsTold(withSomethingOfAll()));
    }

    private static void promise27WhatIsGoneIsNotLookedAt() {
        LoomDraft draft = withSomethingOfAll();
        draft.cut(true, 1);
        draft.cut(false, 0);
        draft.draw(3);
        Check.same("digest()", draft.digest(), wrapped(0, 11, 12, 13, 14, 15, 16, 17, 18, 19, 20,
            1, 7, 2, 0, 3, 0));
    }

    private static void promise27OfFullRowsAndAFullDrawing() {
        long[] numbers = new long[11 + 81 + 81 + 42];
        int at = 0;
        numbers[at++] = 1;
        for (int treadle = 0; treadle < 10; treadle++) {
            numbers[at++] = (37 * treadle + 9) % 256;
        }
        numbers[at++] = 40;
        for (int end = 0; end < 40; end++) {
            numbers[at++] = end % 8;
            numbers[at++] = end / 8;
        }
        numbers[at++] = 40;
        for (int pick = 0; pick < 40; pick++) {
            numbers[at++] = pick;
            numbers[at++] = pick % 7;
        }
        numbers[at++] = 40;
        numbers[at++] = 40;
        for (int row = 0; row < 40; row++) {
            numbers[at++] = 0xC3A50F965AL >>> row % 3;
        }
        Check.same("digest()", Drafts.full().digest(), wrapped(numbers));
    }
}
