import java.util.ArrayList;
import java.util.Collections;
import java.util.List;

/** Promises 9 to 12: changes of the rows of ends and of picks. */
final class ChangesTest {
    private static final Class<?> ARGUMENT = Check.ARGUMENT;
    private static final Class<?> STATE = Check.STATE;
    private static final boolean[] BOTH = Check.BOTH;
    private static final int[] FAR = {-2, -40, 42, 80, Integer.MIN_VALUE, Integer.MAX_VALUE};

    private ChangesTest() {
    }

    public static void main(String[] args) {
        Check.runAll(ChangesTest.class);
    }

    /** A row of so many, and a row of three of the other kind. */
    private static LoomDraft row(boolean isWarp, int length) {
        return isWarp ? Drafts.numbered(length, 3) : Drafts.numbered(3, length);
    }

    /** The row has come into this order, and the other one stays as it was. */
    private static void stands(String call, LoomDraft draft, boolean isWarp, List<Integer> order) {
        Check.same(call + ", the order then", Drafts.order(draft, isWarp), order);
        Check.same(call + ", the other row", Drafts.order(draft, !isWarp), Drafts.upTo(3));
    }

    // ---- Promise 9: reverse

    private static void turns(int length, List<Integer> order) {
        for (boolean isWarp : BOTH) {
            String call = "reverse(" + isWarp + ") of " + length;
            LoomDraft draft = row(isWarp, length);
            Check.same(call, draft.reverse(isWarp), length);
            stands(call, draft, isWarp, order);
        }
    }

    private static void promise09AnEmptyRowStaysEmpty() {
        turns(0, List.of());
    }

    private static void promise09OneAloneStays() {
        turns(1, List.of(0));
    }

    private static void promise09TwoChangePlaces() {
        turns(2, List.of(1, 0));
    }

    private static void promise09TheMiddleOfAnOddRowStays() {
        turns(5, List.of(4, 3, 2, 1, 0));
    }

    private static void promise09AnEvenRowIsTurned() {
        turns(6, List.of(5, 4, 3, 2, 1, 0));
    }

    private static void promise09AFullRowIsTurned() {
        List<Integer> order = new ArrayList<>(Drafts.upTo(40));
        Collections.reverse(order);
        turns(40, order);
    }

    private static void promise09TurnedTwiceItIsAsBefore() {
        for (boolean isWarp : BOTH) {
            LoomDraft draft = Drafts.full();
            draft.reverse(isWarp);
            draft.reverse(isWarp);
            Check.same("digest", draft.digest(), Drafts.full().digest());
        }
    }

    // ---- Promise 10: rotate

    /** One place after the other: the last one comes to the beginning. */
    private static List<Integer> movedOn(int length, int places) {
        List<Integer> order = new ArrayList<>(Drafts.upTo(length));
        for (int place = 0; place < places && length > 0; place++) {
            order.add(0, order.remove(length - 1));
        }
        return order;
    }

    private static void movesOn(int length, int places, List<Integer> order) {
        for (boolean isWarp : BOTH) {
            String call = "rotate(" + isWarp + ", " + places + ") of " + length;
            LoomDraft draft = row(isWarp, length);
            Check.same(call, draft.rotate(isWarp, places), length);
            stands(call, draft, isWarp, order);
        }
    }

    private static void promise10By0AllStay() {
        movesOn(5, 0, List.of(0, 1, 2, 3, 4));
        movesOn(40, 0, Drafts.upTo(40));
    }

    private static void promise10By1TheLastComesToTheBeginning() {
        movesOn(5, 1, List.of(4, 0, 1, 2, 3));
    }

    private static void promise10BySomePlacesWhatIsBeyondTheEndComesToTheBeginning() {
        movesOn(5, 3, List.of(2, 3, 4, 0, 1));
    }

    private static void promise10ByOneLessThanTheRowTheFirstComesToTheEnd() {
        movesOn(5, 4, List.of(1, 2, 3, 4, 0));
    }

    private static void promise10ByTheLengthOfTheRowAllStay() {
        movesOn(1, 1, List.of(0));
        movesOn(2, 2, List.of(0, 1));
        movesOn(5, 5, List.of(0, 1, 2, 3, 4));
    }

    private static void promise10ByOneMoreThanTheRowItIsAsBy1() {
        movesOn(5, 6, List.of(4, 0, 1, 2, 3));
        movesOn(39, 40, movedOn(39, 1));
    }

    private static void promise10By40ShortRowsComeRoundOftenEnough() {
        movesOn(3, 40, List.of(2, 0, 1));
        movesOn(7, 40, List.of(2, 3, 4, 5, 6, 0, 1));
        movesOn(8, 40, List.of(0, 1, 2, 3, 4, 5, 6, 7));
    }

    private static void promise10OneAloneStays() {
        movesOn(1, 0, List.of(0));
        movesOn(1, 39, List.of(0));
        movesOn(1, 40, List.of(0));
    }

    private static void promise10AFullRowComesRoundBy40() {
        movesOn(40, 1, movedOn(40, 1));
        movesOn(40, 39, movedOn(40, 39));
        movesOn(40, 40, Drafts.upTo(40));
    }

    private static void promise10AllLengthsByAllPlaces() {
        for (int length = 0; length <= 40; length++) {
            for (int places = 0; places <= 40; places++) {
                movesOn(length, places, movedOn(length, places));
            }
        }
    }

    private static void promise10AnEmptyRowStaysEmpty() {
        movesOn(0, 0, List.of());
        movesOn(0, 1, List.of());
        movesOn(0, 40, List.of());
    }

    private static void promise10ByMinus1IsRefused() {
        for (boolean isWarp : BOTH) {
            Check.refusedEverywhere("rotate(" + isWarp + ", -1)", ARGUMENT, draft -> draft.rotate(isWarp, -1));
        }
    }

    private static void promise10By41IsRefused() {
        for (boolean isWarp : BOTH) {
            Check.refusedEverywhere("rotate(" + isWarp + ", 41)", ARGUMENT, draft -> draft.rotate(isWarp, 41));
        }
    }

    private static void promise10ByFarTooManyIsRefused() {
        for (boolean isWarp : BOTH) {
            for (int places : FAR) {
                Check.refused("rotate(" + isWarp + ", " + places + ")", Drafts::filled, ARGUMENT,
                    draft -> draft.rotate(isWarp, places));
            }
        }
    }

    // ---- Promise 11: repeat

    private static void repeats(int length) {
        for (boolean isWarp : BOTH) {
            String call = "repeat(" + isWarp + ") of " + length;
            LoomDraft draft = row(isWarp, length);
            List<Integer> order = new ArrayList<>(Drafts.upTo(length));
            order.addAll(Drafts.upTo(length));
            Check.same(call, draft.repeat(isWarp), 2 * length);
            stands(call, draft, isWarp, order);
        }
    }

    private static void doesNotRepeat(int length) {
        for (boolean isWarp : BOTH) {
            Check.refused("repeat(" + isWarp + ") of " + length, () -> row(isWarp, length), STATE,
                draft -> draft.repeat(isWarp));
        }
    }

    private static void promise11AnEmptyRowStaysEmpty() {
        repeats(0);
    }

    private static void promise11OneAloneIsTwoThen() {
        repeats(1);
    }

    private static void promise11TheCopyStandsBehind() {
        repeats(3);
    }

    private static void promise11ARowOf20IsFullThen() {
        repeats(20);
    }

    private static void promise11ARowOf21IsRefused() {
        doesNotRepeat(21);
    }

    private static void promise11AFullRowIsRefused() {
        doesNotRepeat(39);
        doesNotRepeat(40);
    }

    private static void promise11AFullRowOfTheOthersDoesNotHinder() {
        LoomDraft ends = Drafts.numbered(20, 40);
        Check.same("repeat(true) beside 40 picks", ends.repeat(true), 40);
        LoomDraft picks = Drafts.numbered(40, 20);
        Check.same("repeat(false) beside 40 ends", picks.repeat(false), 40);
    }

    private static void promise11TillItIsRefused() {
        for (boolean isWarp : BOTH) {
            LoomDraft draft = row(isWarp, 5);
            Check.same("5", draft.repeat(isWarp), 10);
            Check.same("10", draft.repeat(isWarp), 20);
            Check.same("20", draft.repeat(isWarp), 40);
            Check.same("40", Check.answer(() -> draft.repeat(isWarp)), STATE);
            Check.same("40, period", draft.period(isWarp), 5);
        }
    }

    // ---- Promise 12: cut

    private static void cuts(int length, int left) {
        for (boolean isWarp : BOTH) {
            String call = "cut(" + isWarp + ", " + left + ") of " + length;
            LoomDraft draft = row(isWarp, length);
            Check.same(call, draft.cut(isWarp, left), length - left);
            stands(call, draft, isWarp, Drafts.upTo(left));
        }
    }

    private static void doesNotCut(int length, int left) {
        for (boolean isWarp : BOTH) {
            Check.refused("cut(" + isWarp + ", " + left + ") of " + length, () -> row(isWarp, length), ARGUMENT,
                draft -> draft.cut(isWarp, left));
        }
    }

    private static void promise12ThoseFromTheFirstOnAreLeft() {
        cuts(5, 2);
    }

    private static void promise12NoneAreLeft() {
        cuts(1, 0);
        cuts(5, 0);
        cuts(40, 0);
    }

    private static void promise12OneIsLeft() {
        cuts(5, 1);
        cuts(40, 1);
    }

    private static void promise12OneIsGone() {
        cuts(5, 4);
        cuts(40, 39);
    }

    private static void promise12AllAreLeft() {
        cuts(1, 1);
        cuts(5, 5);
        cuts(40, 40);
    }

    private static void promise12OneMoreThanThereAreIsRefused() {
        doesNotCut(1, 2);
        doesNotCut(2, 3);
        doesNotCut(5, 6);
        doesNotCut(40, 41);
    }

    private static void promise12Minus1IsRefused() {
        doesNotCut(1, -1);
        doesNotCut(5, -1);
        doesNotCut(40, -1);
    }

    private static void promise12FarOutsideIsRefused() {
        for (int left : FAR) {
            doesNotCut(5, left);
            doesNotCut(40, left);
        }
    }

    private static void promise12AnEmptyRowIsCutTo0() {
        cuts(0, 0);
    }

    private static void promise12AnEmptyRowIsNotCutTo1() {
        doesNotCut(0, 1);
        doesNotCut(0, -1);
        doesNotCut(0, 3);
    }

    private static void promise12WhatComesThenStandsBehindTheLeft() {
        LoomDraft draft = Drafts.numbered(5, 5);
        draft.cut(true, 2);
        draft.cut(false, 1);
        Check.same("thread", draft.thread(4, 0), 2);
        Check.same("tread", draft.tread(6, 6), 1);
        Check.same("ends", Drafts.order(draft, true), List.of(0, 1, 4));
        Check.same("picks", Drafts.order(draft, false), List.of(0, 6));
    }
}
