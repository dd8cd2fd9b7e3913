import java.util.List;

/** Promises 13 to 22: the cloth. */
final class ClothTest {
    private static final Class<?> ARGUMENT = Check.ARGUMENT;
    private static final Class<?> INDEX = Check.INDEX;
    private static final boolean[] BOTH = Check.BOTH;
    private static final int[] FAR = {-2, -40, 41, 80, Integer.MIN_VALUE, Integer.MAX_VALUE};

    private ClothTest() {
    }

    public static void main(String[] args) {
        Check.runAll(ClothTest.class);
    }

    /** The picks are 10011, 01100, 00000 and 11011, with 1 for an end on top. */
    private static LoomDraft mixed() {
        LoomDraft draft = new LoomDraft();
        draft.tie(0, 0b10000001);
        draft.tie(1, 0b00000010);
        draft.tie(9, 0b00000110);
        draft.tie(4, 0b11111111);
        for (int shaft : new int[] {0, 1, 2, 7, 0}) {
            draft.thread(shaft, 0);
        }
        for (int treadles : new int[] {1, 2 + 512, 0, 3}) {
            draft.tread(treadles, 1);
        }
        return draft;
    }

    private static LoomDraft sinking(LoomDraft draft) {
        draft.setRising(false);
        return draft;
    }

    // ---- Promise 13: isWarpOnTop

    private static void promise13OnARisingLoomEndsWhoseShaftIsMovedLieOnTop() {
        looksLike(mixed(), "10011", "01100", "00000", "11011");
    }

    private static void promise13OnASinkingLoomEndsWhoseShaftIsNotMovedLieOnTop() {
        looksLike(sinking(mixed()), "01100", "10011", "11111", "00100");
    }

    private static void looksLike(LoomDraft draft, String... picks) {
        for (int pick = 0; pick < picks.length; pick++) {
            StringBuilder top = new StringBuilder();
            for (int end = 0; end < picks[pick].length(); end++) {
                top.append(draft.isWarpOnTop(pick, end) ? 1 : 0);
            }
            Check.same("pick " + pick, top.toString(), picks[pick]);
        }
    }

    private static void promise13TheLastPickAndEndAreThere() {
        Check.same("(3, 4) of 4 and 5", mixed().isWarpOnTop(3, 4), true);
        Check.same("(39, 39) of 40 and 40", Drafts.plain(40, 40).isWarpOnTop(39, 39), true);
        Check.same("(39, 38) of 40 and 40", Drafts.plain(40, 40).isWarpOnTop(39, 38), false);
        Check.same("(38, 39) of 40 and 40", Drafts.plain(40, 40).isWarpOnTop(38, 39), false);
    }

    private static void promise13ThePickBehindTheLastIsRefused() {
        Check.refused("(4, 0) of 4 and 5", ClothTest::mixed, INDEX, draft -> draft.isWarpOnTop(4, 0));
        Check.refused("(40, 0) of 40 and 40", Drafts::full, INDEX, draft -> draft.isWarpOnTop(40, 0));
    }

    private static void promise13TheEndBehindTheLastIsRefused() {
        Check.refused("(0, 5) of 4 and 5", ClothTest::mixed, INDEX, draft -> draft.isWarpOnTop(0, 5));
        Check.refused("(0, 40) of 40 and 40", Drafts::full, INDEX, draft -> draft.isWarpOnTop(0, 40));
    }

    private static void promise13PickMinus1IsRefused() {
        Check.refusedEverywhere("(-1, 0)", INDEX, draft -> draft.isWarpOnTop(-1, 0));
    }

    private static void promise13EndMinus1IsRefused() {
        Check.refusedEverywhere("(0, -1)", INDEX, draft -> draft.isWarpOnTop(0, -1));
    }

    private static void promise13FarOutsideIsRefused() {
        for (int far : FAR) {
            Check.refused("(" + far + ", 0)", Drafts::full, INDEX, draft -> draft.isWarpOnTop(far, 0));
            Check.refused("(0, " + far + ")", Drafts::full, INDEX, draft -> draft.isWarpOnTop(0, far));
        }
    }

    private static void promise13EmptyRowsHaveNoPlaces() {
        Check.refused("(0, 0) of a new one", LoomDraft::new, INDEX, draft -> draft.isWarpOnTop(0, 0));
        Check.refused("(0, 0) of 3 ends", () -> Drafts.plain(3, 0), INDEX, draft -> draft.isWarpOnTop(0, 0));
        Check.refused("(0, 0) of 3 picks", () -> Drafts.plain(0, 3), INDEX, draft -> draft.isWarpOnTop(0, 0));
    }

    // ---- Promise 14: colour

    /** Ends of the colours 3 and 7, picks of 5 and 6; end 0 lies on top of pick 0. */
    private static LoomDraft dyed() {
        LoomDraft draft = new LoomDraft();
        draft.tie(0, 1);
        draft.thread(0, 3);
        draft.thread(1, 7);
        draft.tread(1, 5);
        draft.tread(0, 6);
        return draft;
    }

    private static void promise14WhereAnEndLiesOnTopItIsItsColour() {
        Check.same("rising", dyed().colour(0, 0), 3);
        Check.same("sinking, end 1 on pick 0", sinking(dyed()).colour(0, 1), 7);
        Check.same("sinking, end 0 on pick 1", sinking(dyed()).colour(1, 0), 3);
    }

    private static void promise14WhereNoEndLiesOnTopItIsThePicksColour() {
        Check.same("rising, pick 0", dyed().colour(0, 1), 5);
        Check.same("rising, pick 1", dyed().colour(1, 0), 6);
        Check.same("sinking, pick 0", sinking(dyed()).colour(0, 0), 5);
    }

    private static void promise14Colours0And7AreTold() {
        LoomDraft draft = Drafts.plain(1, 0);
        draft.thread(1, 7);
        draft.tread(2, 0);
        Check.same("7 of an end", draft.colour(0, 1), 7);
        Check.same("0 of a pick", draft.colour(0, 0), 0);
    }

    private static void promise14TheLastPickAndEndAreThere() {
        Check.same("(1, 1) of 2 and 2", dyed().colour(1, 1), 6);
        Check.same("(39, 39) of 40 and 40", Drafts.plain(40, 40).colour(39, 39), 0);
        Check.same("(39, 38) of 40 and 40", Drafts.plain(40, 40).colour(39, 38), 1);
    }

    private static void promise14ThePickBehindTheLastIsRefused() {
        Check.refused("(2, 0) of 2 and 2", ClothTest::dyed, INDEX, draft -> draft.colour(2, 0));
        Check.refused("(40, 0) of 40 and 40", Drafts::full, INDEX, draft -> draft.colour(40, 0));
    }

    private static void promise14TheEndBehindTheLastIsRefused() {
        Check.refused("(0, 2) of 2 and 2", ClothTest::dyed, INDEX, draft -> draft.colour(0, 2));
        Check.refused("(0, 40) of 40 and 40", Drafts::full, INDEX, draft -> draft.colour(0, 40));
    }

    private static void promise14PickMinus1IsRefused() {
        Check.refusedEverywhere("(-1, 0)", INDEX, draft -> draft.colour(-1, 0));
    }

    private static void promise14EndMinus1IsRefused() {
        Check.refusedEverywhere("(0, -1)", INDEX, draft -> draft.colour(0, -1));
    }

    private static void promise14FarOutsideIsRefused() {
        for (int far : FAR) {
            Check.refused("(" + far + ", 0)", Drafts::full, INDEX, draft -> draft.colour(far, 0));
            Check.refused("(0, " + far + ")", Drafts::full, INDEX, draft -> draft.colour(0, far));
        }
    }

    private static void promise14EmptyRowsHaveNoPlaces() {
        Check.refused("(0, 0) of a new one", LoomDraft::new, INDEX, draft -> draft.colour(0, 0));
        Check.refused("(0, 0) of 3 ends", () -> Drafts.plain(3, 0), INDEX, draft -> draft.colour(0, 0));
        Check.refused("(0, 0) of 3 picks", () -> Drafts.plain(0, 3), INDEX, draft -> draft.colour(0, 0));
    }

    // ---- Promise 15: longestFloat

    private static void longest(LoomDraft draft, int warp, int weft, int warpBack, int weftBack) {
        Check.same("longestFloat(true, true)", draft.longestFloat(true, true), warp);
        Check.same("longestFloat(false, true)", draft.longestFloat(false, true), weft);
        Check.same("longestFloat(true, false)", draft.longestFloat(true, false), warpBack);
        Check.same("longestFloat(false, false)", draft.longestFloat(false, false), weftBack);
    }

    private static void promise15WithoutEndsAndPicksItIs0() {
        longest(new LoomDraft(), 0, 0, 0, 0);
    }

    private static void promise15WithoutPicksItIs0() {
        longest(Drafts.plain(5, 0), 0, 0, 0, 0);
        longest(Drafts.plain(40, 0), 0, 0, 0, 0);
    }

    private static void promise15WithoutEndsItIs0() {
        longest(Drafts.plain(0, 5), 0, 0, 0, 0);
        longest(Drafts.plain(0, 40), 0, 0, 0, 0);
    }

    private static void promise15OfPlainWeaveItIs1() {
        longest(Drafts.plain(1, 1), 1, 0, 0, 1);
        longest(Drafts.plain(40, 40), 1, 1, 1, 1);
    }

    private static void promise15WhereNoThreadsOfTheKindLieThereItIs0() {
        longest(Drafts.allEndsOnTop(3, 5), 5, 0, 0, 3);
        longest(Drafts.allPicksOnTop(3, 5), 0, 3, 5, 0);
    }

    private static void promise15OverTheWholeOfAFullClothItIs40() {
        longest(Drafts.allEndsOnTop(40, 40), 40, 0, 0, 40);
        longest(Drafts.allPicksOnTop(40, 40), 0, 40, 40, 0);
        longest(sinking(Drafts.allPicksOnTop(40, 40)), 40, 0, 0, 40);
    }

    private static void promise15OneShortOfTheWholeOfAFullClothItIs39() {
        LoomDraft ends = Drafts.allEndsOnTop(40, 39);
        ends.tread(0, 0);
        Check.same("ends, but for the last pick", ends.longestFloat(true, true), 39);
        ends.rotate(false, 1);
        Check.same("ends, but for the first pick", ends.longestFloat(true, true), 39);
        LoomDraft picks = Drafts.allPicksOnTop(39, 40);
        picks.tie(0, 4);
        picks.tie(1, 4);
        picks.thread(2, 0);
        Check.same("picks, but for the last end", picks.longestFloat(false, true), 39);
        picks.rotate(true, 1);
        Check.same("picks, but for the first end", picks.longestFloat(false, true), 39);
    }

    private static void promise15TheLongestOfSeveralIsTold() {
        longest(mixed(), 1, 5, 2, 2);
        longest(Drafts.woven("0110111", "0110111"), 2, 1, 2, 3);
        longest(Drafts.woven("1110110", "1110110"), 2, 1, 2, 3);
        longest(Drafts.woven("10", "10", "01", "10", "10", "10"), 3, 1, 3, 1);
    }

    private static void promise15OnASinkingLoomFrontAndBackChange() {
        longest(sinking(mixed()), 2, 2, 1, 5);
    }

    // ---- Promise 16: floats

    private static void promise16FloatsOfAtLeastTheLengthAreCounted() {
        LoomDraft draft = Drafts.woven("0001011", "0001011", "1001011");
        int[] ends = {4, 3, 3};
        int[] picks = {6, 3, 2};
        for (int length = 1; length <= 3; length++) {
            Check.same("floats(true, " + length + ")", draft.floats(true, length), ends[length - 1]);
            Check.same("floats(false, " + length + ")", draft.floats(false, length), picks[length - 1]);
        }
    }

    private static void promise16JustAsLongIsCountedAndOneLongerIsNot() {
        LoomDraft draft = Drafts.allEndsOnTop(3, 5);
        Check.same("floats(true, 5)", draft.floats(true, 5), 3);
        Check.same("floats(true, 6)", draft.floats(true, 6), 0);
        LoomDraft other = Drafts.allPicksOnTop(3, 5);
        Check.same("floats(false, 3)", other.floats(false, 3), 5);
        Check.same("floats(false, 4)", other.floats(false, 4), 0);
    }

    private static void promise16ThoseOnTheBackAreNotCounted() {
        Check.same("ends", Drafts.allPicksOnTop(3, 5).floats(true, 1), 0);
        Check.same("picks", Drafts.allEndsOnTop(3, 5).floats(false, 1), 0);
    }

    private static void promise16SeveralFloatsOfOneThreadAreCounted() {
        LoomDraft draft = Drafts.woven("1", "1", "0", "1", "1", "0", "1");
        Check.same("floats(true, 1)", draft.floats(true, 1), 3);
        Check.same("floats(true, 2)", draft.floats(true, 2), 2);
        Check.same("floats(false, 1)", draft.floats(false, 1), 2);
    }

    private static void promise16OnASinkingLoomTheOthersAreCounted() {
        Check.same("ends", sinking(mixed()).floats(true, 2), 4);
        Check.same("picks", sinking(mixed()).floats(false, 2), 4);
    }

    private static void promise16Length1IsTaken() {
        for (boolean isWarp : BOTH) {
            Check.same("floats(" + isWarp + ", 1), full", Drafts.plain(40, 40).floats(isWarp, 1), 800);
            Check.same("floats(" + isWarp + ", 2), full", Drafts.plain(40, 40).floats(isWarp, 2), 0);
        }
    }

    private static void promise16Length40IsTaken() {
        Check.same("floats(true, 40), full", Drafts.allEndsOnTop(40, 40).floats(true, 40), 40);
        Check.same("floats(false, 40), full", Drafts.allPicksOnTop(40, 40).floats(false, 40), 40);
        Check.same("floats(true, 40) over 39", Drafts.allEndsOnTop(40, 39).floats(true, 40), 0);
        Check.same("floats(true, 39) over 39", Drafts.allEndsOnTop(40, 39).floats(true, 39), 40);
    }

    private static void promise16Length0IsRefused() {
        for (boolean isWarp : BOTH) {
            Check.refusedEverywhere("floats(" + isWarp + ", 0)", ARGUMENT, draft -> draft.floats(isWarp, 0));
        }
    }

    private static void promise16Length41IsRefused() {
        for (boolean isWarp : BOTH) {
            Check.refusedEverywhere("floats(" + isWarp + ", 41)", ARGUMENT, draft -> draft.floats(isWarp, 41));
        }
    }

    private static void promise16LengthFarOutsideIsRefused() {
        for (int length : FAR) {
            Check.refused("floats(true, " + length + ")", Drafts::full, ARGUMENT, draft -> draft.floats(true, length));
            Check.refused("floats(false, " + length + ")", Drafts::full, ARGUMENT,
                draft -> draft.floats(false, length));
        }
    }

    private static void promise16EmptyRowsHaveNoFloats() {
        for (LoomDraft draft : List.of(new LoomDraft(), Drafts.plain(3, 0), Drafts.plain(0, 3))) {
            for (boolean isWarp : BOTH) {
                Check.same("floats(" + isWarp + ", 1)", draft.floats(isWarp, 1), 0);
                Check.same("floats(" + isWarp + ", 40)", draft.floats(isWarp, 40), 0);
            }
        }
    }

    // ---- Promise 17: warpShare

    private static void promise17WithoutPlacesItIs0() {
        Check.same("a new one", new LoomDraft().warpShare(), 0.0);
        Check.same("ends alone", Drafts.plain(3, 0).warpShare(), 0.0);
        Check.same("picks alone", Drafts.plain(0, 3).warpShare(), 0.0);
        Check.same("ends alone, sinking", sinking(Drafts.plain(40, 0)).warpShare(), 0.0);
    }

    private static void promise17WhereNoEndLiesOnTopItIs0() {
        Check.same("1 by 1", Drafts.allPicksOnTop(1, 1).warpShare(), 0.0);
        Check.same("40 by 40", Drafts.allPicksOnTop(40, 40).warpShare(), 0.0);
    }

    private static void promise17WhereAllEndsLieOnTopItIs1() {
        Check.same("1 by 1", Drafts.allEndsOnTop(1, 1).warpShare(), 1.0);
        Check.same("40 by 40", Drafts.allEndsOnTop(40, 40).warpShare(), 1.0);
    }

    private static void promise17OtherSharesAreDivided() {
        Check.same("mixed", mixed().warpShare(), 9.0 / 20);
        Check.same("mixed, sinking", sinking(mixed()).warpShare(), 11.0 / 20);
        Check.same("plain, 3 by 3", Drafts.plain(3, 3).warpShare(), 5.0 / 9);
        Check.same("one end, the first pick", Drafts.woven("1", "0", "0").warpShare(), 1.0 / 3);
        Check.same("one end, the last pick", Drafts.woven("0", "0", "1").warpShare(), 1.0 / 3);
        Check.same("one pick, the first end", Drafts.woven("100").warpShare(), 1.0 / 3);
        Check.same("one pick, the last end", Drafts.woven("001").warpShare(), 1.0 / 3);
        Check.same("plain, 40 by 40", Drafts.plain(40, 40).warpShare(), 0.5);
    }

    private static void promise17ItIsToldAnewAfterAChange() {
        LoomDraft draft = Drafts.allEndsOnTop(5, 5);
        Check.same("all", draft.warpShare(), 1.0);
        draft.cut(false, 2);
        Check.same("3 picks less", draft.warpShare(), 1.0);
        draft.cut(true, 1);
        Check.same("4 ends less", draft.warpShare(), 1.0);
        draft.tie(1, 0);
        Check.same("a treadle tied to no shafts", draft.warpShare(), 0.5);
        draft.cut(true, 0);
        Check.same("no ends", draft.warpShare(), 0.0);
    }

    // ---- Promise 18: period

    /** Threads with these shafts or treadles, all of the same colour, have this period. */
    private static void periodOf(int due, int... bindings) {
        LoomDraft draft = new LoomDraft();
        for (int binding : bindings) {
            draft.thread(binding, 4);
            draft.tread(binding, 4);
        }
        Check.same("period(true)", draft.period(true), due);
        Check.same("period(false)", draft.period(false), due);
    }

    private static void promise18OfAnEmptyRowItIs0() {
        Check.same("period(true) of a new one", new LoomDraft().period(true), 0);
        Check.same("period(false) of a new one", new LoomDraft().period(false), 0);
        Check.same("period(true) beside picks", Drafts.plain(0, 3).period(true), 0);
        Check.same("period(false) beside ends", Drafts.plain(3, 0).period(false), 0);
    }

    private static void promise18OfOneAloneItIs1() {
        periodOf(1, 5);
    }

    private static void promise18OfEqualOnesItIs1() {
        periodOf(1, 5, 5);
        periodOf(1, 5, 5, 5, 5);
    }

    private static void promise18OfDifferentOnesItIsTheirNumber() {
        periodOf(2, 1, 2);
        periodOf(3, 1, 2, 3);
        periodOf(4, 1, 1, 1, 2);
        periodOf(4, 2, 1, 1, 1);
    }

    private static void promise18ItIsTheLeast() {
        periodOf(2, 1, 2, 1, 2, 1, 2, 1, 2);
        periodOf(3, 1, 2, 3, 1, 2, 3);
    }

    private static void promise18TheLastRepeatMayBeAPart() {
        periodOf(2, 1, 2, 1);
        periodOf(3, 1, 2, 3, 1);
        periodOf(3, 1, 1, 2, 1, 1, 2, 1, 1);
        periodOf(7, 1, 1, 2, 1, 1, 2, 1, 1, 1);
    }

    private static void promise18OneLessThanTheLengthOfTheRow() {
        periodOf(4, 1, 2, 3, 4, 1);
        periodOf(5, 1, 2, 3, 4, 2);
    }

    private static void promise18OfAFullRowItIs1To40() {
        for (boolean isWarp : BOTH) {
            LoomDraft equal = new LoomDraft();
            for (int place = 0; place < 40; place++) {
                equal.thread(3, 3);
                equal.tread(3, 3);
            }
            Check.same("all equal", equal.period(isWarp), 1);
            Check.same("two in turn", Drafts.plain(40, 40).period(isWarp), 2);
            Check.same("all different", Drafts.numbered(40, 40).period(isWarp), 40);
            LoomDraft nearly = Drafts.numbered(39, 39);
            nearly.thread(0, 0);
            nearly.tread(0, 0);
            Check.same("the last as the first", nearly.period(isWarp), 39);
            equal.cut(isWarp, 39);
            Check.same("another one as the last", isWarp ? equal.thread(3, 4) : equal.tread(3, 4), 39);
            Check.same("the last another one", equal.period(isWarp), 40);
        }
    }

    private static void promise18ColoursAloneMakeADifference() {
        LoomDraft draft = new LoomDraft();
        for (int place = 0; place < 7; place++) {
            draft.thread(1, place % 3);
            draft.tread(1, place % 2);
        }
        Check.same("period(true)", draft.period(true), 3);
        Check.same("period(false)", draft.period(false), 2);
    }

    private static void promise18ShaftsAndTreadlesAloneMakeADifference() {
        LoomDraft draft = new LoomDraft();
        for (int place = 0; place < 7; place++) {
            draft.thread(place % 3, 1);
            draft.tread(place % 2, 1);
        }
        Check.same("period(true)", draft.period(true), 3);
        Check.same("period(false)", draft.period(false), 2);
    }

    private static void promise18PicksThatMoveTheSameShaftsAreNotEqual() {
        LoomDraft draft = Drafts.plain(0, 2);
        draft.tie(1, 1);
        Check.same("period(false)", draft.period(false), 2);
    }

    // ---- Promise 19: layers

    private static void promise19WithoutThreadsTheyAre0() {
        Check.same("a new one", new LoomDraft().layers(), 0);
        LoomDraft draft = Drafts.plain(3, 3);
        draft.cut(true, 0);
        draft.cut(false, 0);
        Check.same("all cut off", draft.layers(), 0);
    }

    private static void promise19EachOfTheEndsAloneIsALayer() {
        Check.same("1", Drafts.plain(1, 0).layers(), 1);
        Check.same("40", Drafts.plain(40, 0).layers(), 40);
    }

    private static void promise19EachOfThePicksAloneIsALayer() {
        Check.same("1", Drafts.plain(0, 1).layers(), 1);
        Check.same("40", Drafts.plain(0, 40).layers(), 40);
    }

    private static void promise19ThreadsOfWhichOneKindLiesOnTopAreLayers() {
        Check.same("an end on a pick", Drafts.allEndsOnTop(1, 1).layers(), 2);
        Check.same("a pick on an end", Drafts.allPicksOnTop(1, 1).layers(), 2);
        Check.same("40 ends on 40 picks", Drafts.allEndsOnTop(40, 40).layers(), 80);
        Check.same("40 picks on 40 ends", Drafts.allPicksOnTop(40, 40).layers(), 80);
    }

    private static void promise19PlainWeaveIsOneLayer() {
        Check.same("2 by 2", Drafts.plain(2, 2).layers(), 1);
        Check.same("40 by 40", Drafts.plain(40, 40).layers(), 1);
    }

    private static void promise19ThreadsThatLeadOneWayAloneAreNotInOneLayer() {
        Check.same("an end above plain weave", Drafts.woven("101", "011").layers(), 2);
        Check.same("an end below plain weave", Drafts.woven("100", "010").layers(), 2);
        Check.same("a pick below plain weave", Drafts.woven("10", "01", "11").layers(), 2);
        Check.same("a pick above plain weave", Drafts.woven("10", "01", "00").layers(), 2);
        Check.same("from each to the next", Drafts.woven("11", "01").layers(), 4);
    }

    private static void promise19AWayThatTheLastThreadsMakeIsFound() {
        Check.same("2 ends, 3 picks", Drafts.woven("01", "11", "10").layers(), 2);
        Check.same("3 ends, 2 picks", Drafts.woven("011", "010").layers(), 5);
        Check.same("3 ends, 2 picks, the last end", Drafts.woven("011", "110").layers(), 2);
    }

    private static void promise19TwoClothsOnEachOtherAreTwoLayers() {
        Check.same("of 8 ends", doubleCloth().layers(), 2);
    }

    /** Above plain weave of the ends 0, 1, 4 and 5 lies plain weave of the ends 2, 3, 6 and 7. */
    private static LoomDraft doubleCloth() {
        return Drafts.woven("10111011", "00100010", "01110111", "00010001");
    }

    private static void promise19ALongWayRoundMakesOneLayer() {
        Check.same("8 steps", staircase(8).layers(), 1);
        LoomDraft open = staircase(8);
        open.tie(7, 255);
        Check.same("8 steps, without the way back", open.layers(), 16);
    }

    /** Pick k has the ends 0 to k on top, but the last one just the end with the last number. */
    private static LoomDraft staircase(int steps) {
        LoomDraft draft = new LoomDraft();
        for (int step = 0; step < steps; step++) {
            draft.thread(step, 0);
            draft.tie(step, step == steps - 1 ? 1 << step : (2 << step) - 1);
            draft.tread(1 << step, 0);
        }
        return draft;
    }

    private static void promise19TheyAreToldAnewAfterAChange() {
        LoomDraft draft = Drafts.plain(2, 2);
        Check.same("plain", draft.layers(), 1);
        draft.tie(0, 3);
        draft.tie(1, 3);
        Check.same("all ends on top", draft.layers(), 4);
        draft.tie(0, 0);
        draft.tie(1, 0);
        Check.same("all picks on top", draft.layers(), 4);
        draft.cut(false, 1);
        Check.same("a pick less", draft.layers(), 3);
    }

    // ---- Promise 20: hangsTogether

    private static void promise20WithoutThreadsItDoesNot() {
        Check.same("a new one", new LoomDraft().hangsTogether(), false);
    }

    private static void promise20WithoutPicksItDoesNot() {
        Check.same("one end", Drafts.plain(1, 0).hangsTogether(), false);
        Check.same("40 ends", Drafts.plain(40, 0).hangsTogether(), false);
    }

    private static void promise20WithoutEndsItDoesNot() {
        Check.same("one pick", Drafts.plain(0, 1).hangsTogether(), false);
        Check.same("40 picks", Drafts.plain(0, 40).hangsTogether(), false);
    }

    private static void promise20OneEndAndOnePickDoNot() {
        Check.same("the end on top", Drafts.allEndsOnTop(1, 1).hangsTogether(), false);
        Check.same("the pick on top", Drafts.allPicksOnTop(1, 1).hangsTogether(), false);
    }

    private static void promise20InOneLayerItDoes() {
        Check.same("2 by 2", Drafts.plain(2, 2).hangsTogether(), true);
        Check.same("40 by 40", Drafts.plain(40, 40).hangsTogether(), true);
        Check.same("8 steps", staircase(8).hangsTogether(), true);
    }

    private static void promise20InTwoLayersItDoesNot() {
        Check.same("two cloths", doubleCloth().hangsTogether(), false);
        Check.same("an end below plain weave", Drafts.woven("100", "010").hangsTogether(), false);
        Check.same("an end above plain weave", Drafts.woven("101", "011").hangsTogether(), false);
    }

    private static void promise20ItIsToldAnewAfterAChange() {
        LoomDraft draft = Drafts.woven("100", "010");
        Check.same("an end below", draft.hangsTogether(), false);
        draft.cut(true, 2);
        Check.same("that end is cut off", draft.hangsTogether(), true);
    }

    // ---- Promise 21: colourAt

    private static LoomDraft threads(int[] ends, int[] picks) {
        LoomDraft draft = new LoomDraft();
        for (int colour : picks) {
            draft.tread(0, colour);
        }
        for (int colour : ends) {
            draft.thread(0, colour);
        }
        return draft;
    }

    /** Just these colours are told, for the indexes from 0 on. */
    private static void tells(int[] ends, int[] picks, int... due) {
        LoomDraft draft = threads(ends, picks);
        for (int index = 0; index < due.length; index++) {
            Check.same("colourAt(" + index + ")", draft.colourAt(index), due[index]);
        }
        Check.refused("colourAt(" + due.length + ")", () -> threads(ends, picks), INDEX,
            other -> other.colourAt(due.length));
    }

    private static void promise21TheWarpComesFirstFromEnd0On() {
        tells(new int[] {5, 2, 7}, new int[] {6, 0}, 5, 2, 7, 6, 0);
    }

    private static void promise21AColourIsToldOnce() {
        tells(new int[] {3, 3, 5, 3}, new int[] {5, 1, 3, 1}, 3, 5, 1);
    }

    private static void promise21WithoutPicksTheWarpTellsAll() {
        tells(new int[] {7, 0, 7}, new int[0], 7, 0);
    }

    private static void promise21WithoutEndsTheWeftTellsAll() {
        tells(new int[0], new int[] {0, 7, 0}, 0, 7);
    }

    private static void promise21WithoutThreadsThereIsNoIndex0() {
        tells(new int[0], new int[0]);
    }

    private static void promise21OneColourHasTheIndex0Alone() {
        tells(new int[] {0}, new int[0], 0);
        tells(new int[0], new int[] {4}, 4);
        tells(new int[] {6, 6}, new int[] {6, 6}, 6);
    }

    private static void promise21AllColoursHaveTheIndexes0To7() {
        tells(new int[] {7, 6, 5, 4}, new int[] {3, 2, 1, 0}, 7, 6, 5, 4, 3, 2, 1, 0);
    }

    private static void promise21OfFullRowsTheLastThreadsCount() {
        LoomDraft draft = new LoomDraft();
        for (int place = 0; place < 40; place++) {
            draft.thread(0, place < 39 ? 2 : 5);
            draft.tread(0, place < 39 ? 2 : 0);
        }
        Check.same("of end 0", draft.colourAt(0), 2);
        Check.same("of end 39", draft.colourAt(1), 5);
        Check.same("of pick 39", draft.colourAt(2), 0);
        Check.same("of none", Check.answer(() -> draft.colourAt(3)), INDEX);
    }

    private static void promise21IndexMinus1IsRefused() {
        Check.refusedEverywhere("colourAt(-1)", INDEX, draft -> draft.colourAt(-1));
    }

    private static void promise21Index8IsRefused() {
        Check.refusedEverywhere("colourAt(8)", INDEX, draft -> draft.colourAt(8));
    }

    private static void promise21IndexFarOutsideIsRefused() {
        for (int index : FAR) {
            Check.refused("colourAt(" + index + ")", Drafts::full, INDEX, draft -> draft.colourAt(index));
        }
    }

    private static void promise21ThreadsThatAreCutOffHaveNoColour() {
        LoomDraft draft = threads(new int[] {3, 5}, new int[] {7, 1});
        draft.cut(true, 1);
        draft.cut(false, 1);
        Check.same("colourAt(0)", draft.colourAt(0), 3);
        Check.same("colourAt(1)", draft.colourAt(1), 7);
        Check.same("colourAt(2)", Check.answer(() -> draft.colourAt(2)), INDEX);
    }

    // ---- Promise 22: threadsOf

    private static void promise22WithoutThreadsTheyAre0() {
        for (int colour = 0; colour < 8; colour++) {
            Check.same("threadsOf(" + colour + ")", new LoomDraft().threadsOf(colour), 0);
        }
    }

    private static void promise22EndsAndPicksAreCounted() {
        LoomDraft draft = threads(new int[] {1, 2, 1}, new int[] {2, 1, 4});
        int[] due = {0, 3, 2, 0, 1, 0, 0, 0};
        for (int colour = 0; colour < 8; colour++) {
            Check.same("threadsOf(" + colour + ")", draft.threadsOf(colour), due[colour]);
        }
    }

    private static void promise22WithoutPicksTheEndsAreCounted() {
        Check.same("threadsOf(0)", Drafts.plain(3, 0).threadsOf(0), 3);
        Check.same("threadsOf(1)", Drafts.plain(3, 0).threadsOf(1), 0);
    }

    private static void promise22WithoutEndsThePicksAreCounted() {
        Check.same("threadsOf(0)", Drafts.plain(0, 3).threadsOf(0), 0);
        Check.same("threadsOf(1)", Drafts.plain(0, 3).threadsOf(1), 3);
    }

    private static void fullOf(int colour) {
        LoomDraft draft = new LoomDraft();
        for (int place = 0; place < 40; place++) {
            draft.thread(0, colour);
            draft.tread(0, colour);
        }
        Check.same("threadsOf(" + colour + ")", draft.threadsOf(colour), 80);
        Check.same("threadsOf(3)", draft.threadsOf(3), 0);
        draft.cut(true, 39);
        Check.same("threadsOf(" + colour + "), an end less", draft.threadsOf(colour), 79);
    }

    private static void promise22FullRowsOfOneColourAre80() {
        fullOf(0);
        fullOf(7);
    }

    private static void promise22ColourMinus1IsRefused() {
        Check.refusedEverywhere("threadsOf(-1)", INDEX, draft -> draft.threadsOf(-1));
    }

    private static void promise22Colour8IsRefused() {
        Check.refusedEverywhere("threadsOf(8)", INDEX, draft -> draft.threadsOf(8));
    }

    private static void promise22ColourFarOutsideIsRefused() {
        for (int colour : FAR) {
            Check.refused("threadsOf(" + colour + ")", Drafts::full, INDEX, draft -> draft.threadsOf(colour));
        }
    }
}
