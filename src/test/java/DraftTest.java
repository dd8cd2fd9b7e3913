import java.util.Collections;
import java.util.List;
import java.util.function.Supplier;

/** Promises 1 to 8: a new object, and the draft. */
final class DraftTest {
    private static final Class<?> ARGUMENT = Check.ARGUMENT;
    private static final Class<?> STATE = Check.STATE;
    private static final Class<?> INDEX = Check.INDEX;
    private static final Supplier<LoomDraft> FILLED = Drafts::filled;
    private static final Supplier<LoomDraft> FULL = Drafts::full;
    private static final int[] FAR = {-2, -1000, 1 << 20, Integer.MIN_VALUE, Integer.MAX_VALUE};

    private DraftTest() {
    }

    public static void main(String[] args) {
        Check.runAll(DraftTest.class);
    }

    // ---- Promise 1: a new object

    private static void promise01IsRising() {
        Check.same("setRising(true)", new LoomDraft().setRising(true), true);
        Check.same("setRising(false)", new LoomDraft().setRising(false), true);
    }

    private static void promise01HasNoEndsAndPicks() {
        Check.same("count(true)", new LoomDraft().count(true), 0);
        Check.same("count(false)", new LoomDraft().count(false), 0);
    }

    private static void promise01HasTreadlesTiedToNoShafts() {
        Check.same("ties", Drafts.tiesUndone(new LoomDraft()), Collections.nCopies(10, 0));
    }

    private static void promise01HasADrawingWithoutColumns() {
        Check.same("row(0)", Check.answer(() -> new LoomDraft().row(0)), STATE);
        Check.same("differences() from no ends", new LoomDraft().differences(), 0);
        LoomDraft draft = Drafts.plain(1, 0);
        Check.same("differences() from one end", draft.differences(), -1);
    }

    private static void promise01HasADrawingWithoutRows() {
        Check.same("draw(1)", new LoomDraft().draw(1), 0);
        Check.same("fit()", Check.answer(() -> new LoomDraft().fit()), STATE);
        LoomDraft draft = Drafts.plain(0, 1);
        Check.same("differences() from one pick", draft.differences(), -1);
    }

    // ---- Promise 2: thread

    private static void promise02ReturnsTheNumberBehindTheLastOne() {
        LoomDraft draft = new LoomDraft();
        for (int number = 0; number < 40; number++) {
            Check.same("thread", draft.thread(number % 8, number / 8), number);
        }
        Check.same("the ends", Drafts.order(draft, true), Drafts.upTo(40));
        Check.same("the picks", draft.count(false), 0);
    }

    private static void promise02Shaft0And7AreTaken() {
        Check.same("thread(0, 3)", Drafts.filled().thread(0, 3), 3);
        LoomDraft draft = Drafts.filled();
        Check.same("thread(7, 3)", draft.thread(7, 3), 3);
        Check.same("its shaft", draft.end(3, 0), 7);
        Check.same("its colour", draft.end(3, 1), 3);
    }

    private static void promise02ShaftMinus1IsRefused() {
        Check.refusedEverywhere("thread(-1, 0)", ARGUMENT, draft -> draft.thread(-1, 0));
    }

    private static void promise02Shaft8IsRefused() {
        Check.refusedEverywhere("thread(8, 0)", ARGUMENT, draft -> draft.thread(8, 0));
    }

    private static void promise02ShaftFarOutsideIsRefused() {
        for (int shaft : FAR) {
            Check.refused("thread(" + shaft + ", 7)", FILLED, ARGUMENT, draft -> draft.thread(shaft, 7));
        }
    }

    private static void promise02Colour0And7AreTaken() {
        Check.same("thread(3, 0)", Drafts.filled().thread(3, 0), 3);
        LoomDraft draft = Drafts.filled();
        Check.same("thread(3, 7)", draft.thread(3, 7), 3);
        Check.same("its shaft", draft.end(3, 0), 3);
        Check.same("its colour", draft.end(3, 1), 7);
    }

    private static void promise02ColourMinus1IsRefused() {
        Check.refusedEverywhere("thread(0, -1)", ARGUMENT, draft -> draft.thread(0, -1));
    }

    private static void promise02Colour8IsRefused() {
        Check.refusedEverywhere("thread(0, 8)", ARGUMENT, draft -> draft.thread(0, 8));
    }

    private static void promise02ColourFarOutsideIsRefused() {
        for (int colour : FAR) {
            Check.refused("thread(7, " + colour + ")", FILLED, ARGUMENT, draft -> draft.thread(7, colour));
        }
    }

    private static void promise02The40thEndIsTaken() {
        LoomDraft draft = Drafts.numbered(39, 40);
        Check.same("thread(7, 4)", draft.thread(7, 4), 39);
        Check.same("the ends", Drafts.order(draft, true), Drafts.upTo(40));
    }

    private static void promise02The41stEndIsRefused() {
        Check.refused("thread(0, 0)", FULL, STATE, draft -> draft.thread(0, 0));
        Check.refused("thread(7, 7)", () -> Drafts.plain(40, 0), STATE, draft -> draft.thread(7, 7));
    }

    private static void promise02A41stEndWithABadShaftIsABadArgument() {
        Check.refused("thread(8, 0)", FULL, ARGUMENT, draft -> draft.thread(8, 0));
        Check.refused("thread(-1, 0)", FULL, ARGUMENT, draft -> draft.thread(-1, 0));
    }

    private static void promise02A41stEndWithABadColourIsABadArgument() {
        Check.refused("thread(0, 8)", FULL, ARGUMENT, draft -> draft.thread(0, 8));
        Check.refused("thread(0, -1)", FULL, ARGUMENT, draft -> draft.thread(0, -1));
    }

    // ---- Promise 3: tread

    private static void promise03ReturnsTheNumberBehindTheLastOne() {
        LoomDraft draft = new LoomDraft();
        for (int number = 0; number < 40; number++) {
            Check.same("tread", draft.tread(number, number % 7), number);
        }
        Check.same("the picks", Drafts.order(draft, false), Drafts.upTo(40));
        Check.same("the ends", draft.count(true), 0);
    }

    private static void promise03Treadles0And1023AreTaken() {
        LoomDraft none = Drafts.filled();
        Check.same("tread(0, 2)", none.tread(0, 2), 4);
        Check.same("its treadles, none", none.pick(4, 0), 0);
        LoomDraft all = Drafts.filled();
        Check.same("tread(1023, 2)", all.tread(1023, 2), 4);
        Check.same("its treadles, all", all.pick(4, 0), 1023);
        Check.same("its colour", all.pick(4, 1), 2);
    }

    private static void promise03TreadlesMinus1AreRefused() {
        Check.refusedEverywhere("tread(-1, 0)", ARGUMENT, draft -> draft.tread(-1, 0));
    }

    private static void promise03Treadles1024AreRefused() {
        Check.refusedEverywhere("tread(1024, 0)", ARGUMENT, draft -> draft.tread(1024, 0));
    }

    private static void promise03TreadlesFarOutsideAreRefused() {
        for (int treadles : FAR) {
            Check.refused("tread(" + treadles + ", 7)", FILLED, ARGUMENT, draft -> draft.tread(treadles, 7));
        }
    }

    private static void promise03Colour0And7AreTaken() {
        Check.same("tread(5, 0)", Drafts.filled().tread(5, 0), 4);
        LoomDraft draft = Drafts.filled();
        Check.same("tread(5, 7)", draft.tread(5, 7), 4);
        Check.same("its treadles", draft.pick(4, 0), 5);
        Check.same("its colour", draft.pick(4, 1), 7);
    }

    private static void promise03ColourMinus1IsRefused() {
        Check.refusedEverywhere("tread(0, -1)", ARGUMENT, draft -> draft.tread(0, -1));
    }

    private static void promise03Colour8IsRefused() {
        Check.refusedEverywhere("tread(0, 8)", ARGUMENT, draft -> draft.tread(0, 8));
    }

    private static void promise03ColourFarOutsideIsRefused() {
        for (int colour : FAR) {
            Check.refused("tread(1023, " + colour + ")", FILLED, ARGUMENT, draft -> draft.tread(1023, colour));
        }
    }

    private static void promise03The40thPickIsTaken() {
        LoomDraft draft = Drafts.numbered(40, 39);
        Check.same("tread(39, 4)", draft.tread(39, 4), 39);
        Check.same("the picks", Drafts.order(draft, false), Drafts.upTo(40));
    }

    private static void promise03The41stPickIsRefused() {
        Check.refused("tread(0, 0)", FULL, STATE, draft -> draft.tread(0, 0));
        Check.refused("tread(1023, 7)", () -> Drafts.plain(0, 40), STATE, draft -> draft.tread(1023, 7));
    }

    private static void promise03A41stPickWithBadTreadlesIsABadArgument() {
        Check.refused("tread(1024, 0)", FULL, ARGUMENT, draft -> draft.tread(1024, 0));
        Check.refused("tread(-1, 0)", FULL, ARGUMENT, draft -> draft.tread(-1, 0));
    }

    private static void promise03A41stPickWithABadColourIsABadArgument() {
        Check.refused("tread(0, 8)", FULL, ARGUMENT, draft -> draft.tread(0, 8));
        Check.refused("tread(0, -1)", FULL, ARGUMENT, draft -> draft.tread(0, -1));
    }

    // ---- Promise 4: tie

    private static void promise04ReturnsTheSetBefore() {
        LoomDraft draft = new LoomDraft();
        Check.same("tie(3, 17)", draft.tie(3, 17), 0);
        Check.same("tie(3, 200)", draft.tie(3, 200), 17);
        Check.same("tie(3, 200) again", draft.tie(3, 200), 200);
        Check.same("tie(4, 1), another one", draft.tie(4, 1), 0);
        Check.same("ties", Drafts.tiesUndone(draft), List.of(0, 0, 0, 200, 1, 0, 0, 0, 0, 0));
    }

    private static void promise04Treadle0And9AreTied() {
        LoomDraft draft = new LoomDraft();
        Check.same("tie(0, 5)", draft.tie(0, 5), 0);
        Check.same("tie(9, 6)", draft.tie(9, 6), 0);
        Check.same("ties", Drafts.tiesUndone(draft), List.of(5, 0, 0, 0, 0, 0, 0, 0, 0, 6));
    }

    private static void promise04TreadleMinus1IsRefused() {
        Check.refusedEverywhere("tie(-1, 0)", INDEX, draft -> draft.tie(-1, 0));
    }

    private static void promise04Treadle10IsRefused() {
        Check.refusedEverywhere("tie(10, 0)", INDEX, draft -> draft.tie(10, 0));
    }

    private static void promise04TreadleFarOutsideIsRefused() {
        for (int treadle : FAR) {
            Check.refused("tie(" + treadle + ", 255)", FILLED, INDEX, draft -> draft.tie(treadle, 255));
        }
    }

    private static void promise04Shafts0And255AreTaken() {
        LoomDraft draft = new LoomDraft();
        Check.same("tie(0, 255)", draft.tie(0, 255), 0);
        Check.same("tie(0, 0)", draft.tie(0, 0), 255);
        Check.same("tie(0, 1)", draft.tie(0, 1), 0);
    }

    private static void promise04ShaftsMinus1AreRefused() {
        Check.refusedEverywhere("tie(0, -1)", ARGUMENT, draft -> draft.tie(0, -1));
    }

    private static void promise04Shafts256AreRefused() {
        Check.refusedEverywhere("tie(9, 256)", ARGUMENT, draft -> draft.tie(9, 256));
    }

    private static void promise04ShaftsFarOutsideAreRefused() {
        for (int shafts : FAR) {
            Check.refused("tie(5, " + shafts + ")", FILLED, ARGUMENT, draft -> draft.tie(5, shafts));
        }
    }

    private static void promise04ABadTreadleWithBadShaftsIsABadIndex() {
        Check.refused("tie(-1, 256)", FILLED, INDEX, draft -> draft.tie(-1, 256));
        Check.refused("tie(10, -1)", FILLED, INDEX, draft -> draft.tie(10, -1));
    }

    // ---- Promise 5: setRising

    private static void promise05ReturnsWhetherItWasRising() {
        LoomDraft draft = new LoomDraft();
        Check.same("setRising(true)", draft.setRising(true), true);
        Check.same("setRising(false)", draft.setRising(false), true);
        Check.same("setRising(false) again", draft.setRising(false), false);
        Check.same("setRising(true) again", draft.setRising(true), false);
        Check.same("setRising(true), the last", draft.setRising(true), true);
    }

    private static void promise05ASinkingLoomTurnsTheClothRound() {
        LoomDraft draft = Drafts.plain(1, 1);
        Check.same("rising", draft.isWarpOnTop(0, 0), true);
        draft.setRising(false);
        Check.same("sinking", draft.isWarpOnTop(0, 0), false);
        draft.setRising(true);
        Check.same("rising again", draft.isWarpOnTop(0, 0), true);
    }

    // ---- Promise 6: count

    private static void promise06EmptyRowsHave0() {
        Check.same("ends beside picks", Drafts.plain(0, 5).count(true), 0);
        Check.same("picks beside ends", Drafts.plain(5, 0).count(false), 0);
    }

    private static void promise06CountsEndsOrPicks() {
        Check.same("ends", Drafts.plain(3, 5).count(true), 3);
        Check.same("picks", Drafts.plain(3, 5).count(false), 5);
    }

    private static void promise06FullRowsHave40() {
        Check.same("ends", Drafts.plain(40, 0).count(true), 40);
        Check.same("picks", Drafts.plain(0, 40).count(false), 40);
    }

    // ---- Promise 7: end

    private static void promise07TellsShaftAndColour() {
        LoomDraft draft = Drafts.filled();
        Check.same("end(0, 0)", draft.end(0, 0), 0);
        Check.same("end(0, 1)", draft.end(0, 1), 3);
        Check.same("end(1, 0)", draft.end(1, 0), 5);
        Check.same("end(1, 1)", draft.end(1, 1), 1);
    }

    private static void promise07TheLastEndIsThere() {
        Check.same("end(2, 0) of 3", Drafts.filled().end(2, 0), 7);
        Check.same("end(2, 1) of 3", Drafts.filled().end(2, 1), 3);
        Check.same("end(39, 0) of 40", Drafts.full().end(39, 0), 7);
        Check.same("end(39, 1) of 40", Drafts.full().end(39, 1), 4);
    }

    private static void promise07TheEndBehindTheLastIsRefused() {
        Check.refused("end(3, 0) of 3", FILLED, INDEX, draft -> draft.end(3, 0));
        Check.refused("end(3, 1) of 3", FILLED, INDEX, draft -> draft.end(3, 1));
        Check.refused("end(40, 0) of 40", FULL, INDEX, draft -> draft.end(40, 0));
    }

    private static void promise07EndMinus1IsRefused() {
        Check.refusedEverywhere("end(-1, 0)", INDEX, draft -> draft.end(-1, 0));
    }

    private static void promise07EndFarOutsideIsRefused() {
        for (int end : FAR) {
            Check.refused("end(" + end + ", 1)", FULL, INDEX, draft -> draft.end(end, 1));
        }
    }

    private static void promise07AnEmptyWarpHasNoEnd0() {
        Check.refused("end(0, 0) of a new one", LoomDraft::new, INDEX, draft -> draft.end(0, 0));
        Check.refused("end(0, 0) beside picks", () -> Drafts.plain(0, 3), INDEX, draft -> draft.end(0, 0));
    }

    private static void promise07AnEndThatIsCutOffIsRefused() {
        LoomDraft draft = Drafts.numbered(5, 5);
        draft.cut(true, 2);
        Check.same("end(1, 0)", draft.end(1, 0), 1);
        Check.same("end(2, 0)", Check.answer(() -> draft.end(2, 0)), INDEX);
    }

    private static void promise07WhatMinus1IsRefused() {
        Check.refused("end(0, -1)", FILLED, INDEX, draft -> draft.end(0, -1));
    }

    private static void promise07What2IsRefused() {
        Check.refused("end(0, 2)", FILLED, INDEX, draft -> draft.end(0, 2));
    }

    private static void promise07WhatFarOutsideIsRefused() {
        for (int what : FAR) {
            Check.refused("end(0, " + what + ")", FULL, INDEX, draft -> draft.end(0, what));
        }
    }

    // ---- Promise 8: pick

    private static void promise08TellsTreadlesColourAndShafts() {
        LoomDraft draft = Drafts.filled();
        Check.same("pick(1, 0)", draft.pick(1, 0), 514);
        Check.same("pick(1, 1)", draft.pick(1, 1), 6);
        Check.same("pick(1, 2)", draft.pick(1, 2), 46 | 86);
    }

    private static void promise08NoTreadlesMoveNoShafts() {
        Check.same("pick(2, 2)", Drafts.filled().pick(2, 2), 0);
        LoomDraft draft = Drafts.plain(0, 1);
        draft.tie(0, 0);
        Check.same("pick(0, 2), of a treadle tied to none", draft.pick(0, 2), 0);
    }

    private static void promise08AllTreadlesMoveAllTheirShafts() {
        Check.same("pick(3, 2)", Drafts.filled().pick(3, 2), 255);
        LoomDraft draft = new LoomDraft();
        draft.tread(1023, 0);
        draft.tie(0, 128);
        draft.tie(9, 1);
        Check.same("pick(0, 2)", draft.pick(0, 2), 129);
    }

    private static void promise08ASinkingLoomMovesTheSameShafts() {
        LoomDraft draft = Drafts.plain(0, 1);
        draft.setRising(false);
        Check.same("pick(0, 2)", draft.pick(0, 2), 1);
    }

    private static void promise08TheLastPickIsThere() {
        Check.same("pick(3, 0) of 4", Drafts.filled().pick(3, 0), 1023);
        Check.same("pick(3, 1) of 4", Drafts.filled().pick(3, 1), 3);
        Check.same("pick(39, 0) of 40", Drafts.full().pick(39, 0), 39);
        Check.same("pick(39, 1) of 40", Drafts.full().pick(39, 1), 4);
        Check.same("pick(39, 2) of 40", Drafts.full().pick(39, 2), 9 | 46 | 83 | 194);
    }

    private static void promise08ThePickBehindTheLastIsRefused() {
        Check.refused("pick(4, 0) of 4", FILLED, INDEX, draft -> draft.pick(4, 0));
        Check.refused("pick(4, 1) of 4", FILLED, INDEX, draft -> draft.pick(4, 1));
        Check.refused("pick(4, 2) of 4", FILLED, INDEX, draft -> draft.pick(4, 2));
        Check.refused("pick(40, 2) of 40", FULL, INDEX, draft -> draft.pick(40, 2));
    }

    private static void promise08PickMinus1IsRefused() {
        Check.refusedEverywhere("pick(-1, 0)", INDEX, draft -> draft.pick(-1, 0));
        Check.refusedEverywhere("pick(-1, 2)", INDEX, draft -> draft.pick(-1, 2));
    }

    private static void promise08PickFarOutsideIsRefused() {
        for (int pick : FAR) {
            Check.refused("pick(" + pick + ", 2)", FULL, INDEX, draft -> draft.pick(pick, 2));
        }
    }

    private static void promise08AnEmptyWeftHasNoPick0() {
        Check.refused("pick(0, 0) of a new one", LoomDraft::new, INDEX, draft -> draft.pick(0, 0));
        Check.refused("pick(0, 2) beside ends", () -> Drafts.plain(3, 0), INDEX, draft -> draft.pick(0, 2));
    }

    private static void promise08APickThatIsCutOffIsRefused() {
        LoomDraft draft = Drafts.numbered(5, 5);
        draft.cut(false, 2);
        Check.same("pick(1, 0)", draft.pick(1, 0), 1);
        Check.same("pick(2, 0)", Check.answer(() -> draft.pick(2, 0)), INDEX);
    }

    private static void promise08WhatMinus1IsRefused() {
        Check.refused("pick(0, -1)", FILLED, INDEX, draft -> draft.pick(0, -1));
    }

    private static void promise08What3IsRefused() {
        Check.refused("pick(0, 3)", FILLED, INDEX, draft -> draft.pick(0, 3));
    }

    private static void promise08WhatFarOutsideIsRefused() {
        for (int what : FAR) {
            Check.refused("pick(0, " + what + ")", FULL, INDEX, draft -> draft.pick(0, what));
        }
    }
}
