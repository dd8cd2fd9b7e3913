import java.util.List;

/** 'What it is' and 'Terms': what holds for all calls. */
final class TermsTest {
    private TermsTest() {
    }

    public static void main(String[] args) {
        Check.runAll(TermsTest.class);
    }

    // ---- What it is

    private static void useOf512CallsIsAnsweredToTheLastCall() {
        LoomDraft draft = new LoomDraft();
        for (int round = 0; round < 12; round++) {
            for (int end = 0; end < 40; end++) {
                Check.same("thread in round " + round, draft.thread(7, 7), end);
            }
            Check.same("cut in round " + round, draft.cut(true, 0), 40);
        }
        for (int end = 0; end < 20; end++) {
            Check.same("thread, call " + (493 + end), draft.thread(0, 0), end);
        }
    }

    private static void useOf511RefusedCallsLeavesTheLastOneAsItWas() {
        LoomDraft draft = new LoomDraft();
        for (int call = 0; call < 511; call++) {
            Check.same("fit " + call, Check.answer(draft::fit), Check.STATE);
        }
        Check.same("the 512th call", draft.digest(), new LoomDraft().digest());
    }

    private static void useOf511WovenAnswersLeavesTheLastOneAsItWas() {
        LoomDraft draft = Drafts.plain(2, 2);
        for (int call = 6; call < 511; call++) {
            Check.same("layers " + call, draft.layers(), 1);
        }
        Check.same("the 512th call", draft.layers(), 1);
    }

    private static void useOfOneObjectLeavesAnotherAsItWas() {
        LoomDraft one = Drafts.filled();
        Drafts.full().fit();
        Check.same("the one", Drafts.allThatIsTold(one), Drafts.allThatIsTold(Drafts.filled()));
    }

    // ---- The draft

    private static void termsThereAreTheShafts0To7() {
        LoomDraft draft = new LoomDraft();
        draft.tread(1, 0);
        for (int shaft = 0; shaft < 8; shaft++) {
            draft.thread(shaft, 0);
        }
        for (int shaft = 0; shaft < 8; shaft++) {
            draft.tie(0, 1 << shaft);
            for (int end = 0; end < 8; end++) {
                Check.same("shaft " + shaft + " moved, end " + end, draft.isWarpOnTop(0, end), end == shaft);
            }
        }
    }

    private static void termsThereAreTheTreadles0To9() {
        LoomDraft draft = new LoomDraft();
        for (int treadle = 0; treadle < 10; treadle++) {
            draft.tie(treadle, 100 + treadle);
            draft.tread(1 << treadle, 0);
        }
        for (int treadle = 0; treadle < 10; treadle++) {
            Check.same("moved by treadle " + treadle, draft.pick(treadle, 2), 100 + treadle);
        }
    }

    private static void termsAShaftIsMovedByOneOfSeveralTreadles() {
        LoomDraft draft = Drafts.plain(2, 0);
        draft.tread(3 + 512, 0);
        Check.same("shaft 0, which treadle 0 moves", draft.isWarpOnTop(0, 0), true);
        Check.same("shaft 1, which treadle 1 moves", draft.isWarpOnTop(0, 1), true);
    }

    private static void termsAShaftThatTwoTreadlesMoveIsMoved() {
        LoomDraft draft = Drafts.plain(2, 0);
        draft.tie(1, 1);
        draft.tread(3, 0);
        Check.same("shaft 0", draft.isWarpOnTop(0, 0), true);
        Check.same("shafts moved", draft.pick(0, 2), 1);
    }

    private static void termsATreadleThatIsNotTroddenMovesNothing() {
        LoomDraft draft = Drafts.plain(2, 0);
        draft.tread(1023 - 1, 0);
        Check.same("shaft 0, which treadle 0 alone moves", draft.isWarpOnTop(0, 0), false);
    }

    private static void termsWithoutTreadlesAllPicksLieOnTopOnARisingLoom() {
        LoomDraft draft = Drafts.plain(2, 0);
        draft.tread(0, 0);
        Check.same("end 0", draft.isWarpOnTop(0, 0), false);
        Check.same("end 1", draft.isWarpOnTop(0, 1), false);
    }

    private static void termsWithoutTreadlesAllEndsLieOnTopOnASinkingLoom() {
        LoomDraft draft = Drafts.plain(2, 0);
        draft.tread(0, 0);
        draft.setRising(false);
        Check.same("end 0", draft.isWarpOnTop(0, 0), true);
        Check.same("end 1", draft.isWarpOnTop(0, 1), true);
    }

    private static void termsATieThatIsChangedChangesPicksThatAreTrodden() {
        LoomDraft draft = Drafts.plain(2, 2);
        draft.tie(0, 2);
        Check.same("end 0", draft.isWarpOnTop(0, 0), false);
        Check.same("end 1", draft.isWarpOnTop(0, 1), true);
    }

    // ---- Floats

    private static void termsAFloatEndsAtTheEdgeOfTheCloth() {
        Check.same("an end on the first and last pick", Drafts.woven("1", "0", "1").longestFloat(true, true), 1);
        Check.same("its floats", Drafts.woven("1", "0", "1").floats(true, 1), 2);
        Check.same("a pick on the first and last end", Drafts.woven("010").longestFloat(false, true), 1);
        Check.same("its floats", Drafts.woven("010").floats(false, 1), 2);
    }

    private static void termsAFloatOfAnEndDoesNotGoOnInTheNextEnd() {
        Check.same("ends", Drafts.woven("01", "01", "10", "10").floats(true, 3), 0);
        Check.same("picks", Drafts.woven("1100", "0011").floats(false, 3), 0);
    }

    // ---- Methods that throw

    private static void termsTheExceptionNamedFirstIsThrown() {
        Check.refused("thread(8, 8)", Drafts::full, Check.ARGUMENT, draft -> draft.thread(8, 8));
        Check.refused("tread(-1, -1)", Drafts::full, Check.ARGUMENT, draft -> draft.tread(-1, -1));
        Check.refused("tie(10, 256)", Drafts::full, Check.INDEX, draft -> draft.tie(10, 256));
        Check.refused("row(-1)", Drafts::full, Check.STATE, draft -> draft.row(-1));
    }

    private static void termsACallThatThrewCanBeFollowedByOneThatDoesNot() {
        LoomDraft draft = Drafts.full();
        Check.same("a 41st end", Check.answer(() -> draft.thread(0, 0)), Check.STATE);
        draft.cut(true, 39);
        Check.same("a 40th end", draft.thread(6, 6), 39);
        Check.same("the shafts", Drafts.bindings(draft, true).subList(37, 40), List.of(5, 6, 6));
    }
}
