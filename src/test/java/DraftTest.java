/** Promises 1 to 8: a new object, and the draft. */
final class DraftTest {
    private static final Class<?> ARGUMENT = IllegalArgumentException.class;
    private static final Class<?> STATE = IllegalStateException.class;
    private static final Class<?> INDEX = IndexOutOfBoundsException.class;
    private static final int[] TOO_FAR = {-1, Integer.MIN_VALUE, Integer.MAX_VALUE};

    private DraftTest() {
    }

    public static void main(String[] args) {
        newObject();
        thread();
        tread();
        tie();
        setRising();
        count();
        end();
        pick();
        Check.finish(DraftTest.class);
    }

    private static void newObject() {
        LoomDraft draft = new LoomDraft();
        Check.same("1 count(true)", draft.count(true), 0);
        Check.same("1 count(false)", draft.count(false), 0);
        Check.same("1 differences()", draft.differences(), 0);
        Check.same("1 draw(1)", draft.draw(1), 0);
        Check.same("1 differences() with a column", draft.differences(), -1);
        for (int treadle = 0; treadle < 10; treadle++) {
            Check.same("1 tie(" + treadle + ")", draft.tie(treadle, 0), 0);
        }
        Check.same("1 setRising(true)", draft.setRising(true), true);
    }

    private static void thread() {
        LoomDraft draft = new LoomDraft();
        for (int number = 0; number < 40; number++) {
            for (int bad : TOO_FAR) {
                Check.refused("2 shaft " + bad, draft, ARGUMENT, () -> draft.thread(bad, 0));
                Check.refused("2 colour " + bad, draft, ARGUMENT, () -> draft.thread(0, bad));
            }
            Check.refused("2 shaft 8", draft, ARGUMENT, () -> draft.thread(8, 7));
            Check.refused("2 colour 8", draft, ARGUMENT, () -> draft.thread(7, 8));
            Check.same("2 thread", draft.thread(number % 8, (number / 8 + number) % 8), number);
        }
        Check.refused("2 a 41st end", draft, STATE, () -> draft.thread(0, 0));
        Check.refused("2 a 41st end on shaft 8", draft, ARGUMENT, () -> draft.thread(8, 0));
        Check.refused("2 a 41st end of colour -1", draft, ARGUMENT, () -> draft.thread(0, -1));
        for (int number = 0; number < 40; number++) {
            Check.same("2 shaft of " + number, draft.end(number, 0), number % 8);
            Check.same("2 colour of " + number, draft.end(number, 1), (number / 8 + number) % 8);
        }
        Check.same("2 the picks stay", draft.count(false), 0);
    }

    private static void tread() {
        LoomDraft draft = new LoomDraft();
        for (int number = 0; number < 40; number++) {
            for (int bad : TOO_FAR) {
                Check.refused("3 treadles " + bad, draft, ARGUMENT, () -> draft.tread(bad, 0));
                Check.refused("3 colour " + bad, draft, ARGUMENT, () -> draft.tread(0, bad));
            }
            Check.refused("3 treadles 1024", draft, ARGUMENT, () -> draft.tread(1024, 7));
            Check.refused("3 colour 8", draft, ARGUMENT, () -> draft.tread(1023, 8));
            Check.same("3 tread", draft.tread(number == 39 ? 1023 : number * 26, number % 8), number);
        }
        Check.refused("3 a 41st pick", draft, STATE, () -> draft.tread(0, 0));
        Check.refused("3 a 41st pick with treadles 1024", draft, ARGUMENT, () -> draft.tread(1024, 0));
        Check.refused("3 a 41st pick of colour 8", draft, ARGUMENT, () -> draft.tread(0, 8));
        for (int number = 0; number < 40; number++) {
            Check.same("3 treadles of " + number, draft.pick(number, 0), number == 39 ? 1023 : number * 26);
            Check.same("3 colour of " + number, draft.pick(number, 1), number % 8);
        }
        Check.same("3 the ends stay", draft.count(true), 0);
    }

    private static void tie() {
        LoomDraft draft = new LoomDraft();
        for (int treadle = 0; treadle < 10; treadle++) {
            Check.same("4 tie", draft.tie(treadle, 255 - treadle), 0);
        }
        for (int treadle = 0; treadle < 10; treadle++) {
            int tied = treadle;
            Check.refused("4 shafts 256", draft, ARGUMENT, () -> draft.tie(tied, 256));
            Check.refused("4 shafts -1", draft, ARGUMENT, () -> draft.tie(tied, -1));
            Check.same("4 tie, the set before", draft.tie(treadle, 0), 255 - treadle);
            Check.same("4 tie, none before", draft.tie(treadle, 255), 0);
        }
        for (int bad : new int[] {-1, 10, Integer.MIN_VALUE, Integer.MAX_VALUE}) {
            Check.refused("4 treadle " + bad, draft, INDEX, () -> draft.tie(bad, 0));
            Check.refused("4 treadle " + bad + " and shafts 256", draft, INDEX, () -> draft.tie(bad, 256));
            Check.refused("4 treadle " + bad + " and shafts -1", draft, INDEX, () -> draft.tie(bad, -1));
        }
        Check.refused("4 shafts MIN", draft, ARGUMENT, () -> draft.tie(0, Integer.MIN_VALUE));
        Check.refused("4 shafts MAX", draft, ARGUMENT, () -> draft.tie(0, Integer.MAX_VALUE));
    }

    private static void setRising() {
        LoomDraft draft = Check.plain(2, 2);
        Check.same("5 setRising(true)", draft.setRising(true), true);
        Check.same("5 on top while rising", draft.isWarpOnTop(0, 0), true);
        Check.same("5 setRising(false)", draft.setRising(false), true);
        Check.same("5 on top while sinking", draft.isWarpOnTop(0, 0), false);
        Check.same("5 setRising(false) again", draft.setRising(false), false);
        Check.same("5 setRising(true) again", draft.setRising(true), false);
        Check.same("5 on top while rising again", draft.isWarpOnTop(0, 0), true);
    }

    private static void count() {
        LoomDraft draft = Check.plain(3, 5);
        Check.same("6 count(true)", draft.count(true), 3);
        Check.same("6 count(false)", draft.count(false), 5);
        LoomDraft full = Check.plain(40, 40);
        Check.same("6 count(true), full", full.count(true), 40);
        Check.same("6 count(false), full", full.count(false), 40);
    }

    private static void end() {
        LoomDraft draft = new LoomDraft();
        Check.refused("7 end 0 of none", draft, INDEX, () -> draft.end(0, 0));
        draft.tread(0, 0);
        Check.refused("7 end 0 of none with a pick", draft, INDEX, () -> draft.end(0, 0));
        draft.thread(3, 5);
        draft.thread(7, 2);
        Check.same("7 end(0, 0)", draft.end(0, 0), 3);
        Check.same("7 end(0, 1)", draft.end(0, 1), 5);
        Check.same("7 end(1, 0)", draft.end(1, 0), 7);
        Check.same("7 end(1, 1)", draft.end(1, 1), 2);
        for (int bad : new int[] {-1, 2, 40, Integer.MIN_VALUE, Integer.MAX_VALUE}) {
            Check.refused("7 end " + bad, draft, INDEX, () -> draft.end(bad, 0));
            Check.refused("7 what " + bad, draft, INDEX, () -> draft.end(1, bad));
        }
        draft.cut(true, 1);
        Check.refused("7 an end that is cut", draft, INDEX, () -> draft.end(1, 0));
        LoomDraft full = Check.coloured(40, 0);
        Check.same("7 the last of 40", full.end(39, 1), 7);
        Check.refused("7 end 40 of 40", full, INDEX, () -> full.end(40, 1));
    }

    private static void pick() {
        LoomDraft draft = new LoomDraft();
        Check.refused("8 pick 0 of none", draft, INDEX, () -> draft.pick(0, 0));
        draft.thread(0, 0);
        Check.refused("8 pick 0 of none with an end", draft, INDEX, () -> draft.pick(0, 2));
        draft.tread(513, 6);
        draft.tread(0, 4);
        draft.tie(0, 129);
        draft.tie(9, 3);
        draft.tie(5, 255);
        Check.same("8 pick(0, 0)", draft.pick(0, 0), 513);
        Check.same("8 pick(0, 1)", draft.pick(0, 1), 6);
        Check.same("8 pick(0, 2)", draft.pick(0, 2), 131);
        Check.same("8 pick(1, 0)", draft.pick(1, 0), 0);
        Check.same("8 pick(1, 1)", draft.pick(1, 1), 4);
        Check.same("8 pick(1, 2)", draft.pick(1, 2), 0);
        draft.setRising(false);
        Check.same("8 pick(0, 2), sinking", draft.pick(0, 2), 131);
        Check.same("8 pick(1, 2), sinking", draft.pick(1, 2), 0);
        for (int bad : new int[] {-1, 40, 3, Integer.MIN_VALUE, Integer.MAX_VALUE}) {
            Check.refused("8 pick " + bad, draft, INDEX, () -> draft.pick(bad, 0));
            Check.refused("8 what " + bad, draft, INDEX, () -> draft.pick(1, bad));
        }
        Check.refused("8 pick 2", draft, INDEX, () -> draft.pick(2, 0));
        draft.cut(false, 1);
        Check.refused("8 a pick that is cut", draft, INDEX, () -> draft.pick(1, 0));
        LoomDraft full = Check.coloured(0, 40);
        Check.same("8 the last of 40", full.pick(39, 1), 7);
        Check.refused("8 pick 40 of 40", full, INDEX, () -> full.pick(40, 2));
    }
}
