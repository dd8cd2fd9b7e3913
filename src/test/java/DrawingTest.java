/** Promises 23 to 27: drawn cloth, and the digest. */
final class DrawingTest {
    private static final Class<?> ARGUMENT = IllegalArgumentException.class;
    private static final Class<?> STATE = IllegalStateException.class;
    private static final long ALL = (1L << 40) - 1;

    private DrawingTest() {
    }

    public static void main(String[] args) {
        draw();
        row();
        fit();
        fitSinking();
        fitTooMuch();
        fitTakesThePlace();
        differences();
        digest();
        Check.finish(DrawingTest.class);
    }

    private static void draw() {
        LoomDraft draft = Check.plain(3, 2);
        for (int bad : new int[] {0, -1, 41, Integer.MIN_VALUE, Integer.MAX_VALUE}) {
            Check.refused("23 columns " + bad, draft, ARGUMENT, () -> draft.draw(bad));
        }
        Check.same("23 the first one", draft.draw(3), 0);
        draft.row(5);
        draft.row(2);
        Check.same("23 drawn as woven", draft.differences(), 0);
        for (int bad : new int[] {0, -1, 41, Integer.MIN_VALUE, Integer.MAX_VALUE}) {
            Check.refused("23 columns " + bad + " over a drawing", draft, ARGUMENT, () -> draft.draw(bad));
        }
        Check.same("23 the second one", draft.draw(3), 2);
        Check.same("23 without rows", draft.differences(), -1);
        draft.cut(false, 0);
        Check.same("23 without rows and picks", draft.differences(), 0);
        Check.same("23 the third one", draft.draw(1), 0);
        Check.same("23 of another width", draft.differences(), -1);
        LoomDraft full = Check.drawn(40, new long[40]);
        Check.same("23 over a full one", full.draw(40), 40);
        Check.same("23 over an empty one", full.draw(40), 0);
    }

    private static void row() {
        LoomDraft none = new LoomDraft();
        for (long cells : new long[] {0, 1, -1, Long.MIN_VALUE}) {
            Check.refused("24 no columns", none, STATE, () -> none.row(cells));
        }
        for (int columns : new int[] {1, 8, 31, 32, 33, 39, 40}) {
            LoomDraft draft = Check.drawn(columns);
            long last = 1L << columns - 1;
            Check.same("24 no cell", draft.row(0), 1);
            Check.same("24 the last cell", draft.row(last), 2);
            Check.same("24 all cells", draft.row(last * 2 - 1), 3);
            for (long bad : new long[] {last * 2, last * 2 + 1, -1, 1L << 62, Long.MIN_VALUE, Long.MAX_VALUE}) {
                Check.refused("24 cells " + bad + " of " + columns, draft, ARGUMENT, () -> draft.row(bad));
            }
        }
        LoomDraft full = Check.drawn(40);
        for (int row = 1; row <= 40; row++) {
            Check.same("24 row " + row, full.row(ALL - row), row);
        }
        Check.refused("24 a 41st row", full, STATE, () -> full.row(0));
        Check.refused("24 a 41st row with no column", full, STATE, () -> full.row(1L << 40));
        Check.refused("24 a 41st row of all", full, STATE, () -> full.row(-1));
    }

    private static void fit() {
        // The columns, from column 0 on, are 1100, 0011, 1100, 1111, 0011 and 0000.
        LoomDraft draft = Check.drawn(6, 0b001101, 0b001101, 0b011010, 0b011010);
        draft.row(0b001101);
        Check.same("25 shafts", draft.fit(), 4);
        Check.same("25 shafts of the ends", Check.bindings(draft, true), "0 1 0 2 1 3");
        Check.same("25 treadles of the picks", Check.bindings(draft, false), "1 1 2 2 1");
        Check.same("25 colours of the ends", Check.colours(draft, true), "000000");
        Check.same("25 colours of the picks", Check.colours(draft, false), "11111");
        Check.same("25 moved by treadle 0", draft.pick(0, 2), 0b0101);
        Check.same("25 moved by treadle 1", draft.pick(2, 2), 0b0110);
        Check.same("25 differences", draft.differences(), 0);
        Check.same("25 the loom stays", draft.setRising(true), true);
        Check.same("25 the drawing stays", draft.draw(1), 5);
    }

    private static void fitSinking() {
        LoomDraft draft = Check.drawn(3, 0b011, 0b100);
        draft.setRising(false);
        Check.same("25 sinking, shafts", draft.fit(), 2);
        Check.same("25 sinking, ends", Check.bindings(draft, true), "0 0 1");
        Check.same("25 sinking, picks", Check.bindings(draft, false), "1 2");
        Check.same("25 sinking, moved by treadle 0", draft.pick(0, 2), 0b10);
        Check.same("25 sinking, moved by treadle 1", draft.pick(1, 2), 0b01);
        Check.same("25 sinking, differences", draft.differences(), 0);
        Check.same("25 sinking, the loom stays", draft.setRising(true), false);
        Check.same("25 the loom is another, differences", draft.differences(), 6);
    }

    private static void fitTooMuch() {
        LoomDraft none = Check.plain(2, 2);
        Check.refused("25 no drawing", none, STATE, none::fit);
        none.draw(2);
        Check.refused("25 no rows", none, STATE, none::fit);
        Check.same("25 8 shafts", Check.drawn(8, 1, 2, 4, 8, 16, 32, 64, 128).fit(), 8);
        Check.same("25 8 shafts of 40", Check.drawn(40, 1, 2, 4, 8, 16, 32, 64).fit(), 8);
        LoomDraft nine = Check.drawn(9, 1, 2, 4, 8, 16, 32, 64, 128);
        Check.refused("25 9 shafts", nine, STATE, nine::fit);
        LoomDraft forty = Check.plain(5, 5);
        Check.drawOn(forty, 40, 0xF0F0F0F0F0L, 0xCCCCCCCCCCL, 0xAAAAAAAAAAL, 0xFF00FF00FFL);
        Check.refused("25 16 shafts of 40", forty, STATE, forty::fit);
        LoomDraft ten = Check.drawn(4, 0, 1, 2, 3, 4, 5, 6, 7, 8, 9);
        Check.same("25 10 treadles", ten.fit(), 4);
        Check.same("25 10 treadles, picks", Check.bindings(ten, false), "1 2 4 8 16 32 64 128 256 512");
        ten.row(9);
        Check.same("25 10 treadles for 11 picks", ten.fit(), 4);
        ten.row(10);
        Check.refused("25 11 treadles", ten, STATE, ten::fit);
        LoomDraft both = Check.drawn(9, 1, 2, 4, 8, 16, 32, 64, 128, 256, 257, 258);
        Check.refused("25 9 shafts and 11 treadles", both, STATE, both::fit);
        LoomDraft full = Check.drawn(40, new long[40]);
        Check.same("25 a full drawing", full.fit(), 1);
        Check.same("25 a full drawing, ends", full.count(true), 40);
        Check.same("25 a full drawing, picks", full.count(false), 40);
        Check.same("25 a full drawing, differences", full.differences(), 0);
    }

    private static void fitTakesThePlace() {
        LoomDraft draft = Check.coloured(40, 40);
        for (int treadle = 0; treadle < 10; treadle++) {
            draft.tie(treadle, 255 - treadle);
        }
        Check.drawOn(draft, 2, 0b01, 0b10);
        Check.same("25 over a full draft", draft.fit(), 2);
        LoomDraft fresh = Check.drawn(2, 0b01, 0b10);
        fresh.fit();
        Check.same("25 over a full draft, digest", draft.digest(), fresh.digest());
        Check.same("25 ends", Check.bindings(draft, true) + "/" + Check.colours(draft, true), "0 1/00");
        Check.same("25 picks", Check.bindings(draft, false) + "/" + Check.colours(draft, false), "1 2/11");
        for (int treadle = 0; treadle < 10; treadle++) {
            Check.same("25 tie of " + treadle, draft.tie(treadle, 0), treadle == 0 ? 1 : treadle == 1 ? 2 : 0);
        }
    }

    private static void differences() {
        LoomDraft draft = Check.plain(4, 3);
        Check.same("26 no drawing", draft.differences(), -1);
        Check.drawOn(draft, 4, 0b0101, 0b1010, 0b0101);
        Check.same("26 the same", draft.differences(), 0);
        Check.drawOn(draft, 4, 0b1101, 0b1010, 0b0000);
        Check.same("26 both ways", draft.differences(), 3);
        draft.setRising(false);
        Check.same("26 sinking", draft.differences(), 9);
        draft.row(0);
        Check.same("26 a row more", draft.differences(), -1);
        draft.tread(0, 0);
        Check.same("26 a pick more", draft.differences(), 13);
        draft.thread(0, 0);
        Check.same("26 an end more", draft.differences(), -1);
        draft.cut(true, 3);
        Check.same("26 an end less", draft.differences(), -1);
        LoomDraft full = Check.plain(40, 40);
        Check.drawOn(full, 40, new long[40]);
        Check.same("26 full", full.differences(), 800);
        LoomDraft empty = Check.plain(7, 0);
        empty.draw(7);
        Check.same("26 neither picks nor rows", empty.differences(), 0);
        LoomDraft narrow = Check.plain(0, 0);
        Check.same("26 nothing at all", narrow.differences(), 0);
        narrow.tread(0, 0);
        Check.same("26 a pick alone", narrow.differences(), -1);
    }

    private static long sum(long... numbers) {
        long d = 241;
        for (long x : numbers) {
            d = d * 31 + x;
        }
        return d;
    }

    private static void digest() {
        LoomDraft draft = new LoomDraft();
        Check.same("27 new", draft.digest(), sum(1, 0, 0, 0, 0, 0, 0, 0, 0, 0, 0, 0, 0, 0, 0));
        draft.setRising(false);
        Check.same("27 sinking", draft.digest(), sum(0, 0, 0, 0, 0, 0, 0, 0, 0, 0, 0, 0, 0, 0, 0));
        for (int treadle = 0; treadle < 10; treadle++) {
            draft.tie(treadle, 11 + treadle);
        }
        draft.thread(7, 2);
        draft.thread(1, 6);
        draft.tread(1023, 5);
        draft.tread(12, 0);
        draft.tread(77, 3);
        draft.draw(40);
        draft.row(ALL);
        draft.row(1L << 39);
        long due = sum(0, 11, 12, 13, 14, 15, 16, 17, 18, 19, 20, 2, 7, 2, 1, 6, 3, 1023, 5, 12, 0, 77, 3,
            40, 2, ALL, 1L << 39);
        Check.same("27 all", draft.digest(), due);
        Check.same("27 again", draft.digest(), due);
        draft.cut(true, 1);
        draft.cut(false, 0);
        draft.draw(3);
        Check.same("27 what is cut is not looked at", draft.digest(),
            sum(0, 11, 12, 13, 14, 15, 16, 17, 18, 19, 20, 1, 7, 2, 0, 3, 0));
    }
}
