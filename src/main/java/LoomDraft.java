import java.util.Arrays;

/** A bench for weaving drafts. */
public final class LoomDraft {
    private static final int SHAFTS = 8;
    private static final int TREADLES = 10;
    private static final int COLOURS = 8;
    private static final int MOST = 40;
    private static final int FITTED_END_COLOUR = 0;
    private static final int FITTED_PICK_COLOUR = 1;
    private static final int DIGEST_START = 241;

    private final ThreadRow warp = new ThreadRow();
    private final ThreadRow weft = new ThreadRow();
    private final int[] ties = new int[TREADLES];
    private boolean rising = true;
    private final Drawing drawing = new Drawing();
    private final Cloth cloth = new Cloth();
    private final Leading leading = new Leading();

    /** Creates a rising loom without ends and picks, and an empty drawing without columns. */
    public LoomDraft() {
    }

    // ---- the draft

    /** Adds an end behind the last one, and tells its number. */
    public int thread(int shaft, int colour) throws IllegalArgumentException, IllegalStateException {
        if (!isBelow(shaft, SHAFTS) || !isBelow(colour, COLOURS)) {
            throw new IllegalArgumentException();
        }
        if (warp.isFull()) {
            throw new IllegalStateException();
        }
        return warp.add(shaft, colour);
    }

    /** Adds a pick behind the last one, and tells its number. */
    public int tread(int treadles, int colour) throws IllegalArgumentException, IllegalStateException {
        if (!isSetOf(treadles, TREADLES) || !isBelow(colour, COLOURS)) {
            throw new IllegalArgumentException();
        }
        if (weft.isFull()) {
            throw new IllegalStateException();
        }
        return weft.add(treadles, colour);
    }

    /** Ties a treadle to a set of shafts, and tells the set before. */
    public int tie(int treadle, int shafts) throws IndexOutOfBoundsException, IllegalArgumentException {
        if (!isBelow(treadle, TREADLES)) {
            throw new IndexOutOfBoundsException();
        }
        if (!isSetOf(shafts, SHAFTS)) {
            throw new IllegalArgumentException();
        }
        int before = ties[treadle];
        ties[treadle] = shafts;
        return before;
    }

    /** Says what kind of loom it is, and tells whether it was a rising one before. */
    public boolean setRising(boolean isRising) {
        boolean before = rising;
        rising = isRising;
        return before;
    }

    /** Tells how many ends or picks there are. */
    public int count(boolean isWarp) {
        return rowOf(isWarp).size;
    }

    /** Tells an end's shaft (0) or colour (1). */
    public int end(int end, int what) throws IndexOutOfBoundsException {
        if (!warp.has(end) || !isBelow(what, 2)) {
            throw new IndexOutOfBoundsException();
        }
        return what == 0 ? warp.bindings[end] : warp.colours[end];
    }

    /** Tells a pick's set of treadles (0), its colour (1) or the set of the shafts moved for it (2). */
    public int pick(int pick, int what) throws IndexOutOfBoundsException {
        if (!weft.has(pick) || !isBelow(what, 3)) {
            throw new IndexOutOfBoundsException();
        }
        if (what == 2) {
            return shaftsMovedFor(pick);
        }
        return what == 0 ? weft.bindings[pick] : weft.colours[pick];
    }

    // ---- changes

    /** Turns the row of ends or of picks round, and tells how many there are. */
    public int reverse(boolean isWarp) {
        ThreadRow threads = rowOf(isWarp);
        threads.turn(0, threads.size);
        return threads.size;
    }

    /** Moves the row of ends or of picks on by some places, and tells how many there are. */
    public int rotate(boolean isWarp, int places) throws IllegalArgumentException {
        if (places < 0 || places > MOST) {
            throw new IllegalArgumentException();
        }
        ThreadRow threads = rowOf(isWarp);
        threads.moveOn(places);
        return threads.size;
    }

    /** Puts a copy of the row of ends or of picks behind it, and tells how many there are then. */
    public int repeat(boolean isWarp) throws IllegalStateException {
        ThreadRow threads = rowOf(isWarp);
        if (threads.size * 2 > MOST) {
            throw new IllegalStateException();
        }
        threads.addCopy();
        return threads.size;
    }

    /** Leaves so many ends or picks, from the first one on, and tells how many are gone. */
    public int cut(boolean isWarp, int left) throws IllegalArgumentException {
        ThreadRow threads = rowOf(isWarp);
        if (left < 0 || left > threads.size) {
            throw new IllegalArgumentException();
        }
        int gone = threads.size - left;
        threads.size = left;
        return gone;
    }

    // ---- the cloth

    /** Tells whether the end lies on top of the pick. */
    public boolean isWarpOnTop(int pick, int end) throws IndexOutOfBoundsException {
        if (!weft.has(pick) || !warp.has(end)) {
            throw new IndexOutOfBoundsException();
        }
        return hasBit(shaftsUpAt(pick), warp.bindings[end]);
    }

    /** Tells the colour of the thread that lies on top. */
    public int colour(int pick, int end) throws IndexOutOfBoundsException {
        if (!weft.has(pick) || !warp.has(end)) {
            throw new IndexOutOfBoundsException();
        }
        boolean isEndUp = hasBit(shaftsUpAt(pick), warp.bindings[end]);
        return isEndUp ? warp.colours[end] : weft.colours[pick];
    }

    /** Tells the length of the longest float of ends or of picks, on the front or on the back. */
    public int longestFloat(boolean isWarp, boolean isFront) {
        weave();
        cloth.countFloats(isWarp, isFront);
        int length = MOST;
        while (length > 0 && cloth.floatsOfAtLeast[length] == 0) {
            length--;
        }
        return length;
    }

    /** Tells how many floats of ends or of picks on the front have at least this length. */
    public int floats(boolean isWarp, int length) throws IllegalArgumentException {
        if (length < 1 || length > MOST) {
            throw new IllegalArgumentException();
        }
        weave();
        cloth.countFloats(isWarp, true);
        return cloth.floatsOfAtLeast[length];
    }

    /** Tells the share of the places where an end lies on top. */
    public double warpShare() {
        int places = warp.size * weft.size;
        if (places == 0) {
            return 0;
        }
        weave();
        return (double) cloth.placesWithEndUp() / places;
    }

    /** Tells the period of the row of ends or of picks, 0 if it is empty. */
    public int period(boolean isWarp) {
        return rowOf(isWarp).leastPeriod();
    }

    /** Tells the number of layers that ends and picks make. */
    public int layers() {
        weave();
        leading.follow(cloth);
        return leading.groups();
    }

    /** Tells whether there are ends and picks, and all threads are in one layer. */
    public boolean hangsTogether() {
        return warp.size > 0 && weft.size > 0 && layers() == 1;
    }

    /** Tells the colour that appears as the one with this index, in the warp and then in the weft. */
    public int colourAt(int index) throws IndexOutOfBoundsException {
        int found = colourAppearingAs(index);
        if (found < 0) {
            throw new IndexOutOfBoundsException();
        }
        return found;
    }

    /** Tells how many threads have the colour. */
    public int threadsOf(int colour) throws IndexOutOfBoundsException {
        if (!isBelow(colour, COLOURS)) {
            throw new IndexOutOfBoundsException();
        }
        return warp.threadsColoured(colour) + weft.threadsColoured(colour);
    }

    // ---- drawn cloth

    /** Begins a new drawing, and tells the number of rows that the one before had. */
    public int draw(int columns) throws IllegalArgumentException {
        if (columns < 1 || columns > MOST) {
            throw new IllegalArgumentException();
        }
        int before = drawing.size;
        drawing.columns = columns;
        drawing.size = 0;
        return before;
    }

    /** Adds a row to the drawing, and tells the number of rows. */
    public int row(long cells) throws IllegalStateException, IllegalArgumentException {
        if (drawing.columns == 0 || drawing.size == MOST) {
            throw new IllegalStateException();
        }
        if ((cells & ~allOf(drawing.columns)) != 0) {
            throw new IllegalArgumentException();
        }
        drawing.rows[drawing.size] = cells;
        drawing.size++;
        return drawing.size;
    }

    /** Puts a draft that is fitted to the drawing in the place of the draft, and tells its number of shafts. */
    public int fit() throws IllegalStateException {
        if (drawing.size == 0) {
            throw new IllegalStateException();
        }
        int shafts = drawing.numberColumns();
        int treadles = drawing.numberRows();
        if (shafts > SHAFTS || treadles > TREADLES) {
            throw new IllegalStateException();
        }
        tieAsNumbered();
        threadAsNumbered();
        return shafts;
    }

    /** Tells at how many places cloth and drawing differ, -1 if they have not the same size. */
    public int differences() {
        if (warp.size != drawing.columns || weft.size != drawing.size) {
            return -1;
        }
        weave();
        int found = 0;
        for (int pick = 0; pick < drawing.size; pick++) {
            found += Long.bitCount(cloth.endsUp[pick] ^ drawing.rows[pick]);
        }
        return found;
    }

    /** Computes a checksum of all that the loom and the drawing hold. */
    public long digest() {
        long d = digestWith(DIGEST_START, rising ? 1 : 0);
        for (int treadle = 0; treadle < TREADLES; treadle++) {
            d = digestWith(d, ties[treadle]);
        }
        d = warp.digestFrom(d);
        d = weft.digestFrom(d);
        return drawing.digestFrom(d);
    }

    // ---- what the calls share

    private static boolean isBelow(int number, int bound) {
        return number >= 0 && number < bound;
    }

    private static boolean isSetOf(int set, int things) {
        return isBelow(set, 1 << things);
    }

    private static boolean hasBit(long set, int number) {
        return (set >> number & 1) == 1;
    }

    private static long allOf(int things) {
        return (1L << things) - 1;
    }

    private static long digestWith(long d, long x) {
        return d * 31 + x;
    }

    private ThreadRow rowOf(boolean isWarp) {
        return isWarp ? warp : weft;
    }

    private int shaftsMovedFor(int pick) {
        int moved = 0;
        for (int treadle = 0; treadle < TREADLES; treadle++) {
            if (hasBit(weft.bindings[pick], treadle)) {
                moved |= ties[treadle];
            }
        }
        return moved;
    }

    private long shaftsUpAt(int pick) {
        int moved = shaftsMovedFor(pick);
        return rising ? moved : allOf(SHAFTS) & ~moved;
    }

    /** The cloth is made anew for each call that looks at all of it, so that no change can leave it stale. */
    private void weave() {
        cloth.ends = warp.size;
        cloth.picks = weft.size;
        for (int pick = 0; pick < weft.size; pick++) {
            long shaftsUp = shaftsUpAt(pick);
            long endsUp = 0;
            for (int end = 0; end < warp.size; end++) {
                if (hasBit(shaftsUp, warp.bindings[end])) {
                    endsUp |= 1L << end;
                }
            }
            cloth.endsUp[pick] = endsUp;
        }
    }

    /** Tells -1 if not so many colours appear. */
    private int colourAppearingAs(int index) {
        int seen = 0;
        int threads = warp.size + weft.size;
        for (int place = 0; place < threads; place++) {
            int colour = place < warp.size ? warp.colours[place] : weft.colours[place - warp.size];
            if (!hasBit(seen, colour)) {
                if (Integer.bitCount(seen) == index) {
                    return colour;
                }
                seen |= 1 << colour;
            }
        }
        return -1;
    }

    private void tieAsNumbered() {
        Arrays.fill(ties, 0);
        for (int row = 0; row < drawing.size; row++) {
            int shafts = 0;
            for (int column = 0; column < drawing.columns; column++) {
                if (hasBit(drawing.rows[row], column) == rising) {
                    shafts |= 1 << drawing.shaftOf[column];
                }
            }
            ties[drawing.treadleOf[row]] = shafts;
        }
    }

    private void threadAsNumbered() {
        warp.size = 0;
        for (int column = 0; column < drawing.columns; column++) {
            warp.add(drawing.shaftOf[column], FITTED_END_COLOUR);
        }
        weft.size = 0;
        for (int row = 0; row < drawing.size; row++) {
            weft.add(1 << drawing.treadleOf[row], FITTED_PICK_COLOUR);
        }
    }

    /** The ends or the picks: what binds each (its shaft, or its set of treadles), and its colour. */
    private static final class ThreadRow {
        private final int[] bindings = new int[MOST];
        private final int[] colours = new int[MOST];
        private int size;

        private boolean has(int place) {
            return isBelow(place, size);
        }

        private boolean isFull() {
            return size == MOST;
        }

        private int add(int binding, int colour) {
            int place = size;
            bindings[place] = binding;
            colours[place] = colour;
            size++;
            return place;
        }

        private void addCopy() {
            int copied = size;
            for (int place = 0; place < copied; place++) {
                add(bindings[place], colours[place]);
            }
        }

        /** Turns round what stands from one place on and ahead of the other. */
        private void turn(int from, int to) {
            int low = from;
            int high = to - 1;
            while (low < high) {
                swap(low, high);
                low++;
                high--;
            }
        }

        private void swap(int one, int other) {
            int binding = bindings[one];
            int colour = colours[one];
            bindings[one] = bindings[other];
            colours[one] = colours[other];
            bindings[other] = binding;
            colours[other] = colour;
        }

        /** Three turns move the row on in its own place, so that no second row is needed. */
        private void moveOn(int places) {
            if (size > 0) {
                int first = places % size;
                turn(0, size);
                turn(0, first);
                turn(first, size);
            }
        }

        private int leastPeriod() {
            for (int k = 1; k < size; k++) {
                if (repeatsAfter(k)) {
                    return k;
                }
            }
            return size;
        }

        private boolean repeatsAfter(int k) {
            for (int place = k; place < size; place++) {
                int ahead = place - k;
                if (bindings[place] != bindings[ahead] || colours[place] != colours[ahead]) {
                    return false;
                }
            }
            return true;
        }

        private int threadsColoured(int colour) {
            int found = 0;
            for (int place = 0; place < size; place++) {
                if (colours[place] == colour) {
                    found++;
                }
            }
            return found;
        }

        private long digestFrom(long start) {
            long d = digestWith(start, size);
            for (int place = 0; place < size; place++) {
                d = digestWith(d, bindings[place]);
                d = digestWith(d, colours[place]);
            }
            return d;
        }
    }

    /** Which thread lies on top where: for each pick the set of ends that lie on top of it. */
    private static final class Cloth {
        private final long[] endsUp = new long[MOST];
        private final int[] floatsOfAtLeast = new int[MOST + 1];
        private int ends;
        private int picks;

        /** A float is counted at each length that it reaches, so each length has all that are no shorter. */
        private void countFloats(boolean isWarp, boolean isFront) {
            Arrays.fill(floatsOfAtLeast, 0);
            boolean isEndSought = isWarp == isFront;
            int threads = isWarp ? ends : picks;
            int crossings = isWarp ? picks : ends;
            for (int thread = 0; thread < threads; thread++) {
                int length = 0;
                for (int crossing = 0; crossing < crossings; crossing++) {
                    boolean isEndUp = isWarp ? isUp(crossing, thread) : isUp(thread, crossing);
                    length = isEndUp == isEndSought ? length + 1 : 0;
                    if (length > 0) {
                        floatsOfAtLeast[length]++;
                    }
                }
            }
        }

        private boolean isUp(int pick, int end) {
            return hasBit(endsUp[pick], end);
        }

        private int placesWithEndUp() {
            int found = 0;
            for (int pick = 0; pick < picks; pick++) {
                found += Long.bitCount(endsUp[pick]);
            }
            return found;
        }

        private long picksUnder(int end) {
            long under = 0;
            for (int pick = 0; pick < picks; pick++) {
                if (isUp(pick, end)) {
                    under |= 1L << pick;
                }
            }
            return under;
        }

        private long endsUnder(int pick) {
            return allOf(ends) & ~endsUp[pick];
        }
    }

    /** Which thread leads to which, by way of others too; ends are numbered first, then picks. */
    private static final class Leading {
        private final long[] toEnds = new long[2 * MOST];
        private final long[] toPicks = new long[2 * MOST];
        private int ends;
        private int threads;

        private void follow(Cloth cloth) {
            begin(cloth);
            for (int via = 0; via < threads; via++) {
                for (int from = 0; from < threads; from++) {
                    if (leads(from, via)) {
                        toEnds[from] |= toEnds[via];
                        toPicks[from] |= toPicks[via];
                    }
                }
            }
        }

        private void begin(Cloth cloth) {
            ends = cloth.ends;
            threads = cloth.ends + cloth.picks;
            for (int end = 0; end < ends; end++) {
                toEnds[end] = 0;
                toPicks[end] = cloth.picksUnder(end);
            }
            for (int pick = 0; pick < cloth.picks; pick++) {
                toEnds[ends + pick] = cloth.endsUnder(pick);
                toPicks[ends + pick] = 0;
            }
        }

        private boolean leads(int from, int to) {
            return to < ends ? hasBit(toEnds[from], to) : hasBit(toPicks[from], to - ends);
        }

        /** Threads that lead to each other are one group, which its first thread counts for. */
        private int groups() {
            int found = 0;
            for (int thread = 0; thread < threads; thread++) {
                if (isFirstOfGroup(thread)) {
                    found++;
                }
            }
            return found;
        }

        private boolean isFirstOfGroup(int thread) {
            for (int other = 0; other < thread; other++) {
                if (leads(thread, other) && leads(other, thread)) {
                    return false;
                }
            }
            return true;
        }
    }

    /** The drawn cloth, and how its columns and rows were numbered when a draft was last fitted to it. */
    private static final class Drawing {
        private final long[] rows = new long[MOST];
        private final long[] columnCells = new long[MOST];
        private final int[] shaftOf = new int[MOST];
        private final int[] treadleOf = new int[MOST];
        private int columns;
        private int size;

        /** Tells how many shafts the columns need. */
        private int numberColumns() {
            for (int column = 0; column < columns; column++) {
                columnCells[column] = cellsOfColumn(column);
            }
            return numberAlike(columnCells, columns, shaftOf);
        }

        /** Tells how many treadles the rows need. */
        private int numberRows() {
            return numberAlike(rows, size, treadleOf);
        }

        private long cellsOfColumn(int column) {
            long cells = 0;
            for (int row = 0; row < size; row++) {
                if (hasBit(rows[row], column)) {
                    cells |= 1L << row;
                }
            }
            return cells;
        }

        /** Numbers things in the order in which they appear, equal ones alike, and tells how many numbers that took. */
        private static int numberAlike(long[] things, int count, int[] numbers) {
            int taken = 0;
            for (int place = 0; place < count; place++) {
                int first = firstLike(things, place);
                if (first < place) {
                    numbers[place] = numbers[first];
                } else {
                    numbers[place] = taken;
                    taken++;
                }
            }
            return taken;
        }

        private static int firstLike(long[] things, int place) {
            int first = 0;
            while (first < place && things[first] != things[place]) {
                first++;
            }
            return first;
        }

        private long digestFrom(long start) {
            long d = digestWith(start, columns);
            d = digestWith(d, size);
            for (int row = 0; row < size; row++) {
                d = digestWith(d, rows[row]);
            }
            return d;
        }
    }
}
