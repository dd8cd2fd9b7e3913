import java.util.ArrayList;
import java.util.Collections;
import java.util.List;
import java.util.function.Supplier;

/**
 * Long runs of calls beside a model that is written from the document in another way: lists of threads,
 * a table of what lies on top, and a search for the layers. The arguments come from a fixed row of numbers.
 */
final class ModelTest {
    private static final int RUNS = 300;
    private static final int CALLS = 512;
    private static final int MOST_CALLS_OF_A_STEP = 45;

    private ModelTest() {
    }

    public static void main(String[] args) {
        for (int run = 0; run < RUNS; run++) {
            new Run(run).go();
        }
        Check.finish(ModelTest.class);
    }

    private record Yarn(int binding, int colour) {
    }

    private static final class Run {
        private final int number;
        private long state;
        private int calls = 0;
        private final LoomDraft draft = new LoomDraft();
        private List<Yarn> ends = new ArrayList<>();
        private List<Yarn> picks = new ArrayList<>();
        private final int[] ties = new int[10];
        private boolean rising = true;
        private int columns = 0;
        private List<Long> rows = new ArrayList<>();

        private Run(int number) {
            this.number = number;
            this.state = number;
        }

        private int below(int bound) {
            state = state * 6364136223846793005L + 1442695040888963407L;
            return (int) Long.remainderUnsigned(state >>> 33, bound);
        }

        /** Mostly a good number below the bound, at times one beside it. */
        private int about(int bound) {
            return below(25) == 0 ? below(2) * (bound + 1) - 1 : below(bound);
        }

        private boolean either() {
            return below(2) == 0;
        }

        /** An object is used for just as many calls as the document promises answers for. */
        private void go() {
            while (calls + MOST_CALLS_OF_A_STEP <= CALLS) {
                change();
                ask();
                due("digest", draft::digest, digest());
            }
            while (calls < CALLS) {
                due("digest", draft::digest, digest());
            }
        }

        private void due(String what, Supplier<?> call, Object due) {
            calls++;
            Check.same("run " + number + ", call " + calls + ", " + what, Check.answer(call), due);
        }

        private void change() {
            boolean isWarp = either();
            switch (below(14)) {
                case 0, 1, 2 -> thread(about(1 + below(8)), about(1 + below(8)));
                case 3, 4, 5 -> tread(below(3) == 0 ? about(1024) : 1 << below(4), about(1 + below(8)));
                case 6, 7 -> tie(about(10), about(256));
                case 8 -> setRising(either());
                case 9 -> reverse(isWarp);
                case 10 -> rotate(isWarp, about(41));
                case 11 -> repeat(isWarp);
                case 12 -> cut(isWarp, below(4) > 0 ? threads(isWarp).size() : about(threads(isWarp).size() + 1));
                default -> drawing();
            }
        }

        private void drawing() {
            switch (below(6)) {
                case 0 -> draw(about(41));
                case 1 -> drawCloth();
                case 2 -> fit();
                default -> {
                    for (int more = below(12); more >= 0; more--) {
                        row(below(4) == 0 || rows.isEmpty() ? someCells() : rows.get(below(rows.size())));
                    }
                }
            }
        }

        private long someCells() {
            if (columns == 0 || below(12) == 0) {
                return 1L << columns;
            }
            long all = -1L >>> 64 - columns;
            int step = 1 + below(8);
            long cells = 0;
            for (int column = below(step); column < columns; column += step) {
                cells |= 1L << column;
            }
            return either() ? cells : all & ~cells;
        }

        private List<Yarn> threads(boolean isWarp) {
            return isWarp ? ends : picks;
        }

        private void thread(int shaft, int colour) {
            boolean isBad = shaft < 0 || shaft > 7 || colour < 0 || colour > 7;
            Object due = isBad ? Check.ARGUMENT : ends.size() == 40 ? Check.STATE : (Object) ends.size();
            due("thread", () -> draft.thread(shaft, colour), due);
            if (due instanceof Integer) {
                ends.add(new Yarn(shaft, colour));
            }
        }

        private void tread(int treadles, int colour) {
            boolean isBad = treadles < 0 || treadles > 1023 || colour < 0 || colour > 7;
            Object due = isBad ? Check.ARGUMENT : picks.size() == 40 ? Check.STATE : (Object) picks.size();
            due("tread", () -> draft.tread(treadles, colour), due);
            if (due instanceof Integer) {
                picks.add(new Yarn(treadles, colour));
            }
        }

        private void tie(int treadle, int shafts) {
            Object due = treadle < 0 || treadle > 9 ? Check.INDEX : shafts < 0 || shafts > 255 ? Check.ARGUMENT
                : (Object) ties[treadle];
            due("tie", () -> draft.tie(treadle, shafts), due);
            if (due instanceof Integer) {
                ties[treadle] = shafts;
            }
        }

        private void setRising(boolean isRising) {
            due("setRising", () -> draft.setRising(isRising), rising);
            rising = isRising;
        }

        private void reverse(boolean isWarp) {
            due("reverse", () -> draft.reverse(isWarp), threads(isWarp).size());
            Collections.reverse(threads(isWarp));
        }

        private void rotate(boolean isWarp, int places) {
            boolean isBad = places < 0 || places > 40;
            due("rotate", () -> draft.rotate(isWarp, places), isBad ? Check.ARGUMENT : threads(isWarp).size());
            if (!isBad) {
                Collections.rotate(threads(isWarp), places);
            }
        }

        private void repeat(boolean isWarp) {
            List<Yarn> threads = threads(isWarp);
            boolean isBad = threads.size() > 20;
            due("repeat", () -> draft.repeat(isWarp), isBad ? Check.STATE : 2 * threads.size());
            if (!isBad) {
                threads.addAll(List.copyOf(threads));
            }
        }

        private void cut(boolean isWarp, int left) {
            List<Yarn> threads = threads(isWarp);
            boolean isBad = left < 0 || left > threads.size();
            due("cut", () -> draft.cut(isWarp, left), isBad ? Check.ARGUMENT : threads.size() - left);
            if (!isBad) {
                threads.subList(left, threads.size()).clear();
            }
        }

        private void draw(int wanted) {
            boolean isBad = wanted < 1 || wanted > 40;
            due("draw", () -> draft.draw(wanted), isBad ? Check.ARGUMENT : rows.size());
            if (!isBad) {
                columns = wanted;
                rows.clear();
            }
        }

        /** Draws what is woven, so that differences and fit have something to find. */
        private void drawCloth() {
            draw(ends.size());
            for (int pick = 0; pick < picks.size() && columns == ends.size(); pick++) {
                long cells = 0;
                for (int end = 0; end < ends.size(); end++) {
                    cells += isUp(pick, end) ? 1L << end : 0;
                }
                row(cells);
            }
        }

        private void row(long cells) {
            Object due = columns == 0 || rows.size() == 40 ? Check.STATE
                : cells < 0 || cells >= 1L << columns ? Check.ARGUMENT : (Object) (rows.size() + 1);
            due("row", () -> draft.row(cells), due);
            if (due instanceof Integer) {
                rows.add(cells);
            }
        }

        private String column(int column) {
            StringBuilder text = new StringBuilder();
            for (long cells : rows) {
                text.append((cells & 1L << column) != 0);
            }
            return text.toString();
        }

        private void fit() {
            List<String> shafts = new ArrayList<>();
            List<Long> treadles = new ArrayList<>();
            List<Yarn> fittedEnds = new ArrayList<>();
            List<Yarn> fittedPicks = new ArrayList<>();
            for (int column = 0; column < columns; column++) {
                if (!shafts.contains(column(column))) {
                    shafts.add(column(column));
                }
                fittedEnds.add(new Yarn(shafts.indexOf(column(column)), 0));
            }
            for (Long cells : rows) {
                if (!treadles.contains(cells)) {
                    treadles.add(cells);
                }
                fittedPicks.add(new Yarn(1 << treadles.indexOf(cells), 1));
            }
            boolean isBad = rows.isEmpty() || shafts.size() > 8 || treadles.size() > 10;
            due("fit", draft::fit, isBad ? Check.STATE : shafts.size());
            if (isBad) {
                return;
            }
            ends = fittedEnds;
            picks = fittedPicks;
            for (int treadle = 0; treadle < 10; treadle++) {
                int tied = 0;
                for (int shaft = 0; shaft < shafts.size() && treadle < treadles.size(); shaft++) {
                    boolean isUp = shafts.get(shaft).startsWith("true", placeInText(shafts.get(shaft),
                        rows.indexOf(treadles.get(treadle))));
                    tied += isUp == rising ? 1 << shaft : 0;
                }
                ties[treadle] = tied;
            }
            due("differences after fit", draft::differences, 0);
        }

        /** Where the answer for this row begins in a column's text. */
        private static int placeInText(String text, int row) {
            int place = 0;
            for (int gone = 0; gone < row; gone++) {
                place += text.startsWith("true", place) ? 4 : 5;
            }
            return place;
        }

        private int moved(int pick) {
            int moved = 0;
            for (int treadle = 0; treadle < 10; treadle++) {
                if ((picks.get(pick).binding() & 1 << treadle) != 0) {
                    moved |= ties[treadle];
                }
            }
            return moved;
        }

        private boolean isUp(int pick, int end) {
            return ((moved(pick) & 1 << ends.get(end).binding()) != 0) == rising;
        }

        private void ask() {
            boolean isWarp = either();
            switch (below(12)) {
                case 0 -> askThread(isWarp, about(threads(isWarp).size() + 1), about(isWarp ? 2 : 3));
                case 1, 2 -> askCrossing(about(picks.size() + 1), about(ends.size() + 1));
                case 3 -> askLongest(isWarp, either());
                case 4 -> askFloats(isWarp, either() ? about(6) : about(42));
                case 5 -> due("warpShare", draft::warpShare, warpShare());
                case 6 -> due("period", () -> draft.period(isWarp), period(threads(isWarp)));
                case 7, 8 -> askLayers();
                case 9 -> askColourAt(about(9));
                case 10 -> askThreadsOf(about(8));
                default -> {
                    due("differences", draft::differences, differences());
                    due("count", () -> draft.count(isWarp), threads(isWarp).size());
                }
            }
        }

        private void askThread(boolean isWarp, int place, int what) {
            Object due = Check.INDEX;
            if (place >= 0 && place < threads(isWarp).size() && what >= 0 && what < (isWarp ? 2 : 3)) {
                Yarn yarn = threads(isWarp).get(place);
                due = what == 0 ? yarn.binding() : what == 1 ? yarn.colour() : moved(place);
            }
            due(isWarp ? "end" : "pick", () -> isWarp ? draft.end(place, what) : draft.pick(place, what), due);
        }

        private void askCrossing(int pick, int end) {
            boolean isThere = pick >= 0 && pick < picks.size() && end >= 0 && end < ends.size();
            Object top = isThere ? isUp(pick, end) : Check.INDEX;
            Object colour = !isThere ? Check.INDEX : isUp(pick, end) ? ends.get(end).colour() : picks.get(pick).colour();
            due("isWarpOnTop", () -> draft.isWarpOnTop(pick, end), top);
            due("colour", () -> draft.colour(pick, end), colour);
        }

        /** The lengths of all floats, from the texts of what lies on top. */
        private List<Integer> floatLengths(boolean isWarp, boolean isFront) {
            List<Integer> lengths = new ArrayList<>();
            for (int thread = 0; thread < threads(isWarp).size(); thread++) {
                StringBuilder text = new StringBuilder();
                for (int other = 0; other < threads(!isWarp).size(); other++) {
                    boolean isEndUp = isWarp ? isUp(other, thread) : isUp(thread, other);
                    boolean isFloat = isWarp ? isEndUp == isFront : isEndUp != isFront;
                    text.append(isFloat ? "x" : " ");
                }
                for (String part : text.toString().split(" ")) {
                    if (!part.isEmpty()) {
                        lengths.add(part.length());
                    }
                }
            }
            return lengths;
        }

        private void askLongest(boolean isWarp, boolean isFront) {
            int longest = 0;
            for (int length : floatLengths(isWarp, isFront)) {
                longest = Math.max(longest, length);
            }
            due("longestFloat", () -> draft.longestFloat(isWarp, isFront), longest);
        }

        private void askFloats(boolean isWarp, int least) {
            int found = 0;
            for (int length : floatLengths(isWarp, true)) {
                found += length >= least ? 1 : 0;
            }
            due("floats", () -> draft.floats(isWarp, least), least < 1 || least > 40 ? Check.ARGUMENT : found);
        }

        private double warpShare() {
            double up = 0;
            for (int pick = 0; pick < picks.size(); pick++) {
                for (int end = 0; end < ends.size(); end++) {
                    up += isUp(pick, end) ? 1 : 0;
                }
            }
            return picks.isEmpty() || ends.isEmpty() ? 0 : up / (picks.size() * ends.size());
        }

        private static int period(List<Yarn> threads) {
            int k = threads.isEmpty() ? 0 : 1;
            while (!threads.subList(k, threads.size()).equals(threads.subList(0, threads.size() - k))) {
                k++;
            }
            return k;
        }

        /** Marks all threads to which one leads, by a search from it. */
        private void mark(int from, boolean[] marked) {
            marked[from] = true;
            int all = ends.size() + picks.size();
            for (int to = 0; to < all; to++) {
                if (!marked[to] && leads(from, to)) {
                    mark(to, marked);
                }
            }
        }

        private boolean leads(int from, int to) {
            boolean isFromEnd = from < ends.size();
            if (isFromEnd == to < ends.size()) {
                return false;
            }
            return isFromEnd ? isUp(to - ends.size(), from) : !isUp(from - ends.size(), to);
        }

        private void askLayers() {
            int all = ends.size() + picks.size();
            boolean[][] marked = new boolean[all][all];
            for (int thread = 0; thread < all; thread++) {
                mark(thread, marked[thread]);
            }
            int layers = 0;
            boolean[] counted = new boolean[all];
            for (int thread = 0; thread < all; thread++) {
                layers += counted[thread] ? 0 : 1;
                for (int other = thread; other < all; other++) {
                    counted[other] |= marked[thread][other] && marked[other][thread];
                }
            }
            due("layers", draft::layers, layers);
            due("hangsTogether", draft::hangsTogether, layers == 1 && !ends.isEmpty() && !picks.isEmpty());
        }

        private List<Integer> colours() {
            List<Integer> colours = new ArrayList<>();
            ends.forEach(yarn -> colours.add(yarn.colour()));
            picks.forEach(yarn -> colours.add(yarn.colour()));
            return colours;
        }

        private void askColourAt(int index) {
            List<Integer> different = colours().stream().distinct().toList();
            boolean isThere = index >= 0 && index < different.size();
            due("colourAt", () -> draft.colourAt(index), isThere ? different.get(index) : Check.INDEX);
        }

        private void askThreadsOf(int colour) {
            Object due = colour < 0 || colour > 7 ? Check.INDEX : Collections.frequency(colours(), colour);
            due("threadsOf", () -> draft.threadsOf(colour), due);
        }

        private int differences() {
            if (ends.size() != columns || picks.size() != rows.size()) {
                return -1;
            }
            int found = 0;
            for (int pick = 0; pick < rows.size(); pick++) {
                for (int column = 0; column < columns; column++) {
                    found += ((rows.get(pick) >> column & 1) == 1) == isUp(pick, column) ? 0 : 1;
                }
            }
            return found;
        }

        private long digest() {
            List<Long> numbers = new ArrayList<>();
            numbers.add(rising ? 1L : 0L);
            for (int shafts : ties) {
                numbers.add((long) shafts);
            }
            for (List<Yarn> threads : List.of(ends, picks)) {
                numbers.add((long) threads.size());
                for (Yarn yarn : threads) {
                    numbers.add((long) yarn.binding());
                    numbers.add((long) yarn.colour());
                }
            }
            numbers.add((long) columns);
            numbers.add((long) rows.size());
            numbers.addAll(rows);
            long d = 241;
            for (long x : numbers) {
                d = d * 31 + x;
            }
            return d;
        }
    }
}
