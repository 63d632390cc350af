import java.util.Arrays;

/**
 * Sets of points of whole numbers that are told by rows with one or two names, each once, plus or minus.
 *
 * <p>A TERM has a PLACE: 1, -1, 2, -2, .. stand at 0, 1, 2, 3, .. , so that place ^ 1 is the opposite TERM.
 */
public final class LinearRows {
    public static final long ENDLESS = 4611686018427387904L;

    private static final int MOST_NAMES = 5;
    private static final int SHAPES = 8;
    private static final long MOST_GIVEN = 1000000000L;
    private static final long MOST_BOUND = 1000000000000000L;
    private static final int MOST_BITS = 62;
    private static final int PARTS_OF_A_ROW = 3;
    private static final int TOLD_EMPTY = 9;

    private final int names;
    private final int places;
    private final Shape[] shapes;
    /** What a call is about to make of a SHAPE: apart, so that it may be one of those read, and may be refused. */
    private final Shape made;
    private final Table left;
    private final Table trial;
    private final long[] numbers;
    private final long[] neededRows;
    private int neededCount;

    public LinearRows(int n) {
        names = Math.max(1, Math.min(MOST_NAMES, n));
        places = 2 * names;
        shapes = new Shape[SHAPES];
        for (int s = 0; s < SHAPES; s++) {
            shapes[s] = new Shape(places);
        }
        made = new Shape(places);
        left = new Table(places);
        trial = new Table(places);
        numbers = new long[names];
        neededRows = new long[PARTS_OF_A_ROW * places * places / 2];
        neededCount = 0;
    }

    public void all(int s) throws IndexOutOfBoundsException {
        checkShape(s);
        shapes[s].becomeAll();
    }

    public int row(int s, int a, int b, long c)
            throws IndexOutOfBoundsException, IllegalArgumentException, ArithmeticException {
        checkShape(s);
        checkTerm(a);
        checkTerm(b);
        checkGiven(c);
        made.becomeLike(shapes[s]);
        made.addRow(a, b, c);
        return takeMade(s);
    }

    public long bound(int s, int a, int b) throws IndexOutOfBoundsException {
        checkShape(s);
        checkTerm(a);
        checkTerm(b);
        return shapes[s].greatest(a, b);
    }

    public long kept(int s, int a, int b) throws IndexOutOfBoundsException {
        checkShape(s);
        checkTerm(a);
        checkTerm(b);
        if (a == b || a == -b) {
            return ENDLESS;
        }
        return shapes[s].keptRows.ofTerms(a, b);
    }

    public int meet(int t, int s, int u) throws IndexOutOfBoundsException, ArithmeticException {
        checkShapes(t, s, u);
        made.becomeMeeting(shapes[s], shapes[u]);
        return takeMade(t);
    }

    public int join(int t, int s, int u) throws IndexOutOfBoundsException {
        checkShapes(t, s, u);
        made.becomeJoin(shapes[s], shapes[u]);
        return takeMade(t);
    }

    public int widen(int t, int s, int u) throws IndexOutOfBoundsException, ArithmeticException {
        checkShapes(t, s, u);
        made.becomeWidened(shapes[s], shapes[u]);
        return takeMade(t);
    }

    public int narrow(int t, int s, int u) throws IndexOutOfBoundsException, ArithmeticException {
        checkShapes(t, s, u);
        made.becomeNarrowed(shapes[s], shapes[u]);
        return takeMade(t);
    }

    public void copy(int t, int s) throws IndexOutOfBoundsException {
        checkShape(t);
        checkShape(s);
        shapes[t].becomeLike(shapes[s]);
    }

    public int set(int s, int x, int a, long c)
            throws IndexOutOfBoundsException, IllegalArgumentException, ArithmeticException {
        checkShape(s);
        checkName(x);
        checkTerm(a);
        checkGiven(c);
        made.becomeAssigned(shapes[s], x, a, c);
        return takeMade(s);
    }

    public int forget(int s, int x) throws IndexOutOfBoundsException {
        checkShape(s);
        checkName(x);
        made.becomeFree(shapes[s], x);
        return takeMade(s);
    }

    public boolean within(int s, int u) throws IndexOutOfBoundsException {
        checkShape(s);
        checkShape(u);
        if (shapes[s].empty) {
            return true;
        }
        return !shapes[u].empty && shapes[s].bounds.isNowhereAbove(shapes[u].bounds);
    }

    public long put(int name, long v) throws IndexOutOfBoundsException, IllegalArgumentException {
        checkName(name);
        checkGiven(v);
        long before = numbers[name - 1];
        numbers[name - 1] = v;
        return before;
    }

    public long point(int name) throws IndexOutOfBoundsException {
        checkName(name);
        return numbers[name - 1];
    }

    public boolean has(int s) throws IndexOutOfBoundsException {
        checkShape(s);
        if (shapes[s].empty) {
            return false;
        }
        for (int i = 0; i < places; i++) {
            for (int j = i; j < places; j++) {
                if (numberAt(i) + numberAt(j) > shapes[s].bounds.at(i, j)) {
                    return false;
                }
            }
        }
        return true;
    }

    public boolean sample(int s) throws IndexOutOfBoundsException {
        checkShape(s);
        if (shapes[s].empty) {
            return false;
        }
        for (int name = 1; name <= names; name++) {
            numbers[name - 1] = sampleNumber(shapes[s].bounds, name);
        }
        return true;
    }

    public int needed(int s) throws IndexOutOfBoundsException {
        checkShape(s);
        neededCount = 0;
        if (shapes[s].empty) {
            tellRow(0, 0, -1);
            return neededCount;
        }
        left.takeFrom(shapes[s].bounds);
        leaveOutPairs();
        leaveOutSingles();
        tellLeftRows();
        return neededCount;
    }

    public long needs(int k, int what) throws IndexOutOfBoundsException {
        if (k < 0 || k >= neededCount || what < 0 || what >= PARTS_OF_A_ROW) {
            throw new IndexOutOfBoundsException("no such needed row, or no such part of it");
        }
        return neededRows[PARTS_OF_A_ROW * k + what];
    }

    public boolean fits(int s, int a, int bits) throws IndexOutOfBoundsException, IllegalArgumentException {
        checkShape(s);
        checkTerm(a);
        if (bits < 1 || bits > MOST_BITS) {
            throw new IllegalArgumentException("bits is not 1 to 62");
        }
        long span = 1L << (bits - 1);
        return shapes[s].greatest(a, 0) <= span - 1 && shapes[s].greatest(-a, 0) <= span;
    }

    public int array(int s, int index, int length) throws IndexOutOfBoundsException {
        checkShape(s);
        checkName(index);
        checkName(length);
        if (index == length) {
            throw new IndexOutOfBoundsException("index and length are the same name");
        }
        Shape shape = shapes[s];
        if (shape.greatest(-index, 0) <= 0 && shape.greatest(index, -length) <= -1) {
            return 1;
        }
        trial.takeFrom(shape.bounds);
        trial.lowerTo(placeOf(-index), placeOf(-index), 0);
        trial.lowerTo(placeOf(index), placeOf(-length), -1);
        return trial.close() ? 0 : -1;
    }

    public int told(int what) throws IndexOutOfBoundsException {
        if (what < 0 || what > TOLD_EMPTY) {
            throw new IndexOutOfBoundsException("what is not 0 to 9");
        }
        if (what == 0) {
            return names;
        }
        return what == TOLD_EMPTY ? countEmpty() : shapes[what - 1].keptRows.countRows();
    }

    private static void checkShape(int s) {
        if (s < 0 || s >= SHAPES) {
            throw new IndexOutOfBoundsException("no such shape");
        }
    }

    private static void checkShapes(int t, int s, int u) {
        checkShape(t);
        checkShape(s);
        checkShape(u);
    }

    private void checkName(int name) {
        if (name < 1 || name > names) {
            throw new IndexOutOfBoundsException("no such name");
        }
    }

    private void checkTerm(int term) {
        if (term < -names || term > names) {
            throw new IndexOutOfBoundsException("no such term");
        }
    }

    private static void checkGiven(long c) {
        if (c < -MOST_GIVEN || c > MOST_GIVEN) {
            throw new IllegalArgumentException("the number is not -1000000000 to 1000000000");
        }
    }

    private static int placeOf(int term) {
        return term > 0 ? 2 * (term - 1) : 2 * (-term - 1) + 1;
    }

    private static int termAt(int place) {
        int name = place / 2 + 1;
        return place % 2 == 0 ? name : -name;
    }

    /** The lowest place of a NAME greater than that of the TERM at a place. */
    private static int placeOfNextName(int place) {
        return (place | 1) + 1;
    }

    private static long plus(long c, long d) {
        return c == ENDLESS || d == ENDLESS ? ENDLESS : c + d;
    }

    private int takeMade(int t) {
        if (!made.empty && made.bounds.isTooFar()) {
            throw new ArithmeticException("a bound is beyond 10^15");
        }
        shapes[t].becomeLike(made);
        return made.empty ? 0 : 1;
    }

    private int countEmpty() {
        int count = 0;
        for (int s = 0; s < SHAPES; s++) {
            count += shapes[s].empty ? 1 : 0;
        }
        return count;
    }

    private long numberAt(int place) {
        long number = numbers[place / 2];
        return place % 2 == 0 ? number : -number;
    }

    private long sampleNumber(Table bounds, int name) {
        long lessLeast = greatestBeside(bounds, placeOf(-name));
        if (lessLeast != ENDLESS) {
            return -lessLeast;
        }
        long greatest = greatestBeside(bounds, placeOf(name));
        return greatest != ENDLESS ? greatest : 0;
    }

    /**
     * The greatest that the TERM at a place can be beside THE POINT's numbers for the NAMES before its own.
     * As the bounds are closed exactly, the rows with later NAMES forbid no more.
     */
    private long greatestBeside(Table bounds, int place) {
        long greatest = bounds.half(place);
        int firstOfName = place - place % 2;
        for (int j = 0; j < firstOfName; j++) {
            greatest = Math.min(greatest, plus(bounds.at(place, j), -numberAt(j)));
        }
        return greatest;
    }

    private void leaveOutPairs() {
        for (int i = places - 1; i >= 0; i--) {
            for (int j = places - 1; j >= placeOfNextName(i); j--) {
                leaveOutUnlessNeeded(i, j);
            }
        }
    }

    private void leaveOutSingles() {
        for (int i = places - 1; i >= 0; i--) {
            leaveOutUnlessNeeded(i, i);
        }
    }

    private void leaveOutUnlessNeeded(int i, int j) {
        long c = left.at(i, j);
        if (c == ENDLESS) {
            return;
        }
        left.store(i, j, ENDLESS);
        trial.takeFrom(left);
        if (trial.close() && trial.at(i, j) > c) {
            left.store(i, j, c);
        }
    }

    private void tellLeftRows() {
        for (int i = 0; i < places; i++) {
            if (left.at(i, i) != ENDLESS) {
                tellRow(termAt(i), 0, left.half(i));
            }
        }
        for (int i = 0; i < places; i++) {
            for (int j = placeOfNextName(i); j < places; j++) {
                if (left.at(i, j) != ENDLESS) {
                    tellRow(termAt(i), termAt(j), left.at(i, j));
                }
            }
        }
    }

    private void tellRow(int first, int second, long c) {
        int from = PARTS_OF_A_ROW * neededCount;
        neededRows[from] = first;
        neededRows[from + 1] = second;
        neededRows[from + 2] = c;
        neededCount++;
    }

    /**
     * For each two places a c that their TERMS together do not pass, ENDLESS without; the same in both orders.
     * A place with itself is its TERM twice, always with an even c, so that a TERM alone needs no cell of its own.
     */
    private static final class Table {
        private final int size;
        private final long[] cells;

        Table(int size) {
            this.size = size;
            cells = new long[size * size];
            Arrays.fill(cells, ENDLESS);
        }

        long at(int i, int j) {
            return cells[i * size + j];
        }

        long half(int i) {
            return at(i, i) == ENDLESS ? ENDLESS : at(i, i) / 2;
        }

        /** Of two TERMS, not both 0 and not opposite ones. */
        long ofTerms(int a, int b) {
            if (a == 0 || b == 0) {
                return half(placeOf(a == 0 ? b : a));
            }
            return at(placeOf(a), placeOf(b));
        }

        void store(int i, int j, long c) {
            cells[i * size + j] = c;
            cells[j * size + i] = c;
        }

        void lowerTo(int i, int j, long c) {
            store(i, j, Math.min(at(i, j), c));
        }

        void takeFrom(Table other) {
            System.arraycopy(other.cells, 0, cells, 0, Math.min(cells.length, other.cells.length));
        }

        void dropRows() {
            Arrays.fill(cells, ENDLESS);
        }

        void storeOpposites(long c) {
            for (int i = 0; i < size; i++) {
                cells[i * size + (i ^ 1)] = c;
            }
        }

        int countRows() {
            int count = 0;
            for (int i = 0; i < size; i++) {
                for (int j = i; j < size; j++) {
                    count += at(i, j) == ENDLESS ? 0 : 1;
                }
            }
            return count;
        }

        boolean isNowhereAbove(Table other) {
            for (int i = 0; i < size; i++) {
                for (int j = i; j < size; j++) {
                    if (at(i, j) > other.at(i, j)) {
                        return false;
                    }
                }
            }
            return true;
        }

        boolean isTooFar() {
            for (int i = 0; i < size; i++) {
                for (int j = i; j < size; j++) {
                    long c = i == j ? half(i) : at(i, j);
                    if (c != ENDLESS && (c > MOST_BOUND || c < -MOST_BOUND)) {
                        return true;
                    }
                }
            }
            return false;
        }

        /**
         * Lowers each c to the BOUND over the POINTS of all rows; false, and the cells are of no use, when there is
         * no POINT. After shortest paths, cutting what a TERM alone can be to whole numbers and adding such halves
         * once is enough to be exact for whole numbers.
         */
        boolean close() {
            storeOpposites(0);
            for (int k = 0; k < size; k++) {
                chainThrough(k);
                // Looked at each time: after a contradiction the numbers would grow without measure.
                if (hasOppositesBelowZero()) {
                    return false;
                }
            }
            cutToEven();
            if (hasTwicesThatContradict()) {
                return false;
            }
            addHalves();
            return true;
        }

        private void chainThrough(int k) {
            int rowOfOpposite = (k ^ 1) * size;
            for (int i = 0; i < size; i++) {
                int rowOfI = i * size;
                long c = cells[rowOfI + k];
                if (c == ENDLESS) {
                    continue;
                }
                for (int j = 0; j < size; j++) {
                    long d = cells[rowOfOpposite + j];
                    if (d != ENDLESS && c + d < cells[rowOfI + j]) {
                        cells[rowOfI + j] = c + d;
                    }
                }
            }
        }

        private boolean hasOppositesBelowZero() {
            for (int i = 0; i < size; i++) {
                if (at(i, i ^ 1) < 0) {
                    return true;
                }
            }
            return false;
        }

        private void cutToEven() {
            for (int i = 0; i < size; i++) {
                if (at(i, i) != ENDLESS) {
                    store(i, i, 2 * Math.floorDiv(at(i, i), 2L));
                }
            }
        }

        private boolean hasTwicesThatContradict() {
            for (int i = 0; i < size; i++) {
                if (plus(at(i, i), at(i ^ 1, i ^ 1)) < 0) {
                    return true;
                }
            }
            return false;
        }

        private void addHalves() {
            for (int i = 0; i < size; i++) {
                for (int j = i + 1; j < size; j++) {
                    lowerTo(i, j, plus(half(i), half(j)));
                }
            }
        }
    }

    /** KEPT ROWS and the BOUNDS that follow from them; an EMPTY one has neither. */
    private static final class Shape {
        private final int size;
        private final Table keptRows;
        private final Table bounds;
        private boolean empty;

        Shape(int size) {
            this.size = size;
            keptRows = new Table(size);
            bounds = new Table(size);
            bounds.storeOpposites(0);
            empty = false;
        }

        void becomeAll() {
            empty = false;
            keptRows.dropRows();
            bounds.dropRows();
            bounds.storeOpposites(0);
        }

        void becomeEmpty() {
            becomeAll();
            empty = true;
        }

        void becomeLike(Shape other) {
            empty = other.empty;
            keptRows.takeFrom(other.keptRows);
            bounds.takeFrom(other.bounds);
        }

        long greatest(int a, int b) {
            if (empty) {
                return -ENDLESS;
            }
            return a == -b ? 0 : bounds.ofTerms(a, b);
        }

        void addRow(int a, int b, long c) {
            if (empty) {
                return;
            }
            if (a == -b) {
                if (c < 0) {
                    becomeEmpty();
                }
                return;
            }
            if (a == 0 || b == 0) {
                int place = placeOf(a == 0 ? b : a);
                keptRows.lowerTo(place, place, 2 * c);
            } else if (a == b) {
                keptRows.lowerTo(placeOf(a), placeOf(a), 2 * Math.floorDiv(c, 2L));
            } else {
                keptRows.lowerTo(placeOf(a), placeOf(b), c);
            }
            closeKeptRows();
        }

        void becomeMeeting(Shape one, Shape other) {
            if (one.empty || other.empty) {
                becomeEmpty();
                return;
            }
            becomeAll();
            for (int i = 0; i < size; i++) {
                for (int j = i; j < size; j++) {
                    keptRows.store(i, j, Math.min(one.bounds.at(i, j), other.bounds.at(i, j)));
                }
            }
            closeKeptRows();
            keepBounds();
        }

        void becomeJoin(Shape one, Shape other) {
            if (one.empty || other.empty) {
                becomeLike(one.empty ? other : one);
                keepBounds();
                return;
            }
            becomeAll();
            for (int i = 0; i < size; i++) {
                for (int j = i; j < size; j++) {
                    bounds.store(i, j, Math.max(one.bounds.at(i, j), other.bounds.at(i, j)));
                }
            }
            keepBounds();
        }

        void becomeWidened(Shape one, Shape by) {
            if (one.empty || by.empty) {
                becomeLike(one.empty ? by : one);
                return;
            }
            becomeAll();
            for (int i = 0; i < size; i++) {
                for (int j = i; j < size; j++) {
                    long c = one.keptRows.at(i, j);
                    keptRows.store(i, j, by.bounds.at(i, j) <= c ? c : ENDLESS);
                }
            }
            closeKeptRows();
        }

        void becomeNarrowed(Shape one, Shape by) {
            if (one.empty || by.empty) {
                becomeEmpty();
                return;
            }
            becomeAll();
            for (int i = 0; i < size; i++) {
                for (int j = i; j < size; j++) {
                    boolean isEndless = one.bounds.at(i, j) == ENDLESS;
                    keptRows.store(i, j, isEndless ? by.bounds.at(i, j) : one.keptRows.at(i, j));
                }
            }
            closeKeptRows();
        }

        /** The new BOUND of two TERMS is the old one of what they are made of, so nothing is left to close. */
        void becomeAssigned(Shape old, int x, int a, long c) {
            if (old.empty) {
                becomeEmpty();
                return;
            }
            becomeAll();
            for (int i = 0; i < size; i++) {
                for (int j = i; j < size; j++) {
                    long before = old.greatest(sourceOf(i, x, a), sourceOf(j, x, a));
                    bounds.store(i, j, plus(before, addedTo(i, x, c) + addedTo(j, x, c)));
                }
            }
            keepBounds();
        }

        void becomeFree(Shape old, int x) {
            becomeLike(old);
            if (empty) {
                return;
            }
            for (int j = 0; j < size; j++) {
                bounds.store(placeOf(x), j, ENDLESS);
                bounds.store(placeOf(-x), j, ENDLESS);
            }
            bounds.storeOpposites(0);
            keepBounds();
        }

        private static int sourceOf(int place, int x, int a) {
            int term = termAt(place);
            if (term == x) {
                return a;
            }
            return term == -x ? -a : term;
        }

        private static long addedTo(int place, int x, long c) {
            int term = termAt(place);
            if (term == x) {
                return c;
            }
            return term == -x ? -c : 0;
        }

        private void closeKeptRows() {
            bounds.takeFrom(keptRows);
            if (!bounds.close()) {
                becomeEmpty();
            }
        }

        private void keepBounds() {
            if (empty) {
                return;
            }
            keptRows.takeFrom(bounds);
            keptRows.storeOpposites(ENDLESS);
        }
    }
}
