/** Rows of slates on a roof, laid out of one heap; ../shared/DOC.md says what each call answers. */
public final class SlateRows {
    private static final int MOST_WIDTHS = 4;
    private static final int MOST_ROWS = 6;
    private static final int MOST_SLATES = 12;
    private static final int MOST_IN_HEAP = 12;
    private static final int LEAST_INCHES = 5;
    private static final int MOST_INCHES = 30;
    private static final int MOST_WORTH = 99;
    private static final int SHORTEST = 10;
    private static final int LONGEST = 60;
    private static final int MOST_LAP = 20;
    private static final int FIRST_LAP = 3;
    private static final int MOST_SHELVES = 8;
    private static final int MOST_NUMBERS = 100;
    private static final int MOST_FIGURE = 9;

    private static final int WELL = 0;
    private static final int NOT_AS_TOLD = -1;
    private static final int CANNOT_BE = -3;
    private static final int NONE = -4;
    private static final int NOTHING_HELD = -11;
    private static final int OTHER_KIND = -12;
    private static final int NO_PLACE = -13;
    private static final int SIZE_BELOW_ZERO = -14;
    private static final int NO_FAILURE = -15;
    private static final int TOIL_REFUSED = -1000000000;

    private final Roof now = new Roof();
    private final Roof kept = new Roof();
    private final Roof mind = new Roof();
    private final Shelf[] shelves = new Shelf[MOST_SHELVES];
    private boolean isKept = false;
    private Ways ways = null;

    public SlateRows() {
        for (int d = 0; d < MOST_SHELVES; d++) {
            shelves[d] = new Shelf();
        }
    }

    // ---- roofs

    public int roof(int d) {
        if (!isShelf(d)) {
            return NOT_AS_TOLD;
        }
        Shelf text = shelves[d];
        if (text.holds == Shelf.NOTHING) {
            return NOTHING_HELD;
        }
        if (text.holds != Shelf.NUMBERS || text.sort != Shelf.BYTES) {
            return OTHER_KIND;
        }
        mind.takeOver(now);
        int answer = new Reader(text, mind).read();
        if (answer >= 0) {
            now.takeOver(mind);
        }
        return answer;
    }

    public int width(int width, int what) {
        if (!isWidth(width)) {
            return NOT_AS_TOLD;
        }
        switch (what) {
            case 0:
                return now.inches[width];
            case 1:
                return now.many[width];
            case 2:
                return now.worth[width];
            default:
                return NOT_AS_TOLD;
        }
    }

    public int heap(int width, int n) {
        if (!isWidth(width) || n < 0 || n > MOST_IN_HEAP) {
            return NOT_AS_TOLD;
        }
        int was = now.many[width];
        now.many[width] = n;
        return was;
    }

    public int lap(int n) {
        if (n < 0 || n > MOST_LAP) {
            return NOT_AS_TOLD;
        }
        int was = now.lap;
        now.lap = n;
        return was;
    }

    public int rowOf(int row, int what) {
        if (!isRow(row)) {
            return NOT_AS_TOLD;
        }
        switch (what) {
            case 0:
                return now.lengths[row];
            case 1:
                return now.laid[row];
            case 2:
                return now.cutOf(row);
            default:
                return NOT_AS_TOLD;
        }
    }

    // ---- rows laid

    public int slate(int row, int i) {
        if (!isRow(row) || i < 0) {
            return NOT_AS_TOLD;
        }
        return i < now.laid[row] ? now.slateAt(row, i) : NONE;
    }

    public int joint(int row, int i) {
        if (!isRow(row) || i < 0) {
            return NOT_AS_TOLD;
        }
        // the last slate ends at the length or beyond, where no joint is
        return i < now.laid[row] - 1 ? now.endOf(row, i) : NONE;
    }

    public int may(int row, int x) {
        if (!isRow(row) || x < 1 || x >= now.lengths[row]) {
            return NOT_AS_TOLD;
        }
        return now.allowsJoint(row, x) ? 1 : 0;
    }

    public int judge(int row, int d) {
        int refusal = refusalOfTold(row, d);
        return refusal == WELL ? now.faultOf(row, shelves[d]) : refusal;
    }

    public int lay(int row, int d) {
        int refusal = refusalOfTold(row, d);
        if (refusal != WELL) {
            return refusal;
        }
        Shelf told = shelves[d];
        if (now.faultOf(row, told) != NONE) {
            return CANNOT_BE;
        }
        now.putDown(row, told.numbers, told.size);
        return now.cutOf(row);
    }

    public int takeUp(int row) {
        if (!isRow(row)) {
            return NOT_AS_TOLD;
        }
        return now.laid[row] == 0 ? CANNOT_BE : now.bringBack(row);
    }

    // ---- ways

    public int fills(int row) {
        int refusal = refusalOfOpen(row, true);
        return refusal == WELL ? waysOf(now, row).number() : refusal;
    }

    public int first(int row, int i) {
        int refusal = refusalOfOpen(row, i >= 0);
        if (refusal != WELL) {
            return refusal;
        }
        Ways found = waysOf(now, row);
        return found.findFirst() ? found.told(i) : NONE;
    }

    public int best(int row, int i) {
        int refusal = refusalOfOpen(row, i >= -1);
        if (refusal != WELL) {
            return refusal;
        }
        Ways found = waysOf(now, row);
        return found.findCheapest() ? found.told(i) : NONE;
    }

    public int cuts(int row, int i) {
        int refusal = refusalOfOpen(row, i >= -1);
        if (refusal != WELL) {
            return refusal;
        }
        Ways found = waysOf(now, row);
        return found.findLeastCut() ? found.told(i) : NONE;
    }

    public int uses(int row, int width) {
        int refusal = refusalOfOpen(row, isWidth(width));
        if (refusal != WELL) {
            return refusal;
        }
        if (now.many[width] == 0) {
            return 0;
        }
        int whole = waysOf(now, row).number();
        mind.takeOver(now);
        mind.many[width]--;
        return whole - waysOf(mind, row).number();
    }

    public int needs(int row, int width) {
        int refusal = refusalOfOpen(row, isWidth(width));
        if (refusal != WELL) {
            return refusal;
        }
        mind.takeOver(now);
        for (int n = 0; now.many[width] + n <= MOST_IN_HEAP; n++) {
            mind.many[width] = now.many[width] + n;
            if (waysOf(mind, row).hasFill()) {
                return n;
            }
        }
        return NONE;
    }

    public int ends(int row, int width) {
        int refusal = refusalOfOpen(row, isWidth(width));
        return refusal == WELL ? waysOf(now, row).numberEndingWith(width) : refusal;
    }

    public int gaps(int row) {
        if (!isRow(row)) {
            return NOT_AS_TOLD;
        }
        int found = 0;
        for (int x = 1; x < now.lengths[row]; x++) {
            if (now.allowsJoint(row, x)) {
                found++;
            }
        }
        return found;
    }

    public int two(int a, int b) {
        if (!isRow(a) || !isRow(b) || Math.abs(a - b) <= 1) {
            return NOT_AS_TOLD;
        }
        if (now.laid[a] > 0 || now.laid[b] > 0) {
            return CANNOT_BE;
        }
        int[] ofA = waysOf(now, a).takenByFills();
        int[] ofB = waysOf(now, b).takenByFills();
        return leastTogether(ofA, ofB);
    }

    public int all(int what) {
        if (what != 0 && what != 1) {
            return NOT_AS_TOLD;
        }
        mind.takeOver(now);
        int filled = 0;
        for (int row = 0; row < mind.rows; row++) {
            if (mind.laid[row] == 0) {
                Ways found = waysOf(mind, row);
                if (!found.findCheapest()) {
                    break;
                }
                mind.putDown(row, found.order, found.slates);
                filled++;
            }
        }
        return what == 0 ? filled : mind.worthOfHeap();
    }

    public int broken(int row, int i) {
        if (!isRow(row) || i < 0 || i >= now.laid[row]) {
            return NOT_AS_TOLD;
        }
        int slates = now.laid[row];
        for (int n = 1; n <= slates; n++) {
            int lastStart = Math.min(i, slates - n);
            for (int start = Math.max(0, i - n + 1); start <= lastStart; start++) {
                if (canMend(row, i, start, start + n - 1)) {
                    return n;
                }
            }
        }
        return NONE;
    }

    public int by(int row, int d, int z, int what) {
        int refusal = refusalOfOpen(row, isShelf(d) && what >= 0 && what <= 2);
        if (refusal == WELL) {
            refusal = refusalOfLaying(d);
        }
        if (refusal != WELL) {
            return refusal;
        }
        mind.takeOver(now);
        Course course = new Course(mind, row, shelves[d].laying, z);
        if (!course.comesToEnd()) {
            return NONE;
        }
        if (what == 0) {
            return course.slates;
        }
        return what == 1 ? course.place - course.length : course.asides;
    }

    // ---- the image, what is told

    public int image() {
        kept.takeOver(now);
        isKept = true;
        return kept.rows;
    }

    public int restore() {
        if (!isKept) {
            return CANNOT_BE;
        }
        now.takeOver(kept);
        return now.rows;
    }

    public int count(int what) {
        switch (what) {
            case 0:
                return now.widths;
            case 1:
                return now.rows;
            case 2:
                return now.lap;
            case 3:
                return now.slatesInHeap();
            case 4:
                return now.rowsLaid();
            case 5:
                return now.worthOfHeap();
            default:
                return NOT_AS_TOLD;
        }
    }

    // ---- shelves

    public int keep(int d, int what, int k, int figure) {
        if (!isShelf(d) || what < 0 || what > 1) {
            return NOT_AS_TOLD;
        }
        if (what == 0) {
            shelves[d].holdNothing();
            return WELL;
        }
        if (k < Laying.LAYING || k > Laying.TOLD || figure < 0 || figure > MOST_FIGURE) {
            return NOT_AS_TOLD;
        }
        shelves[d].holdLaying(new Laying(k, figure));
        return WELL;
    }

    public int row(int d, int sort, int n) {
        if (!isShelf(d) || sort < Shelf.BYTES || sort > Shelf.INTS || n > MOST_NUMBERS) {
            return NOT_AS_TOLD;
        }
        if (n < 0) {
            return SIZE_BELOW_ZERO;
        }
        shelves[d].holdNumbers(sort, n);
        return WELL;
    }

    public int put(int d, int i, int v) {
        if (!isShelf(d)) {
            return NOT_AS_TOLD;
        }
        int refusal = refusalOfNumbers(d);
        if (refusal != WELL) {
            return refusal;
        }
        if (!shelves[d].hasPlace(i)) {
            return NO_PLACE;
        }
        shelves[d].numbers[i] = shelves[d].narrowed(v);
        return WELL;
    }

    public long element(int d, int i) throws IllegalArgumentException, IllegalStateException {
        if (!isShelf(d)) {
            throw new IllegalArgumentException("no such shelf");
        }
        Shelf shelf = shelves[d];
        if (shelf.holds != Shelf.NUMBERS || !shelf.hasPlace(i)) {
            throw new IllegalStateException("no such element");
        }
        return shelf.numbers[i];
    }

    public int copy(int d, int i, int e, int j, int n) {
        if (!isShelf(d) || !isShelf(e)) {
            return NOT_AS_TOLD;
        }
        Shelf source = shelves[d];
        Shelf target = shelves[e];
        if (source.holds == Shelf.NOTHING || target.holds == Shelf.NOTHING) {
            return NOTHING_HELD;
        }
        if (source.holds != Shelf.NUMBERS || target.holds != Shelf.NUMBERS || source.sort != target.sort) {
            return OTHER_KIND;
        }
        if (!source.hasStretch(i, n) || !target.hasStretch(j, n)) {
            return NO_PLACE;
        }
        System.arraycopy(source.numbers, i, target.numbers, j, n);
        return n;
    }

    public int toil(int d) {
        int refusal = isShelf(d) ? refusalOfLaying(d) : NOT_AS_TOLD;
        return refusal == WELL ? shelves[d].laying.effort() : TOIL_REFUSED + refusal;
    }

    public int toss(int d) {
        int refusal = isShelf(d) ? refusalOfLaying(d) : NOT_AS_TOLD;
        if (refusal != WELL) {
            return refusal;
        }
        Laying laying = shelves[d].laying;
        try {
            laying.fail();
        } catch (UnsupportedOperationException told) {
            return 200 + laying.effort();
        } catch (IllegalArgumentException handed) {
            return 100 + laying.figure;
        } catch (IllegalStateException other) {
            return laying.figure;
        }
        return NO_FAILURE;
    }

    private boolean isShelf(int d) {
        return d >= 0 && d < MOST_SHELVES;
    }

    private boolean isRow(int row) {
        return row >= 0 && row < now.rows;
    }

    private boolean isWidth(int width) {
        return width >= 0 && width < now.widths;
    }

    /** Of a call that wants a row that is not laid, and whose other numbers are as told or not. */
    private int refusalOfOpen(int row, boolean isElseAsTold) {
        if (!isRow(row) || !isElseAsTold) {
            return NOT_AS_TOLD;
        }
        return now.laid[row] > 0 ? CANNOT_BE : WELL;
    }

    /** Of a call that wants a row that is not laid and slates told on a shelf. */
    private int refusalOfTold(int row, int d) {
        int refusal = refusalOfOpen(row, isShelf(d));
        return refusal == WELL ? refusalOfNumbers(d) : refusal;
    }

    private int refusalOfNumbers(int d) {
        if (shelves[d].holds == Shelf.NOTHING) {
            return NOTHING_HELD;
        }
        return shelves[d].holds == Shelf.NUMBERS ? WELL : OTHER_KIND;
    }

    private int refusalOfLaying(int d) {
        if (shelves[d].holds == Shelf.NOTHING) {
            return NOTHING_HELD;
        }
        return shelves[d].holds == Shelf.LAYING && shelves[d].laying != null ? WELL : OTHER_KIND;
    }

    private Ways waysOf(Roof roof, int row) {
        return waysBetween(roof, row, 0, roof.lengths[row]);
    }

    /** The tables of ways are large, so they are made when first asked for, and used again. */
    private Ways waysBetween(Roof roof, int row, int from, int to) {
        if (ways == null) {
            ways = new Ways(roof);
        }
        ways.spread(roof, row, from, to);
        return ways;
    }

    /** The least worth of two fills, told by what they take, for which the heap suffices. */
    private int leastTogether(int[] ofA, int[] ofB) {
        int least = Ways.NEVER;
        for (int a = 0; a < ofA.length; a++) {
            for (int b = 0; b < ofB.length; b++) {
                if (now.hasBoth(ofA[a], ofB[b])) {
                    least = Math.min(least, now.worthOfTaken(ofA[a]) + now.worthOfTaken(ofB[b]));
                }
            }
        }
        return least < Ways.NEVER ? least : NONE;
    }

    /** Whether whole slates can fill the gap that the slates from start to end leave, the i-th of them broken. */
    private boolean canMend(int row, int i, int start, int end) {
        mind.takeOver(now);
        int wholeOnes = now.wholeOnesOf(row);
        for (int k = start; k <= end && k < wholeOnes; k++) {
            if (k != i) {
                mind.many[now.slateAt(row, k)]++;
            }
        }
        int from = now.endOf(row, start - 1);
        int to = Math.min(now.endOf(row, end), now.lengths[row]);
        return waysBetween(mind, row, from, to).hasFill();
    }

    /** Widths, heap, rows, lap: all that an image keeps. */
    private static final class Roof {
        final int[] inches = new int[MOST_WIDTHS];
        final int[] many = new int[MOST_WIDTHS];
        final int[] worth = new int[MOST_WIDTHS];
        final int[] lengths = new int[MOST_ROWS];
        final int[] laid = new int[MOST_ROWS];
        final int[] slates = new int[MOST_ROWS * MOST_SLATES];
        int widths = 0;
        int rows = 0;
        int lap = FIRST_LAP;

        void takeOver(Roof other) {
            System.arraycopy(other.inches, 0, inches, 0, MOST_WIDTHS);
            System.arraycopy(other.many, 0, many, 0, MOST_WIDTHS);
            System.arraycopy(other.worth, 0, worth, 0, MOST_WIDTHS);
            System.arraycopy(other.lengths, 0, lengths, 0, MOST_ROWS);
            System.arraycopy(other.laid, 0, laid, 0, MOST_ROWS);
            System.arraycopy(other.slates, 0, slates, 0, MOST_ROWS * MOST_SLATES);
            widths = other.widths;
            rows = other.rows;
            lap = other.lap;
        }

        boolean addWidth(int inch, int n, int value) {
            if (inch < LEAST_INCHES || inch > MOST_INCHES || n > MOST_IN_HEAP || value > MOST_WORTH) {
                return false;
            }
            if (widths >= MOST_WIDTHS || hasInches(inch)) {
                return false;
            }
            inches[widths] = inch;
            many[widths] = n;
            worth[widths] = value;
            widths++;
            return true;
        }

        private boolean hasInches(int inch) {
            for (int w = 0; w < widths; w++) {
                if (inches[w] == inch) {
                    return true;
                }
            }
            return false;
        }

        boolean addRow(int length) {
            if (length < SHORTEST || length > LONGEST || rows >= MOST_ROWS) {
                return false;
            }
            lengths[rows] = length;
            laid[rows] = 0;
            rows++;
            return true;
        }

        boolean changeLap(int n) {
            if (n > MOST_LAP) {
                return false;
            }
            lap = n;
            return true;
        }

        int slatesInHeap() {
            int sum = 0;
            for (int w = 0; w < widths; w++) {
                sum += many[w];
            }
            return sum;
        }

        int worthOfHeap() {
            int sum = 0;
            for (int w = 0; w < widths; w++) {
                sum += many[w] * worth[w];
            }
            return sum;
        }

        int rowsLaid() {
            int found = 0;
            for (int row = 0; row < rows; row++) {
                if (laid[row] > 0) {
                    found++;
                }
            }
            return found;
        }

        int slateAt(int row, int i) {
            return slates[row * MOST_SLATES + i];
        }

        /** Where the i-th slate of a laid row ends, beyond the length if it is cut; 0 ahead of the first. */
        int endOf(int row, int i) {
            int end = 0;
            for (int k = 0; k <= i && k < laid[row]; k++) {
                end += inches[slateAt(row, k)];
            }
            return end;
        }

        int cutOf(int row) {
            return laid[row] == 0 ? 0 : endOf(row, laid[row] - 1) - lengths[row];
        }

        /** How many slates of a row aren't cut: but for the last all of them, for sure. */
        int wholeOnesOf(int row) {
            return cutOf(row) > 0 ? laid[row] - 1 : laid[row];
        }

        boolean allowsJoint(int row, int x) {
            if (row < 1) {
                return true;
            }
            int end = 0;
            for (int k = 0; k < laid[row - 1] - 1; k++) {
                end += inches[slateAt(row - 1, k)];
                if (Math.abs(x - end) < lap) {
                    return false;
                }
            }
            return true;
        }

        /** The place of the first slate told that can't be laid, or of the one that is missing. */
        int faultOf(int row, Shelf told) {
            int place = 0;
            int taken = 0;
            for (int i = 0; i < told.size; i++) {
                int w = told.numbers[i];
                if (w < 0 || w >= widths || Taken.of(taken, w) >= many[w] || place >= lengths[row]) {
                    return i;
                }
                taken = Taken.withOneMore(taken, w);
                place += inches[w];
                if (place < lengths[row] && !allowsJoint(row, place)) {
                    return i;
                }
            }
            return place < lengths[row] ? told.size : NONE;
        }

        /** Lays n slates that are known to be well. */
        void putDown(int row, int[] told, int n) {
            int count = Math.min(n, MOST_SLATES);
            for (int i = 0; i < count; i++) {
                slates[row * MOST_SLATES + i] = told[i];
                many[told[i]]--;
            }
            laid[row] = count;
        }

        /** Takes a laid row up; a cut slate, and one for which the heap has no room, is lost. */
        int bringBack(int row) {
            int wholeOnes = wholeOnesOf(row);
            int back = 0;
            for (int i = 0; i < wholeOnes; i++) {
                int w = slateAt(row, i);
                if (many[w] < MOST_IN_HEAP) {
                    many[w]++;
                    back++;
                }
            }
            laid[row] = 0;
            return back;
        }

        boolean hasBoth(int taken, int other) {
            for (int w = 0; w < widths; w++) {
                if (Taken.of(taken, w) + Taken.of(other, w) > many[w]) {
                    return false;
                }
            }
            return true;
        }

        int worthOfTaken(int taken) {
            int sum = 0;
            for (int w = 0; w < widths; w++) {
                sum += Taken.of(taken, w) * worth[w];
            }
            return sum;
        }
    }

    /** How many of each width are taken, in one int: a row takes 12 of a width at most, which four bits hold. */
    private static final class Taken {
        private static final int BITS = 4;
        private static final int MASK = 15;

        static int of(int taken, int w) {
            return taken >> BITS * w & MASK;
        }

        static int withOneMore(int taken, int w) {
            return taken + (1 << BITS * w);
        }
    }

    /** Reads a roof's text, and adds what it says to a roof that may be thrown away. */
    private static final class Reader {
        private static final int NO_FAULT = -1;
        private static final int FIRST_KIND = -1000;
        private static final int SECOND_KIND = -2000;

        private final Shelf text;
        private final Roof roof;
        private final int[] numbers = new int[3];
        private int letter = 0;
        private int at = 0;

        Reader(Shelf text, Roof roof) {
            this.text = text;
            this.roof = roof;
        }

        /** How many statements there are, or the fault. */
        int read() {
            int statements = 0;
            int fault = NO_FAULT;
            while (statements == 0 || at < text.size && statements < MOST_NUMBERS) {
                int start = at;
                if (!readStatement()) {
                    return FIRST_KIND - at;
                }
                if (fault == NO_FAULT && !carryOut()) {
                    fault = start;
                }
                statements++;
            }
            return fault == NO_FAULT ? statements : SECOND_KIND - fault;
        }

        /** Goes behind the statement that begins here, or to the first byte with which none goes on. */
        private boolean readStatement() {
            letter = signHere();
            if (letter != 'w' && letter != 'r' && letter != 'l') {
                return false;
            }
            at++;
            int last = letter == 'w' ? 2 : 0;
            for (int i = 0; i <= last; i++) {
                if (!readNumber(i) || !readSign(i == last ? ';' : ' ')) {
                    return false;
                }
            }
            return true;
        }

        private boolean readNumber(int i) {
            if (!isDigitHere()) {
                return false;
            }
            numbers[i] = signHere() - '0';
            at++;
            if (numbers[i] > 0 && isDigitHere()) {
                numbers[i] = numbers[i] * 10 + signHere() - '0';
                at++;
            }
            return true;
        }

        private boolean readSign(int sign) {
            if (signHere() != sign) {
                return false;
            }
            at++;
            return true;
        }

        private boolean isDigitHere() {
            return signHere() >= '0' && signHere() <= '9';
        }

        /** The byte here; 0, which no roof has, behind the last. */
        private int signHere() {
            return text.hasPlace(at) ? text.numbers[at] : 0;
        }

        /** Does what the statement that was read last says; false if it can't be done. */
        private boolean carryOut() {
            switch (letter) {
                case 'w':
                    return roof.addWidth(numbers[0], numbers[1], numbers[2]);
                case 'r':
                    return roof.addRow(numbers[0]);
                default:
                    return roof.changeLap(numbers[0]);
            }
        }
    }

    /**
     * The orders of slates that fill a stretch of a row. What an order can go on with depends only on what it
     * took from the heap, not on its order: so there is a state for each such take, 1820 at most, and not one for
     * each of the many thousand orders.
     */
    private static final class Ways {
        static final int NEVER = 1000000;
        private static final int COUNT = 0;
        private static final int WORTH = 1;
        private static final int CUT = 2;
        private static final int ANY_WIDTH = -1;
        // 12 slates at most of 4 widths: 16 over 4
        private static final int MOST_STATES = 1820;
        // widths are unlike: at most 12, 10, 8 and 7 of those of 5, 6, 7 and 8 inches come into 60
        private static final int MOST_SLOTS = 13 * 11 * 9 * 8;

        private final boolean[] free = new boolean[LONGEST + 1];
        private final int[] steps = new int[MOST_WIDTHS];
        private final int[] stateOfSlot = new int[MOST_SLOTS];
        private final int[] slots = new int[MOST_STATES];
        private final int[] takes = new int[MOST_STATES];
        private final int[] places = new int[MOST_STATES];
        private final int[] values = new int[MOST_STATES];
        private int states = 0;
        private Roof roof;
        private int to = 0;
        private int aim = COUNT;
        private int lastWidth = ANY_WIDTH;
        final int[] order = new int[MOST_SLATES];
        int slates = 0;

        Ways(Roof roof) {
            this.roof = roof;
        }

        /** Finds the states between two places of a row, such that each stands behind those that lead to it. */
        void spread(Roof of, int row, int from, int end) {
            roof = of;
            to = Math.min(end, LONGEST);
            for (int x = 0; x <= to; x++) {
                free[x] = x == to || x > from && of.allowsJoint(row, x);
            }
            setSteps();
            states = 0;
            reach(0, 0, from);
            for (int s = 0; s < states && s < MOST_STATES; s++) {
                for (int w = 0; w < roof.widths; w++) {
                    int place = places[s] + roof.inches[w];
                    if (hasLeft(s, w) && place <= to && free[place]) {
                        reach(slots[s] + steps[w], Taken.withOneMore(takes[s], w), place);
                    }
                }
            }
        }

        /** A slot for each take, such that one slate of a width more is always as many slots further on. */
        private void setSteps() {
            int size = 1;
            for (int w = 0; w < MOST_WIDTHS; w++) {
                steps[w] = size;
                if (w < roof.widths && roof.inches[w] > 0) {
                    size *= Math.min(roof.many[w], LONGEST / roof.inches[w]) + 1;
                }
            }
        }

        private void reach(int slot, int take, int place) {
            if (slot >= 0 && slot < MOST_SLOTS && stateAt(slot) < 0 && states < MOST_STATES) {
                stateOfSlot[slot] = states;
                slots[states] = slot;
                takes[states] = take;
                places[states] = place;
                states++;
            }
        }

        /** The state of a slot, -1 if it is not reached; what earlier calls left in the table tells nothing. */
        private int stateAt(int slot) {
            if (slot < 0 || slot >= MOST_SLOTS) {
                return -1;
            }
            int s = stateOfSlot[slot];
            return s < states && slots[s] == slot ? s : -1;
        }

        private boolean hasLeft(int s, int w) {
            return Taken.of(takes[s], w) < roof.many[w];
        }

        boolean hasFill() {
            for (int s = 0; s < states; s++) {
                if (places[s] == to) {
                    return true;
                }
            }
            return false;
        }

        int number() {
            return settle(COUNT, ANY_WIDTH);
        }

        int numberEndingWith(int width) {
            return settle(COUNT, width);
        }

        boolean findFirst() {
            return settle(COUNT, ANY_WIDTH) > 0 && follow();
        }

        boolean findCheapest() {
            return settle(WORTH, ANY_WIDTH) < NEVER && follow();
        }

        boolean findLeastCut() {
            return settle(CUT, ANY_WIDTH) < NEVER && follow();
        }

        /** Of what was found: its value (-1), the i-th width of its order. */
        int told(int i) {
            if (i < 0) {
                return values[0];
            }
            return i < slates && i < MOST_SLATES ? order[i] : NONE;
        }

        /** What the fills that there are, if any, take from the heap. */
        int[] takenByFills() {
            int found = 0;
            for (int s = 0; s < states; s++) {
                if (places[s] == to) {
                    values[found] = takes[s];
                    found++;
                }
            }
            int[] taken = new int[found];
            System.arraycopy(values, 0, taken, 0, found);
            return taken;
        }

        /** Gives each state the value of what can follow it; that of the first one is the answer. */
        private int settle(int wanted, int width) {
            aim = wanted;
            lastWidth = width;
            for (int s = states - 1; s >= 0; s--) {
                int value = nothing();
                for (int w = 0; w < roof.widths; w++) {
                    int more = valueThrough(s, w);
                    value = aim == COUNT ? value + more : Math.min(value, more);
                }
                values[s] = value;
            }
            return values[0];
        }

        private int nothing() {
            return aim == COUNT ? 0 : NEVER;
        }

        /** The value of going on from a state with a slate. */
        private int valueThrough(int s, int w) {
            int end = places[s] + roof.inches[w];
            if (!hasLeft(s, w)) {
                return nothing();
            }
            if (end > to) {
                return aim == CUT ? end - to : nothing();
            }
            if (end == to) {
                return valueAtEnd(w);
            }
            int next = stateAt(slots[s] + steps[w]);
            if (next < 0) {
                return nothing();
            }
            return aim == WORTH ? values[next] + roof.worth[w] : values[next];
        }

        private int valueAtEnd(int w) {
            switch (aim) {
                case COUNT:
                    return lastWidth == ANY_WIDTH || lastWidth == w ? 1 : 0;
                case WORTH:
                    return roof.worth[w];
                default:
                    return NEVER;
            }
        }

        /** Tells the first order by which the value of the first state comes to be. */
        private boolean follow() {
            int s = 0;
            for (slates = 0; slates < MOST_SLATES && s >= 0; slates++) {
                int w = firstWidthFrom(s);
                if (w < 0) {
                    return false;
                }
                order[slates] = w;
                s = places[s] + roof.inches[w] < to ? stateAt(slots[s] + steps[w]) : -1;
            }
            return s < 0;
        }

        private int firstWidthFrom(int s) {
            for (int w = 0; w < roof.widths; w++) {
                int value = valueThrough(s, w);
                if (aim == COUNT ? value > 0 : value < NEVER && value == values[s]) {
                    return w;
                }
            }
            return -1;
        }
    }

    /** A row that is laid in mind, slate by slate, as a laying does it. */
    private static final class Course {
        private static final int MULTIPLIER = 1103515245;
        private static final int ADDEND = 12345;
        private static final int WITHOUT_SIGN = 0x7fffffff;
        private static final int LOW_BITS = 65536;
        private static final int MOST_TURNS = 100;
        private static final int NO_WIDTH = -1;

        private final Roof roof;
        private final int row;
        private final Laying laying;
        private int seed;
        final int length;
        int place = 0;
        int slates = 0;
        int asides = 0;

        Course(Roof roof, int row, Laying laying, int seed) {
            this.roof = roof;
            this.row = row;
            this.laying = laying;
            this.seed = seed;
            this.length = roof.lengths[row];
        }

        /** Lays till the length is come to; false if it is stuck. */
        boolean comesToEnd() {
            // each turn lays a slate or puts some aside, and neither goes on for long
            for (int turn = 0; turn < MOST_TURNS && place < length; turn++) {
                int chosen = chosenWidth();
                if (chosen == NO_WIDTH) {
                    return false;
                }
                if (laying.isHanded()) {
                    chosen = laying.isMany() ? betterOfTwo() : handed();
                } else {
                    roof.many[chosen]--;
                }
                if (chosen != NO_WIDTH) {
                    place += roof.inches[chosen];
                    slates++;
                } else if (asides >= laying.mostAsides()) {
                    return false;
                } else {
                    asides++;
                }
            }
            return place >= length;
        }

        /** Of the widths that the heap has and that may be laid here, the one that the laying likes best. */
        private int chosenWidth() {
            int chosen = NO_WIDTH;
            for (int w = 0; w < roof.widths; w++) {
                boolean isThere = roof.many[w] > 0 && fits(w);
                if (isThere && (chosen == NO_WIDTH || rank(w) < rank(chosen))) {
                    chosen = w;
                }
            }
            return chosen;
        }

        private int rank(int w) {
            return laying.rank(w, roof.inches[w]);
        }

        private boolean fits(int w) {
            int end = place + roof.inches[w];
            if (end < length) {
                return roof.allowsJoint(row, end);
            }
            return end == length || laying.kind == Laying.CUT;
        }

        /** One slate out of the heap; it stays out as put aside if it may not be laid. */
        private int handed() {
            int w = drawn();
            return w != NO_WIDTH && fits(w) ? w : NO_WIDTH;
        }

        /** The broader one that may be laid of two out of the heap; both stay out if neither may. */
        private int betterOfTwo() {
            int one = drawn();
            int other = drawn();
            boolean oneFits = one != NO_WIDTH && fits(one);
            boolean otherFits = other != NO_WIDTH && fits(other);
            if (oneFits && otherFits) {
                oneFits = roof.inches[one] >= roof.inches[other];
            }
            if (oneFits) {
                giveBack(other);
                return one;
            }
            if (otherFits) {
                giveBack(one);
                return other;
            }
            return NO_WIDTH;
        }

        private void giveBack(int w) {
            if (w != NO_WIDTH) {
                roof.many[w]++;
            }
        }

        /** A width of which one slate goes out of the heap as the seed tells; an empty heap asks no seed. */
        private int drawn() {
            int inHeap = roof.slatesInHeap();
            if (inHeap <= 0) {
                return NO_WIDTH;
            }
            seed = seed * MULTIPLIER + ADDEND;
            int left = (seed & WITHOUT_SIGN) / LOW_BITS % inHeap;
            for (int w = 0; w < roof.widths; w++) {
                if (left < roof.many[w]) {
                    roof.many[w]--;
                    return w;
                }
                left -= roof.many[w];
            }
            return NO_WIDTH;
        }
    }

    /** A way to choose slates, of a kind and with a figure. */
    private static final class Laying {
        static final int LAYING = 0;
        static final int ANY = 1;
        static final int HANDED = 2;
        static final int SORTED = 3;
        static final int CUT = 4;
        static final int MANY = 5;
        static final int TOLD = 6;
        private static final int TOIL = 2;

        final int kind;
        final int figure;

        Laying(int kind, int figure) {
            this.kind = kind;
            this.figure = figure;
        }

        int effort() {
            switch (kind) {
                case ANY:
                    return TOIL + figure;
                case HANDED:
                    return 3 * TOIL;
                case SORTED:
                    return TOIL + figure + 4;
                case CUT:
                    return TOIL - figure;
                case MANY:
                    return 3 * TOIL + figure;
                case TOLD:
                    return (TOIL + figure + 4) / 2;
                default:
                    return TOIL;
            }
        }

        /** The less, the better this laying likes a width; of several alike it takes the first. */
        int rank(int w, int inches) {
            switch (kind) {
                case ANY:
                case CUT:
                    return -inches;
                case SORTED:
                    return inches;
                case TOLD:
                    return Math.abs(w - figure % MOST_WIDTHS);
                default:
                    return w;
            }
        }

        boolean isHanded() {
            return kind == HANDED || kind == MANY;
        }

        boolean isMany() {
            return kind == MANY;
        }

        int mostAsides() {
            return figure + 2;
        }

        /** Throws this laying's failure, one exception for each way in which it is answered; nothing if it has none. */
        void fail() {
            if (figure == 0 || kind == CUT) {
                return;
            }
            if (kind == TOLD) {
                throw new UnsupportedOperationException("told");
            }
            if (isHanded()) {
                throw new IllegalArgumentException("handed");
            }
            throw new IllegalStateException("laying");
        }
    }

    /** A place for a laying or for a row of numbers. */
    private static final class Shelf {
        static final int NOTHING = 0;
        static final int LAYING = 1;
        static final int NUMBERS = 2;
        static final int BYTES = 0;
        static final int SHORTS = 1;
        static final int INTS = 2;

        final int[] numbers = new int[MOST_NUMBERS];
        int holds = NOTHING;
        Laying laying = null;
        int sort = BYTES;
        int size = 0;

        void holdNothing() {
            holds = NOTHING;
            laying = null;
            size = 0;
        }

        void holdLaying(Laying given) {
            holds = LAYING;
            laying = given;
            size = 0;
        }

        void holdNumbers(int ofSort, int n) {
            holds = NUMBERS;
            laying = null;
            sort = ofSort;
            size = n;
            for (int i = 0; i < MOST_NUMBERS; i++) {
                numbers[i] = 0;
            }
        }

        boolean hasPlace(int i) {
            return i >= 0 && i < size;
        }

        boolean hasStretch(int i, int n) {
            return i >= 0 && n >= 0 && i <= size && n <= size - i;
        }

        int narrowed(int v) {
            switch (sort) {
                case BYTES:
                    return (byte) v;
                case SHORTS:
                    return (short) v;
                default:
                    return v;
            }
        }
    }
}
