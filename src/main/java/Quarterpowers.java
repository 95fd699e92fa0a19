/**
 * Eight cells of numbers: quarters, the number e to the power of one, that power less one, and the
 * logarithm of one and one more. The document (shared/DOC.md) says what each method does; words in
 * capitals in the comments here are the document's.
 */
public final class Quarterpowers {
    private static final int CELLS = 8;
    /** What an act answers that is let, but can not be done. */
    private static final int NOT_DONE = -9;
    private static final int LEAST_K = -62;
    private static final int GREATEST_K = 90;

    /** What each cell has, as Num tells NUMBERS. */
    private final int[] cells;
    /** The 64 digits of what each cell has, told once when it comes, since most answers need them. */
    private final long[] kept;
    /** What the cells had before an act that changes several of them. */
    private final int[] earlier;
    private int acts;
    private int refusals;
    private int knocks;

    public Quarterpowers() {
        cells = new int[CELLS];
        kept = new long[CELLS];
        earlier = new int[CELLS];
        for (int i = 0; i < CELLS; i++) {
            cells[i] = Num.nought(false);
            kept[i] = Kept.digitsOf(cells[i]);
        }
    }

    // ---- what comes

    public int quarter(int cell, int q) throws IndexOutOfBoundsException, IllegalArgumentException {
        checkCell(cell);
        checkRange(q, Num.LEAST_QUARTER, Num.GREATEST_QUARTER);
        return bring(cell, Num.quarters(q));
    }

    public int zero(int cell, boolean isBelow) throws IndexOutOfBoundsException {
        checkCell(cell);
        return bring(cell, Num.nought(isBelow));
    }

    public int endless(int cell, boolean isBelow) throws IndexOutOfBoundsException {
        checkCell(cell);
        return bring(cell, Num.withoutEnd(isBelow));
    }

    public int row(int from, int by) throws IllegalArgumentException {
        checkRange(from, Num.LEAST_QUARTER, Num.GREATEST_QUARTER);
        checkRange(by, -40, 40);
        // The first one is a QUARTER, so that all between are if the last one is.
        if (!Num.canBeQuarter(from + (CELLS - 1) * by)) {
            return refuse();
        }
        remember();
        for (int i = 0; i < CELLS; i++) {
            place(i, Num.quarters(from + i * by));
        }
        return countAct(changedCells());
    }

    public int wipe() {
        remember();
        for (int i = 0; i < CELLS; i++) {
            place(i, Num.nought(false));
        }
        return countAct(changedCells());
    }

    public int copy(int cell, int into) throws IndexOutOfBoundsException {
        checkCell(cell);
        checkCell(into);
        return bring(into, cells[cell]);
    }

    public int swap(int cell, int other) throws IndexOutOfBoundsException {
        checkCell(cell);
        checkCell(other);
        int moved = cells[cell];
        place(cell, cells[other]);
        return bring(other, moved);
    }

    public int step(int cell, int by) throws IndexOutOfBoundsException, IllegalArgumentException {
        checkCell(cell);
        checkRange(by, -320, 320);
        int q = Num.qOf(cells[cell]) + by;
        if (Num.kindOf(cells[cell]) != Num.QUARTER || !Num.canBeQuarter(q)) {
            return refuse();
        }
        return bring(cell, Num.quarters(q));
    }

    public int turn(int cell) throws IndexOutOfBoundsException {
        checkCell(cell);
        int kind = Num.kindOf(cells[cell]);
        if (kind != Num.QUARTER && kind != Num.ENDLESS) {
            return refuse();
        }
        return bring(cell, Num.turned(cells[cell]));
    }

    // ---- what becomes of it

    public int power(int cell, int into) throws IndexOutOfBoundsException {
        return bringChanged(Becoming.POWERED, cell, into);
    }

    public int lessen(int cell, int into) throws IndexOutOfBoundsException {
        return bringChanged(Becoming.LESSENED, cell, into);
    }

    public int log(int cell, int into) throws IndexOutOfBoundsException {
        return bringChanged(Becoming.LOGGED, cell, into);
    }

    public int all(int how) throws IllegalArgumentException {
        checkRange(how, Becoming.POWERED, Becoming.LOGGED);
        int could = 0;
        for (int i = 0; i < CELLS; i++) {
            int changed = Becoming.change(how, cells[i]);
            if (changed != Num.NONE) {
                place(i, changed);
                could++;
            }
        }
        return countAct(could);
    }

    public int greater(int one, int other, int into) throws IndexOutOfBoundsException {
        checkCell(one);
        checkCell(other);
        checkCell(into);
        return bring(into, compareCells(one, other) < 0 ? cells[other] : cells[one]);
    }

    public int lesser(int one, int other, int into) throws IndexOutOfBoundsException {
        checkCell(one);
        checkCell(other);
        checkCell(into);
        return bring(into, compareCells(one, other) > 0 ? cells[other] : cells[one]);
    }

    public int end(boolean isGreatest, int into) throws IndexOutOfBoundsException {
        checkCell(into);
        int best = 0;
        for (int i = 1; i < CELLS; i++) {
            int compared = compareCells(i, best);
            if (isGreatest ? compared > 0 : compared < 0) {
                best = i;
            }
        }
        return bring(into, cells[best]);
    }

    public int sort() {
        remember();
        for (int i = 1; i < CELLS; i++) {
            for (int at = i; at > 0 && compareCells(at, at - 1) < 0; at--) {
                int moved = cells[at];
                place(at, cells[at - 1]);
                place(at - 1, moved);
            }
        }
        return countAct(changedCells());
    }

    // ---- what is asked of it

    public int kind(int cell) throws IndexOutOfBoundsException {
        checkCell(cell);
        return Num.kindOf(cells[cell]);
    }

    public int of(int cell) throws IndexOutOfBoundsException {
        checkCell(cell);
        return Num.qOf(cells[cell]);
    }

    public boolean isBelow(int cell) throws IndexOutOfBoundsException {
        checkCell(cell);
        return Num.isUnder(cells[cell]);
    }

    public boolean isZero(int cell) throws IndexOutOfBoundsException {
        checkCell(cell);
        return Num.isNought(cells[cell]);
    }

    public boolean isEndless(int cell) throws IndexOutOfBoundsException {
        checkCell(cell);
        return Num.kindOf(cells[cell]) == Num.ENDLESS;
    }

    public int whole(int cell, int k)
            throws IndexOutOfBoundsException, IllegalArgumentException, IllegalStateException {
        checkCell(cell);
        checkRange(k, LEAST_K, GREATEST_K);
        if (!Num.hasWhole(cells[cell])) {
            throw new IllegalStateException("no WHOLE is told of this KIND");
        }
        return checkedInt(Kept.roundedDown(kept[cell], k));
    }

    public int height(int cell) throws IndexOutOfBoundsException, IllegalStateException {
        checkCell(cell);
        checkHeight(cell);
        return Kept.heightOf(kept[cell]);
    }

    public int digits(int cell) throws IndexOutOfBoundsException, IllegalStateException {
        checkCell(cell);
        checkHeight(cell);
        return Kept.firstDigits(kept[cell]);
    }

    public int upper(int cell) throws IndexOutOfBoundsException, IllegalStateException {
        checkCell(cell);
        checkToldDigits(cell);
        return (int) (kept[cell] >> 32);
    }

    public int lower(int cell) throws IndexOutOfBoundsException, IllegalStateException {
        checkCell(cell);
        checkToldDigits(cell);
        return (int) kept[cell];
    }

    public String text(int cell) throws IndexOutOfBoundsException {
        checkCell(cell);
        return Num.textOf(cells[cell]);
    }

    // ---- of two, and of all

    public int order(int one, int other) throws IndexOutOfBoundsException {
        checkCell(one);
        checkCell(other);
        return Num.areNear(cells[one], cells[other]) ? 2 : compareCells(one, other);
    }

    public boolean isAlike(int one, int other) throws IndexOutOfBoundsException {
        checkCell(one);
        checkCell(other);
        return cells[one] == cells[other];
    }

    public boolean isNear(int one, int other) throws IndexOutOfBoundsException {
        checkCell(one);
        checkCell(other);
        return Num.areNear(cells[one], cells[other]);
    }

    public int most(int one, int other) throws IndexOutOfBoundsException, IllegalStateException {
        checkCell(one);
        checkCell(other);
        checkNear(one, other);
        return Num.mostSteps(Num.qOf(cells[one]));
    }

    public boolean isWithin(int one, int other) throws IndexOutOfBoundsException, IllegalStateException {
        checkCell(one);
        checkCell(other);
        checkNear(one, other);
        return areWithin(cells[one], cells[other]);
    }

    public int find(int cell, boolean isLast) throws IndexOutOfBoundsException {
        checkCell(cell);
        int found = cell;
        for (int i = 0; i < CELLS; i++) {
            if (cells[i] == cells[cell] && (isLast ? i > found : i < found)) {
                found = i;
            }
        }
        return found;
    }

    public int rank(int cell) throws IndexOutOfBoundsException {
        checkCell(cell);
        int ahead = 0;
        for (int i = 0; i < CELLS; i++) {
            if (compareCells(i, cell) < 0) {
                ahead++;
            }
        }
        return ahead;
    }

    public int before(int how, int cell) throws IndexOutOfBoundsException, IllegalArgumentException {
        checkCell(cell);
        checkSeries(how);
        return Series.countAhead(how, kept[cell]);
    }

    // ---- without cells

    public int answer(int how, int q, int k) throws IllegalArgumentException, IllegalStateException {
        checkRange(how, Becoming.POWERED, Becoming.LOGGED);
        checkRange(q, Series.firstQ(how), Series.lastQ(how));
        checkRange(k, LEAST_K, GREATEST_K);
        return checkedInt(Kept.roundedDown(Series.digitsAt(how, q), k));
    }

    public int below(int how, int n, int k) throws IllegalArgumentException {
        checkSeries(how);
        checkRange(k, LEAST_K, GREATEST_K);
        // Held against ZERO BELOW neither ZERO is ahead, held against any other number both or none.
        return Series.countAhead(how, n == 0 ? Kept.UNDER : Kept.scaled(n, k));
    }

    public boolean rises(int how, int from, int to) throws IllegalArgumentException {
        checkSeries(how);
        checkRange(from, Series.firstQ(how), Series.lastQ(how));
        checkRange(to, from, Series.lastQ(how));
        for (int q = from; q < to; q++) {
            if (Kept.compare(Series.digitsAt(how, q), Series.digitsAt(how, q + 1)) >= 0) {
                return false;
            }
        }
        return true;
    }

    public boolean between(int q) throws IllegalArgumentException {
        checkRange(q, Series.firstQ(Becoming.LESSENED), Series.lastQ(Becoming.LESSENED));
        return liesBetween(q);
    }

    public boolean lies(int q) throws IllegalArgumentException {
        checkRange(q, Series.firstQ(Becoming.LOGGED), Series.lastQ(Becoming.LOGGED));
        return liesUnderQuarter(q);
    }

    public boolean undone(int q) throws IllegalArgumentException {
        checkRange(q, -4, 144);
        int there = Becoming.change(Becoming.LESSENED, Num.quarters(q));
        int back = Becoming.change(Becoming.LOGGED, there);
        return back != Num.NONE && Kept.digitsOf(back) == Kept.digitsOf(Num.quarters(q));
    }

    public boolean comesBack(int q) throws IllegalArgumentException {
        checkRange(q, Num.LEAST_BACK, Num.GREATEST_BACK);
        return areWithin(Num.make(Num.BACK, q), Num.quarters(q));
    }

    public boolean comesForth(int q) throws IllegalArgumentException {
        checkRange(q, Series.firstQ(Becoming.LOGGED), Series.lastQ(Becoming.LOGGED));
        int there = Becoming.change(Becoming.LOGGED, Num.quarters(q));
        int forth = Becoming.change(Becoming.LESSENED, there);
        return forth != Num.NONE
                && Kept.steps(Kept.digitsOf(forth), Kept.digitsOf(Num.quarters(q))) <= 2;
    }

    public boolean opposite(int q) throws IllegalArgumentException {
        checkRange(q, Num.LEAST_QUARTER, Num.GREATEST_QUARTER);
        double one = Kept.asDouble(Series.digitsAt(Becoming.POWERED, q));
        double other = Kept.asDouble(Series.digitsAt(Becoming.POWERED, -q));
        return Kept.stepsFromOne(one * other) <= 2.0;
    }

    // ---- the whole

    public int house(int what) throws IllegalArgumentException {
        checkRange(what, 0, 4);
        switch (what) {
            case 0:
                return acts;
            case 1:
                return refusals;
            case 2:
                return knocks;
            case 3:
                return cellsWithQuarters();
            default:
                return nearPairs();
        }
    }

    public int knock() {
        knocks++;
        return knocks;
    }

    public boolean isSound() {
        for (int i = 0; i < CELLS; i++) {
            if (kept[i] != Kept.digitsOf(cells[i]) || !isInItsPlace(cells[i])) {
                return false;
            }
            for (int j = i + 1; j < CELLS; j++) {
                if (!isPairSound(i, j)) {
                    return false;
                }
            }
        }
        return areTriplesSound();
    }

    public long digest() {
        long d = 7896;
        for (int i = 0; i < CELLS; i++) {
            d = digestCell(d, i);
        }
        for (int i = 0; i < CELLS; i++) {
            for (int j = i + 1; j < CELLS; j++) {
                d = d * 31 + order(i, j);
            }
        }
        for (int what = 0; what <= 4; what++) {
            d = d * 31 + house(what);
        }
        return d * 31 + (isSound() ? 1 : 0);
    }

    // ---- what the acts share

    private void place(int cell, int number) {
        cells[cell] = number;
        kept[cell] = Kept.digitsOf(number);
    }

    /** Does the act of bringing a NUMBER to a cell, and answers for it. */
    private int bring(int cell, int number) {
        int told = cells[cell] == number ? 0 : 1;
        place(cell, number);
        return countAct(told);
    }

    private int bringChanged(int how, int cell, int into) {
        checkCell(cell);
        checkCell(into);
        int changed = Becoming.change(how, cells[cell]);
        return changed == Num.NONE ? refuse() : bring(into, changed);
    }

    private int countAct(int told) {
        acts++;
        return told;
    }

    private int refuse() {
        refusals++;
        return NOT_DONE;
    }

    private void remember() {
        for (int i = 0; i < CELLS; i++) {
            earlier[i] = cells[i];
        }
    }

    private int changedCells() {
        int changed = 0;
        for (int i = 0; i < CELLS; i++) {
            if (cells[i] != earlier[i]) {
                changed++;
            }
        }
        return changed;
    }

    // ---- what the answers share

    /** -1 if the first cell's NUMBER stands ahead, 1 if the other one's does, otherwise 0. */
    private int compareCells(int one, int other) {
        return Kept.compare(kept[one], kept[other]);
    }

    private int cellsWithQuarters() {
        int count = 0;
        for (int i = 0; i < CELLS; i++) {
            if (Num.kindOf(cells[i]) == Num.QUARTER) {
                count++;
            }
        }
        return count;
    }

    private int nearPairs() {
        int count = 0;
        for (int i = 0; i < CELLS; i++) {
            for (int j = i + 1; j < CELLS; j++) {
                if (Num.areNear(cells[i], cells[j])) {
                    count++;
                }
            }
        }
        return count;
    }

    /** Of two NEAR ones: whether they are as near as section 3 tells. */
    private static boolean areWithin(int one, int other) {
        return Kept.steps(Kept.digitsOf(one), Kept.digitsOf(other)) <= Num.mostSteps(Num.qOf(one));
    }

    private static boolean liesBetween(int q) {
        long lessened = Series.digitsAt(Becoming.LESSENED, q);
        return Kept.compare(lessened, Kept.scaled(-1, 0)) > 0
                && Kept.compare(lessened, Kept.scaled(q, 2)) > 0
                && Kept.compare(lessened, Series.digitsAt(Becoming.POWERED, q)) < 0;
    }

    private static boolean liesUnderQuarter(int q) {
        return Kept.compare(Series.digitsAt(Becoming.LOGGED, q), Kept.scaled(q, 2)) < 0;
    }

    private static boolean isInItsPlace(int number) {
        int q = Num.qOf(number);
        switch (Num.kindOf(number)) {
            case Num.POWER:
                return Kept.compare(Kept.digitsOf(number), Kept.digitsOf(Num.nought(false))) > 0;
            case Num.LESSENED:
                return liesBetween(q);
            case Num.LOGGED:
                return liesUnderQuarter(q);
            default:
                return true;
        }
    }

    private boolean isPairSound(int one, int other) {
        if (Num.areNear(cells[one], cells[other])) {
            return areWithin(cells[one], cells[other]);
        }
        int there = compareCells(one, other);
        return there == -compareCells(other, one) && (there == 0) == (cells[one] == cells[other]);
    }

    private boolean areTriplesSound() {
        for (int a = 0; a < CELLS; a++) {
            for (int b = 0; b < CELLS; b++) {
                boolean isInOrder = compareCells(a, b) <= 0;
                for (int c = 0; c < CELLS && isInOrder; c++) {
                    if (compareCells(b, c) <= 0 && compareCells(a, c) > 0) {
                        return false;
                    }
                }
            }
        }
        return true;
    }

    private long digestCell(long start, int cell) {
        long d = start * 31 + kind(cell);
        d = d * 31 + of(cell);
        d = d * 31 + (isBelow(cell) ? 1 : 0);
        if (Num.hasHeight(cells[cell])) {
            d = d * 31 + height(cell);
            d = d * 31 + digits(cell);
        } else {
            d = d * 31;
        }
        if (Num.hasToldDigits(cells[cell])) {
            d = d * 31 + upper(cell);
            d = d * 31 + lower(cell);
        } else {
            d = d * 31;
        }
        d = d * 31 + find(cell, false);
        d = d * 31 + find(cell, true);
        d = d * 31 + rank(cell);
        for (int how = Series.LEAST; how <= Series.GREATEST; how++) {
            d = d * 31 + before(how, cell);
        }
        return d;
    }

    // ---- what is looked at first

    private static void checkCell(int cell) {
        if (cell < 0 || cell >= CELLS) {
            throw new IndexOutOfBoundsException("a cell is 0 to 7");
        }
    }

    private static void checkRange(int told, int least, int greatest) {
        if (told < least || told > greatest) {
            throw new IllegalArgumentException("out of its range");
        }
    }

    private static void checkSeries(int how) {
        checkRange(how, Series.LEAST, Series.GREATEST);
    }

    private void checkHeight(int cell) {
        if (!Num.hasHeight(cells[cell])) {
            throw new IllegalStateException("it has no HEIGHT");
        }
    }

    private void checkToldDigits(int cell) {
        if (!Num.hasToldDigits(cells[cell])) {
            throw new IllegalStateException("its 64 digits are not told");
        }
    }

    private void checkNear(int one, int other) {
        if (!Num.areNear(cells[one], cells[other])) {
            throw new IllegalStateException("they are not NEAR");
        }
    }

    private static int checkedInt(long whole) {
        if (whole < -2147483648L || whole > 2147483647L) {
            throw new IllegalStateException("the WHOLE has more than 32 bits");
        }
        return (int) whole;
    }

    /**
     * NUMBERS, each told as one int of its KIND, SIGN and q, so that ALIKE ones are the same int and
     * no call makes an object.
     */
    private static final class Num {
        static final int QUARTER = 0;
        static final int ENDLESS = 1;
        static final int POWER = 2;
        static final int LESSENED = 3;
        static final int LOGGED = 4;
        static final int BACK = 5;
        static final int FORTH = 6;
        /** No NUMBER: what something becomes that can not. */
        static final int NONE = -1;

        static final int LEAST_QUARTER = -160;
        static final int GREATEST_QUARTER = 160;
        static final int LEAST_BACK = -32;
        static final int GREATEST_BACK = -5;

        /** What of() tells of ENDLESS ABOVE; held as its q, though it has none. */
        private static final int Q_OF_ENDLESS = 1000;
        private static final int Q_OFFSET = 1024;
        private static final int Q_MASK = 2047;
        private static final int SIGN_BIT = 2048;
        private static final int KIND_SHIFT = 12;

        static int make(int kind, int q) {
            return makeSigned(kind, q, q < 0 && kind != POWER);
        }

        static int quarters(int q) {
            return make(QUARTER, q);
        }

        static int nought(boolean isUnder) {
            return makeSigned(QUARTER, 0, isUnder);
        }

        static int withoutEnd(boolean isUnder) {
            return makeSigned(ENDLESS, isUnder ? -Q_OF_ENDLESS : Q_OF_ENDLESS, isUnder);
        }

        private static int makeSigned(int kind, int q, boolean isUnder) {
            return kind << KIND_SHIFT | (isUnder ? SIGN_BIT : 0) | (q + Q_OFFSET);
        }

        static int kindOf(int number) {
            return number >> KIND_SHIFT;
        }

        static int qOf(int number) {
            return (number & Q_MASK) - Q_OFFSET;
        }

        static boolean isUnder(int number) {
            return (number & SIGN_BIT) != 0;
        }

        static boolean isNought(int number) {
            return kindOf(number) == QUARTER && qOf(number) == 0;
        }

        static boolean canBeQuarter(int q) {
            return q >= LEAST_QUARTER && q <= GREATEST_QUARTER;
        }

        /** With the other SIGN: for a QUARTER or an ENDLESS one. */
        static int turned(int number) {
            return makeSigned(kindOf(number), -qOf(number), !isUnder(number));
        }

        static boolean hasWhole(int number) {
            int kind = kindOf(number);
            return kind != ENDLESS && kind != BACK && kind != FORTH;
        }

        static boolean hasHeight(int number) {
            return hasWhole(number) && !isNought(number);
        }

        static boolean hasToldDigits(int number) {
            return kindOf(number) == QUARTER || kindOf(number) == ENDLESS;
        }

        static boolean areNear(int one, int other) {
            return kindOf(one) != kindOf(other) && qOf(one) == qOf(other)
                    && hasQuarterAsTrue(one) && hasQuarterAsTrue(other);
        }

        private static boolean hasQuarterAsTrue(int number) {
            int kind = kindOf(number);
            return kind == QUARTER || kind == BACK || kind == FORTH;
        }

        /**
         * How many STEPS section 3 lets between two NEAR ones of a q. No q has both a BACK and a
         * FORTH, so that q alone tells which of them there is.
         */
        static int mostSteps(int q) {
            if (q >= -12) {
                return 2;
            }
            if (q >= -16) {
                return 5;
            }
            if (q >= -20) {
                return 6;
            }
            if (q >= -24) {
                return 10;
            }
            return q >= -28 ? 53 : 124;
        }

        static String textOf(int number) {
            StringBuilder text = new StringBuilder();
            if (isNought(number) || kindOf(number) == ENDLESS) {
                text.append(isUnder(number) ? "-" : "");
                text.append(isNought(number) ? "zero" : "endless");
                return text.toString();
            }
            text.append(nameOf(kindOf(number)));
            text.append(' ');
            text.append(qOf(number));
            return text.toString();
        }

        private static String nameOf(int kind) {
            switch (kind) {
                case POWER:
                    return "power";
                case LESSENED:
                    return "lessened";
                case LOGGED:
                    return "logged";
                case BACK:
                    return "back";
                case FORTH:
                    return "forth";
                default:
                    return "quarter";
            }
        }
    }

    /** What becomes of NUMBERS; NONE of those that can not. */
    private static final class Becoming {
        static final int POWERED = 1;
        static final int LESSENED = 2;
        static final int LOGGED = 3;

        static int change(int how, int number) {
            switch (how) {
                case POWERED:
                    return powered(number);
                case LESSENED:
                    return lessened(number);
                case LOGGED:
                    return logged(number);
                default:
                    return Num.NONE;
            }
        }

        private static int powered(int number) {
            int q = Num.qOf(number);
            switch (Num.kindOf(number)) {
                case Num.QUARTER:
                    return q == 0 ? Num.quarters(4) : Num.make(Num.POWER, q);
                case Num.ENDLESS:
                    return Num.isUnder(number) ? Num.nought(false) : number;
                default:
                    return Num.NONE;
            }
        }

        private static int lessened(int number) {
            int q = Num.qOf(number);
            switch (Num.kindOf(number)) {
                case Num.QUARTER:
                    if (q == 0) {
                        return number;
                    }
                    return Series.has(LESSENED, q) ? Num.make(Num.LESSENED, q) : Num.NONE;
                case Num.ENDLESS:
                    return Num.isUnder(number) ? Num.quarters(-4) : number;
                case Num.LOGGED:
                    return Num.make(Num.FORTH, q);
                default:
                    return Num.NONE;
            }
        }

        private static int logged(int number) {
            int q = Num.qOf(number);
            switch (Num.kindOf(number)) {
                case Num.QUARTER:
                    return loggedQuarter(number, q);
                case Num.ENDLESS:
                    return Num.isUnder(number) ? Num.NONE : number;
                case Num.LESSENED:
                    if (q > Num.GREATEST_BACK) {
                        return Num.quarters(q);
                    }
                    return q >= Num.LEAST_BACK ? Num.make(Num.BACK, q) : Num.NONE;
                default:
                    return Num.NONE;
            }
        }

        private static int loggedQuarter(int number, int q) {
            if (q == 0) {
                return number;
            }
            if (q == -4) {
                return Num.withoutEnd(true);
            }
            return Series.has(LOGGED, q) ? Num.make(Num.LOGGED, q) : Num.NONE;
        }
    }

    /** The SERIES 0 to 3; the SERIES 1 to 3 bear the numbers of what becomes. */
    private static final class Series {
        static final int LEAST = 0;
        static final int GREATEST = 3;

        static int firstQ(int how) {
            switch (how) {
                case Becoming.LESSENED:
                    return Rows.FIRST_LESSENED;
                case Becoming.LOGGED:
                    return Rows.FIRST_LOGGED;
                default:
                    return Num.LEAST_QUARTER;
            }
        }

        static int lastQ(int how) {
            return how == Becoming.LESSENED ? 144 : Num.GREATEST_QUARTER;
        }

        static boolean has(int how, int q) {
            return q >= firstQ(how) && q <= lastQ(how);
        }

        /** The 64 digits of the NUMBER of a q in a SERIES (of 0: of what ZERO ABOVE becomes). */
        static long digitsAt(int how, int q) {
            switch (how) {
                case Becoming.POWERED:
                    return Kept.ofKind(Num.POWER, q, false);
                case Becoming.LESSENED:
                    return Kept.ofKind(Num.LESSENED, q, q < 0);
                case Becoming.LOGGED:
                    return Kept.ofKind(Num.LOGGED, q, q < 0);
                default:
                    return Kept.scaled(q, 2);
            }
        }

        /** How many NUMBERS of a SERIES stand ahead of one of these 64 digits. */
        static int countAhead(int how, long digits) {
            int first = firstQ(how);
            int start = first;
            int stop = lastQ(how) + 1;
            // The SERIES rises, so those ahead are its first ones: halve, until it is known which.
            for (int i = 0; i < 10 && start < stop; i++) {
                int middle = (start + stop) >> 1;
                if (Kept.compare(digitsAt(how, middle), digits) < 0) {
                    start = middle + 1;
                } else {
                    stop = middle;
                }
            }
            int count = start - first;
            boolean isNoughtAhead = how == LEAST && Kept.compare(Kept.UNDER, digits) < 0;
            return isNoughtAhead ? count + 1 : count;
        }
    }

    /**
     * The 64 binary digits that are kept of NUMBERS.
     *
     * <p>What is kept is the nearest one to the TRUE number (BACK and FORTH are kept as their
     * QUARTER is, no STEPS away). The WHOLE, the HEIGHT, the DIGITS and the ORDER go by the TRUE
     * number, but can be told by what is kept: rounding to the nearest turns no order round, no two
     * unlike TRUE numbers are kept alike, and nothing that is kept of the KINDS 2 to 4 is a number
     * of 32 binary digits or less (the rows below have none that ends in 21 noughts), so none was
     * rounded on to, or past, a bound that an answer of 32 digits knows.
     */
    private static final class Kept {
        /** The sign; alone it is ZERO BELOW. */
        static final long UNDER = 1L << 63;
        private static final long WITHOUT_END = 2047L << 52;
        /** The digit ahead of the FRACTION, which is not kept. */
        private static final long LEADING = 1L << 52;
        private static final long FRACTION = LEADING - 1;
        /** The EXPONENT of a number whose last FRACTION digit stands for 1. */
        private static final int EVEN_EXPONENT = 1075;
        private static final int EXPONENT_OF_ONE = 1023;
        /** Out of any int; a STEP just below 1 is 1 by it, one just above 1 is 1 by LEADING. */
        private static final long FAR = 1L << 53;

        static long digitsOf(int number) {
            return ofKind(Num.kindOf(number), Num.qOf(number), Num.isUnder(number));
        }

        static long ofKind(int kind, int q, boolean isUnder) {
            long sign = isUnder ? UNDER : 0;
            switch (kind) {
                case Num.ENDLESS:
                    return sign | WITHOUT_END;
                case Num.POWER:
                    return sign | Rows.take(Rows.POWERS, q - Rows.FIRST_POWER);
                case Num.LESSENED:
                    return sign | Rows.take(Rows.LESSENED, q - Rows.FIRST_LESSENED);
                case Num.LOGGED:
                    return sign | Rows.take(Rows.LOGGED, q - Rows.FIRST_LOGGED);
                default:
                    return sign | scaled(q, 2);
            }
        }

        /** The digits of n * 2^-k, just as it is: for n of 33 bits. */
        static long scaled(long n, int k) {
            if (n == 0) {
                return 0;
            }
            long mantissa = n < 0 ? -n : n;
            long exponent = EVEN_EXPONENT - k;
            for (int i = 0; i < 52 && mantissa < LEADING; i++) {
                mantissa = mantissa << 1;
                exponent--;
            }
            long size = exponent << 52 | (mantissa & FRACTION);
            return n < 0 ? size | UNDER : size;
        }

        private static long mantissaOf(long digits) {
            return LEADING | (digits & FRACTION);
        }

        private static int exponentOf(long digits) {
            return (int) (digits >> 52) & 2047;
        }

        /** -1 if the first one stands ahead, 1 if the other one does, otherwise 0. */
        static int compare(long one, long other) {
            if (one == other) {
                return 0;
            }
            // With the sign the longs rise as the numbers fall.
            boolean isAhead = one < 0 && other < 0 ? one > other : one < other;
            return isAhead ? -1 : 1;
        }

        /** How many STEPS one is from another one with the same sign. */
        static long steps(long one, long other) {
            return Math.abs(one - other);
        }

        static int heightOf(long digits) {
            return exponentOf(digits) - EXPONENT_OF_ONE;
        }

        static int firstDigits(long digits) {
            return (int) (mantissaOf(digits) >> 22);
        }

        /** The number times 2^k, rounded down; of one that is far out of an int only that it is. */
        static long roundedDown(long digits, int k) {
            if (digits == 0 || digits == UNDER) {
                return 0;
            }
            long mantissa = mantissaOf(digits);
            int shift = EVEN_EXPONENT - exponentOf(digits) - k;
            if (shift < 0) {
                return digits < 0 ? -FAR : FAR;
            }
            long whole = shift > 52 ? 0 : mantissa >> shift;
            boolean isMore = shift > 52 || whole << shift != mantissa;
            if (digits < 0) {
                return isMore ? -whole - 1 : -whole;
            }
            return whole;
        }

        /** As the library's number, of one above 0 that is not ENDLESS; no digit is lost. */
        static double asDouble(long digits) {
            double number = (double) mantissaOf(digits);
            int places = exponentOf(digits) - EVEN_EXPONENT;
            for (int i = 0; i < places; i++) {
                number = number * 2.0;
            }
            for (int i = 0; i < -places; i++) {
                number = number / 2.0;
            }
            return number;
        }

        /** How many STEPS a number near 1 is from it: below 1 they are half as long. */
        static double stepsFromOne(double number) {
            double above = number - 1.0;
            return above >= 0.0 ? above * (double) LEADING : -above * (double) FAR;
        }
    }

    /**
     * What is kept of the NUMBERS of the SERIES 1 to 3, without the sign, by rising q: the number of
     * 64 digits nearest to the TRUE one. RowsTest tells each of them again, RowsPrinter prints them.
     * No POWER, LESSENED or LOGGED one is of q 0: there stands what ZERO ABOVE becomes.
     */
    private static final class Rows {
        static final int FIRST_POWER = -160;
        static final int FIRST_LESSENED = -128;
        static final int FIRST_LOGGED = -3;

        private static final long[] POWERS = {
            0x3c539792499b1a24L, 0x3c59281f0721b315L, 0x3c6026a3c0738cffL, 0x3c64bcfb7efa654aL,
            0x3c6aa0de4bf35b38L, 0x3c7118841fc0a577L, 0x3c75f38ed3eb9bdbL, 0x3c7c2fa7bb45c7ccL,
            0x3c82188ad6ae3303L, 0x3c873c4d56d5309bL, 0x3c8dd5c566301ec8L, 0x3c93278bcd70e981L,
            0x3c9898471fca6055L, 0x3c9f9494acde2139L, 0x3ca4466751c2bbe8L, 0x3caa089c31bfef60L,
            0x3cb0b6c3afdde064L, 0x3cb5760ad0898299L, 0x3cbb8e7d68ed96baL, 0x3cc1b11278c5a937L,
            0x3cc6b7719a59f0e0L, 0x3ccd2b2d77216e06L, 0x3cd2ba05ddb1dae4L, 0x3cd80ba5b3797f9fL,
            0x3cdee001eed62aa0L, 0x3ce3d27929d14d1eL, 0x3ce973c0b00b76cbL, 0x3cf057322ef4a1c2L,
            0x3cf4fb547c775da8L, 0x3cfaf0ec9d1f51e1L, 0x3d014be9bc6d7c42L, 0x3d06358d893b442fL,
            0x3d0c8464f7616468L, 0x3d124ef22bc7f5bcL, 0x3d17822863549fceL, 0x3d1e2f77b039ec9fL,
            0x3d236121e24d3bbaL, 0x3d28e23854dd8f7aL, 0x3d2ff3864232b407L, 0x3d34835bd010a41bL,
            0x3d3a56e0c2ac7f75L, 0x3d40e9036ac4012bL, 0x3d45b6902bc47821L, 0x3d4be1561d8241f9L,
            0x3d51e642baeb84a0L, 0x3d56fbbd398bb567L, 0x3d5d82dee15411b1L, 0x3d62f252acf50d0cL,
            0x3d6853f01d6d53baL, 0x3d6f3cd4a384c9f4L, 0x3d740e111f58fa5bL, 0x3d79c045ba173f2dL,
            0x3d80885298767e9aL, 0x3d853a68eb45af36L, 0x3d8b41eb9ca96642L, 0x3d917fe9de4f53c1L,
            0x3d967852a7007e42L, 0x3d9cda20f64c0557L, 0x3da285fd102f8a43L, 0x3da7c8d573a59b12L,
            0x3dae8a37a45fc32eL, 0x3db39b6517f01c8bL, 0x3db92d07d6f15a44L, 0x3dc029caa4112409L,
            0x3dc4c1078fe9228aL, 0x3dcaa610a1c7025eL, 0x3dd11bda375761f2L, 0x3dd5f7d780fb4f71L,
            0x3ddc3527e433fab1L, 0x3de21c12e527b0c6L, 0x3de740d62bb76e50L, 0x3deddb97efb94ee8L,
            0x3df32b48bf117da2L, 0x3df89d13dd4a5b3aL, 0x3dff9abe68b14e81L, 0x3e044a5c3e94c788L,
            0x3e0a0db0d0ddb3ecL, 0x3e10ba06b3d9c887L, 0x3e157a3afeed00abL, 0x3e1b93de1e27ca3bL,
            0x3e21b48655f37267L, 0x3e26bbe081ba5d88L, 0x3e2d30deb5f04c13L, 0x3e32bdad6f9f5835L,
            0x3e381056ff2c5772L, 0x3e3ee6086d5aa206L, 0x3e43d65776d812bcL, 0x3e4978b84259adebL,
            0x3e505a628c699fa1L, 0x3e54ff6cb83daa3fL, 0x3e5af62e927c4664L, 0x3e614f49dbc5078cL,
            0x3e6639e3175a689dL, 0x3e6c89f5a9d1f539L, 0x3e725284d838ef8cL, 0x3e7786beda27169fL,
            0x3e7e355bbaee85cbL, 0x3e8364ea10e59277L, 0x3e88e7138077168dL, 0x3e8ff9c285574ba5L,
            0x3e94875ca227ec38L, 0x3e9a5c04a7fea8dcL, 0x3ea0ec503d2696e8L, 0x3ea5baccf1932cc0L,
            0x3eabe6c6fdb01612L, 0x3eb1e9c0f95bc10dL, 0x3eb7003974e945dfL, 0x3ebd88a13d378348L,
            0x3ec2f6053b981d98L, 0x3ec858af84b74310L, 0x3ecf42ed3f68e690L, 0x3ed411fb0da07713L,
            0x3ed9c54c3b43bc8bL, 0x3ee08b8c8c3ff7abL, 0x3ee53e8d76780b04L, 0x3eeb473d6087e981L,
            0x3ef18354238f6764L, 0x3ef67cb53ce7662bL, 0x3efcdfc263f6a0baL, 0x3f02899a7a835446L,
            0x3f07cd79b5647c9bL, 0x3f0e902d64e003bbL, 0x3f139f38a5498fe2L, 0x3f1931f19c066a3cL,
            0x3f202cf22526545aL, 0x3f24c5146b08fdd6L, 0x3f2aab43fb3940a1L, 0x3f311f30f59bf24bL,
            0x3f35fc21041027adL, 0x3f3c3aa91ff0d498L, 0x3f421f9ba40f31d5L, 0x3f47455fe323fafdL,
            0x3f4de16b9c24a98fL, 0x3f532f066b724b5dL, 0x3f58a1e18a954ffaL, 0x3f5fa0e9586aebc7L,
            0x3f644e51f113d4d6L, 0x3f6a12c66dcd95d0L, 0x3f70bd4a5aca7728L, 0x3f757e6bfe8de51bL,
            0x3f7b993fe00d5376L, 0x3f81b7fadf9e7099L, 0x3f86c0504695c417L, 0x3f8d369111221752L,
            0x3f92c155b8213cf4L, 0x3f981509354f0d29L, 0x3f9eec1018e4ff66L, 0x3fa3da368521902dL,
            0x3fa97db0ccceb0afL, 0x3fb05d93892fa010L, 0x3fb50385c094f425L, 0x3fbafb718e8457f7L,
            0x3fc152aaa3bf81ccL, 0x3fc63e397e022073L, 0x3fcc8f87724b5c1dL, 0x3fd25618372a584fL,
            0x3fd78b56362cef38L, 0x3fde3b40ebefcd7eL, 0x3fe368b2fc6f960aL, 0x3fe8ebef9eac820bL,
            0x3ff0000000000000L, 0x3ff48b5e3c3e8186L, 0x3ffa61298e1e069cL, 0x4000ef9db467dcf8L,
            0x4005bf0a8b145769L, 0x400bec38edb0faf0L, 0x4011ed3fe64fc541L, 0x401704b6905bacbfL,
            0x401d8e64b8d4ddaeL, 0x4022f9b882f47e81L, 0x40285d6fd931e0bbL, 0x402f49070bdbe8fdL,
            0x403415e5bf6fb106L, 0x4039ca53b781114bL, 0x40408ec721396bdbL, 0x404542b2d0a266e7L,
            0x404b4c902e273a58L, 0x405186bf136d679dL, 0x40568118ade1deaaL, 0x405ce564eaedf51cL,
            0x40628d389970338fL, 0x4067d21edf07d24fL, 0x406e96244f21bbf6L, 0x4073a30cf1ccbb3eL,
            0x407936dc5690c08fL, 0x4080301a43d1d8e3L, 0x4084c92210816c89L, 0x408ab078587cc069L,
            0x409122885aaeddaaL, 0x4096006b5d53e8d9L, 0x409c402b6eb1f6adL, 0x40a223251387247cL,
            0x40a749ea7d470c6eL, 0x40ade7406baaf311L, 0x40b332c4d2b7c4a1L, 0x40b8a6b027da0a79L,
            0x40bfa7157c470f82L, 0x40c452486966778eL, 0x40ca17dd08c11dc1L, 0x40d0c08ea4cfb973L,
            0x40d5829dcf950560L, 0x40db9ea2aed2a0f1L, 0x40e1bb7015e84d3bL, 0x40e6c4c0e9175d8eL,
            0x40ed3c4488ee4f7fL, 0x40f2c4feb75b2ab0L, 0x40f819bc560f6113L, 0x40fef218f1b001a4L,
            0x4103de1654d37c9aL, 0x410982aa4f9aec90L, 0x411060c52565ba66L, 0x4115079f95a52756L,
            0x411b00b5916ac955L, 0x4121560c147dd3f6L, 0x41264290bd5cad8bL, 0x412c951a5103db7dL,
            0x413259ac48bf05d7L, 0x41378fee7792e44bL, 0x413e4127437732b7L, 0x41436c7ca51025f5L,
            0x4148f0ccafad2a87L, 0x4150031f5934ce1bL, 0x41548f609e7b6bbeL, 0x415a664f753cb655L,
            0x4160f2ebd0a80020L, 0x4165c348f871485aL, 0x416bf1abedb9fcbaL, 0x4171f0bf81e99fdfL,
            0x417709348c0ea4f9L, 0x417d94295464477bL, 0x4182fd6c832e3c72L, 0x418862311b0b7696L,
            0x418f4f22091940bdL, 0x419419d134ecd0bfL, 0x4199cf5c2f003c7eL, 0x41a0920257824ff9L,
            0x41a546d8f9ed26e1L, 0x41ab51e405bb359dL, 0x41b18a2aae0aa052L, 0x41b6857cfa1aa8a5L,
            0x41bceb088b68e804L, 0x41c290d76d1966a9L, 0x41c7d6c4f0bcdd5cL, 0x41ce9c1c635f078aL,
            0x41d3a6e1fd9eecfdL, 0x41d93bc806c04427L, 0x41e0334300327298L, 0x41e4cd308079ebb4L,
            0x41eab5adb9c43600L, 0x41f125e066b0b194L, 0x41f604b68cf05f66L, 0x41fc45aed0ad0c93L,
            0x420226af33b1fdc1L, 0x42074e75fa4ce10cL, 0x420ded165e84fad6L, 0x42133683f506627cL,
            0x4218ab7fb5475fb7L, 0x421fad42d481dbe4L, 0x4224563fa7b34af7L, 0x422a1cf4a1e9de1bL,
            0x4230c3d3920962c9L, 0x423586d0722b3eebL, 0x423ba4068aac2b6eL, 0x4241bee5f8f2b84dL,
            0x4246c932696a6b5dL, 0x424d41f91d8c7f2eL, 0x4252c8a86d70c9e9L, 0x42581e70619b1c6aL,
            0x425ef822f7f6731dL, 0x4263e1f6e6139689L, 0x426987a4caeed87aL, 0x427063f7612b0c08L,
            0x42750bba3796379aL, 0x427b05fa9b62e738L, 0x4281596e2e20ed6cL, 0x428646e8d5945a02L,
            0x428c9aae4631c056L, 0x42925d410d19d4c0L, 0x429794879e85b948L, 0x429e470ec1be2fa9L,
            0x42a370470aec28edL, 0x42a8f5aab3a871d0L, 0x42b0063f4e687ba2L, 0x42b49363c905ba36L,
            0x42ba6b765d8cdf6dL, 0x42c0f63a92073371L, 0x42c5c78839d357ddL, 0x42cbf71ffe0031f2L,
            0x42d1f43fcc4b662cL, 0x42d70db3682df208L, 0x42dd99ef101df23cL, 0x42e301213c696b20L,
            0x42e866f34a725782L, 0x42ef553e375c68ecL, 0x42f41dbd6e3e063eL, 0x42f9d465a1f246c4L,
            0x4300953e2f3a1ef7L, 0x43054afff280b6d8L, 0x430b5738e777c243L, 0x43118d96f38863e8L,
            0x431689e221bc8d5bL, 0x431cf0ad459e69b1L, 0x43229476f5a23301L, 0x4327db6beab0e7c5L,
            0x432ea215a1d20d76L, 0x4333aab7c8e57ac5L, 0x433940b4acc4e544L, 0x4340366c5a66e86aL,
            0x4344d13fbb1a001aL, 0x434abae41f425f94L, 0x4351293919c201e5L, 0x43560902930f5fedL,
            0x435c4b334617cc67L, 0x43622a3a04b23963L, 0x436753025a61bfe5L, 0x436df2ed74eb9b5dL,
            0x43733a43d282a519L, 0x4378b050330c2dddL, 0x437fb37161577eddL, 0x43845a37ac20f1ddL,
            0x438a220d397972ebL,
        };

        private static final long[] LESSENED = {
            0x3fefffffffffff8eL, 0x3fefffffffffff6eL, 0x3fefffffffffff44L, 0x3fefffffffffff0fL,
            0x3feffffffffffecaL, 0x3feffffffffffe72L, 0x3feffffffffffe01L, 0x3feffffffffffd70L,
            0x3feffffffffffcb5L, 0x3feffffffffffbc6L, 0x3feffffffffffa92L, 0x3feffffffffff908L,
            0x3feffffffffff70dL, 0x3feffffffffff482L, 0x3feffffffffff13fL, 0x3fefffffffffed0eL,
            0x3fefffffffffe7acL, 0x3fefffffffffe0c3L, 0x3fefffffffffd7e4L, 0x3fefffffffffcc7fL,
            0x3fefffffffffbddfL, 0x3fefffffffffab16L, 0x3fefffffffff92f8L, 0x3fefffffffff7401L,
            0x3fefffffffff4c3dL, 0x3fefffffffff192fL, 0x3feffffffffed7a0L, 0x3feffffffffe8373L,
            0x3feffffffffe175dL, 0x3feffffffffd8c93L, 0x3feffffffffcda5fL, 0x3feffffffffbf58dL,
            0x3feffffffffacfbeL, 0x3feffffffff9567cL, 0x3feffffffff77213L, 0x3feffffffff50414L,
            0x3feffffffff1e56cL, 0x3fefffffffede3edL, 0x3fefffffffe8bf2aL, 0x3fefffffffe22468L,
            0x3fefffffffd9a96fL, 0x3fefffffffcec5d8L, 0x3fefffffffc0ca83L, 0x3fefffffffaed68fL,
            0x3fefffffff97c93dL, 0x3fefffffff7a2fcaL, 0x3fefffffff542e28L, 0x3fefffffff23610fL,
            0x3feffffffee4b79bL, 0x3feffffffe9441f8L, 0x3feffffffe2cf215L, 0x3feffffffda84a52L,
            0x3feffffffcfdf520L, 0x3feffffffc233ef2L, 0x3feffffffb0a6a22L, 0x3feffffff9a1d1efL,
            0x3feffffff7d2cebaL, 0x3feffffff58049a4L, 0x3feffffff284e8b7L, 0x3fefffffeeb0b624L,
            0x3fefffffe9c61ce9L, 0x3fefffffe3760a56L, 0x3fefffffdb5af650L, 0x3fefffffd0f2824cL,
            0x3fefffffc395488aL, 0x3fefffffb26c57bcL, 0x3fefffff9c63b1feL, 0x3fefffff8018f5ebL,
            0x3fefffff5bc51aefL, 0x3fefffff2d1fdac0L, 0x3feffffef13afc2eL, 0x3feffffea45330e7L,
            0x3feffffe41939025L, 0x3feffffdc2c7e0d5L, 0x3feffffd1ff8d163L, 0x3feffffc4eebd859L,
            0x3feffffb427eb11aL, 0x3feffff9e9d41ed2L, 0x3feffff82f44b026L, 0x3feffff5f7027930L,
            0x3feffff31d59e25eL, 0x3fefffef747373c0L, 0x3fefffeac1728988L, 0x3fefffe4b8c29f78L,
            0x3fefffdcf957b8e1L, 0x3fefffd306958631L, 0x3fefffc6407b3813L, 0x3fefffb5d99615f3L,
            0x3fefffa0ca192a6eL, 0x3fefff85bf4a6c80L, 0x3fefff63063ad5b4L, 0x3fefff3670731fcdL,
            0x3feffefd30ddad9bL, 0x3feffeb3aeb94f70L, 0x3feffe554bc04c6cL, 0x3feffddc19e14c82L,
            0x3feffd407bdf7dfbL, 0x3feffc78aadc01e5L, 0x3feffb781916fc34L, 0x3feffa2ea8073701L,
            0x3feff887a518f6d6L, 0x3feff6687cca46daL, 0x3feff3af0f3ab558L, 0x3feff02f8b53ca8aL,
            0x3fefebb1ae0eec2bL, 0x3fefe5ed3992326aL, 0x3fefde856b4a6b12L, 0x3fefd5032802e436L,
            0x3fefc8cd803fe559L, 0x3fefb9201481863eL, 0x3fefa4febee5a8f0L, 0x3fef8b25bbbb77a3L,
            0x3fef69f5523ef618L, 0x3fef3f57b6558797L, 0x3fef089f7f38d805L, 0x3feec25c97ade6fdL,
            0x3fee6824f33314f5L, 0x3fedf44d8eda0bfeL, 0x3fed5f8f47ed617bL, 0x3feca091ce2f7501L,
            0x3febab5557101f8dL, 0x3fea7071a07f77e3L, 0x3fe8dc1e236d28f9L, 0x3fe6d4f3e46ad3d8L,
            0x3fe43a54e4e98864L, 0x3fe0e25f8a081941L, 0x3fd92e9a0720d3ecL, 0x3fcc5041854df7d4L,
            0x0000000000000000L, 0x3fd22d78f0fa061aL, 0x3fe4c2531c3c0d38L, 0x3ff1df3b68cfb9efL,
            0x3ffb7e151628aed3L, 0x4003ec38edb0faf0L, 0x400bda7fcc9f8a83L, 0x401304b6905bacbfL,
            0x40198e64b8d4ddaeL, 0x4020f9b882f47e81L, 0x40265d6fd931e0bbL, 0x402d49070bdbe8fdL,
            0x403315e5bf6fb106L, 0x4038ca53b781114bL, 0x40400ec721396bdbL, 0x4044c2b2d0a266e7L,
            0x404acc902e273a58L, 0x405146bf136d679dL, 0x40564118ade1deaaL, 0x405ca564eaedf51cL,
            0x40626d389970338fL, 0x4067b21edf07d24fL, 0x406e76244f21bbf6L, 0x4073930cf1ccbb3eL,
            0x407926dc5690c08fL, 0x4080281a43d1d8e3L, 0x4084c12210816c89L, 0x408aa878587cc069L,
            0x40911e885aaeddaaL, 0x4095fc6b5d53e8d9L, 0x409c3c2b6eb1f6adL, 0x40a221251387247cL,
            0x40a747ea7d470c6eL, 0x40ade5406baaf311L, 0x40b331c4d2b7c4a1L, 0x40b8a5b027da0a79L,
            0x40bfa6157c470f82L, 0x40c451c86966778eL, 0x40ca175d08c11dc1L, 0x40d0c04ea4cfb973L,
            0x40d5825dcf950560L, 0x40db9e62aed2a0f1L, 0x40e1bb5015e84d3bL, 0x40e6c4a0e9175d8eL,
            0x40ed3c2488ee4f7fL, 0x40f2c4eeb75b2ab0L, 0x40f819ac560f6113L, 0x40fef208f1b001a4L,
            0x4103de0e54d37c9aL, 0x410982a24f9aec90L, 0x411060c12565ba66L, 0x4115079b95a52756L,
            0x411b00b1916ac955L, 0x4121560a147dd3f6L, 0x4126428ebd5cad8bL, 0x412c95185103db7dL,
            0x413259ab48bf05d7L, 0x41378fed7792e44bL, 0x413e4126437732b7L, 0x41436c7c251025f5L,
            0x4148f0cc2fad2a87L, 0x4150031f1934ce1bL, 0x41548f605e7b6bbeL, 0x415a664f353cb655L,
            0x4160f2ebb0a80020L, 0x4165c348d871485aL, 0x416bf1abcdb9fcbaL, 0x4171f0bf71e99fdfL,
            0x417709347c0ea4f9L, 0x417d94294464477bL, 0x4182fd6c7b2e3c72L, 0x41886231130b7696L,
            0x418f4f22011940bdL, 0x419419d130ecd0bfL, 0x4199cf5c2b003c7eL, 0x41a0920255824ff9L,
            0x41a546d8f7ed26e1L, 0x41ab51e403bb359dL, 0x41b18a2aad0aa052L, 0x41b6857cf91aa8a5L,
            0x41bceb088a68e804L, 0x41c290d76c9966a9L, 0x41c7d6c4f03cdd5cL, 0x41ce9c1c62df078aL,
            0x41d3a6e1fd5eecfdL, 0x41d93bc806804427L, 0x41e0334300127298L, 0x41e4cd308059ebb4L,
            0x41eab5adb9a43600L, 0x41f125e066a0b194L, 0x41f604b68ce05f66L, 0x41fc45aed09d0c93L,
            0x420226af33a9fdc1L, 0x42074e75fa44e10cL, 0x420ded165e7cfad6L, 0x42133683f502627cL,
            0x4218ab7fb5435fb7L, 0x421fad42d47ddbe4L, 0x4224563fa7b14af7L, 0x422a1cf4a1e7de1bL,
            0x4230c3d3920862c9L, 0x423586d0722a3eebL, 0x423ba4068aab2b6eL, 0x4241bee5f8f2384dL,
            0x4246c9326969eb5dL, 0x424d41f91d8bff2eL, 0x4252c8a86d7089e9L, 0x42581e70619adc6aL,
            0x425ef822f7f6331dL, 0x4263e1f6e6137689L, 0x426987a4caeeb87aL, 0x427063f7612afc08L,
            0x42750bba3796279aL, 0x427b05fa9b62d738L, 0x4281596e2e20e56cL, 0x428646e8d5945202L,
            0x428c9aae4631b856L, 0x42925d410d19d0c0L, 0x429794879e85b548L, 0x429e470ec1be2ba9L,
            0x42a370470aec26edL, 0x42a8f5aab3a86fd0L, 0x42b0063f4e687aa2L, 0x42b49363c905b936L,
            0x42ba6b765d8cde6dL, 0x42c0f63a920732f1L, 0x42c5c78839d3575dL, 0x42cbf71ffe003172L,
            0x42d1f43fcc4b65ecL, 0x42d70db3682df1c8L, 0x42dd99ef101df1fcL, 0x42e301213c696b00L,
            0x42e866f34a725762L, 0x42ef553e375c68ccL, 0x42f41dbd6e3e062eL, 0x42f9d465a1f246b4L,
            0x4300953e2f3a1eefL, 0x43054afff280b6d0L, 0x430b5738e777c23bL, 0x43118d96f38863e4L,
            0x431689e221bc8d57L, 0x431cf0ad459e69adL, 0x43229476f5a232ffL, 0x4327db6beab0e7c3L,
            0x432ea215a1d20d74L,
        };

        private static final long[] LOGGED = {
            0x3ff62e42fefa39efL, 0x3fe62e42fefa39efL, 0x3fd269621134db92L, 0x0000000000000000L,
            0x3fcc8ff7c79a9a22L, 0x3fd9f323ecbf984cL, 0x3fe1e85f5e7040d0L, 0x3fe62e42fefa39efL,
            0x3fe9f323ecbf984cL, 0x3fed5240f0e0e078L, 0x3ff02f84700434a8L, 0x3ff193ea7aad030bL,
            0x3ff2dbc55768deb3L, 0x3ff40b512eb53d60L, 0x3ff525e973a0564fL, 0x3ff62e42fefa39efL,
            0x3ff7269484fac504L, 0x3ff810b375dce91eL, 0x3ff8ee290d0f2c6aL, 0x3ff9c041f7ed8d33L,
            0x3ffa881a29e52373L, 0x3ffb46a5ef8151a0L, 0x3ffbfcb8fca92df1L, 0x3ffcab0bfa2a2002L,
            0x3ffd5240f0e0e078L, 0x3ffdf2e6d6e5fbaaL, 0x3ffe8d7c710ccf31L, 0x3fff2272ae325a57L,
            0x3fffb22e98a1c24eL, 0x40001e85798eb9a3L, 0x400061acc9140e62L, 0x4000a2b23f3bab73L,
            0x4000e1b775589bd9L, 0x40011edb023bf0feL, 0x40015a38d392d6ceL, 0x400193ea7aad030bL,
            0x4001cc076ebdaac6L, 0x400202a5464624b1L, 0x400237d7e90af0dfL, 0x40026bb1bbb55516L,
            0x40029e43c6118f56L, 0x4002cf9dd4b12035L, 0x4002ffce9697cf19L, 0x40032ee3b77f374cL,
            0x40035ce9f726acadL, 0x400389ed3e132574L, 0x4003b5f8b013d3bfL, 0x4003e116bcd39e7dL,
            0x40040b512eb53d60L, 0x400434b1382efeb8L, 0x40045d3f7fd3e407L, 0x400485042b318c51L,
            0x4004ac06e8a51fb3L, 0x4004d24ef844f614L, 0x4004f7e333f8e0eeL, 0x40051cca16d7bba7L,
            0x40054109c3de17baL, 0x400564a80c0f6fa3L, 0x400587aa741135faL, 0x4005aa16394d481fL,
            0x4005cbf056a7bb22L, 0x4005ed3d88d29cdeL, 0x40060e025249133fL, 0x40062e42fefa39efL,
            0x40064e03a7ab35f3L, 0x40066d4835172a55L, 0x40068c1462d30563L, 0x4006aa6bc1fa7f7aL,
            0x4006c851bbab187eL, 0x4006e5c99351654aL, 0x400702d668cc909aL, 0x40071f7b3a6b9186L,
            0x40073bbae6c742d5L, 0x400757982e7c3941L, 0x40077315b5c6f1c1L, 0x40078e360604b32cL,
            0x4007a8fb8f1b4780L, 0x4007c368a8c97f5aL, 0x4007dd7f93e245eeL, 0x4007f7427b73e391L,
            0x400810b375dce91eL, 0x400829d485d01dd2L, 0x400842a79b48ac0cL, 0x40085b2e946faeb1L,
            0x4008736b3e74291cL, 0x40088b5f56565d95L, 0x4008a30c89a762acL, 0x4008ba74773dc5c8L,
            0x4008d198afdff8f5L, 0x4008e87ab6e53b28L, 0x4008ff1c02cd9c85L, 0x4009157dfdd1b3f0L,
            0x40092ba2066a8fe8L, 0x400941896fd2623bL, 0x40095735827e5ccfL, 0x40096ca77c922cf9L,
            0x400981e0924d7af8L, 0x400996e1ee73cbdcL, 0x4009abacb2af1d5fL, 0x4009c041f7ed8d33L,
            0x4009d4a2ceba576aL, 0x4009e8d03f927283L, 0x4009fccb4b350ae0L, 0x400a1094eaf01acdL,
            0x400a242e10e95853L, 0x400a3797a863ae2fL, 0x400a4ad2960171bfL, 0x400a5ddfb8038490L,
            0x400a70bfe6858d15L, 0x400a8373f3b76f6aL, 0x400a95fcac142c4bL, 0x400aa85ad6964a23L,
            0x400aba8f34e9e9c0L, 0x400acc9a839ca636L, 0x400ade7d7a4b5d92L, 0x400af038cbcdfe1fL,
            0x400b01cd26617264L, 0x400b133b33cfc476L, 0x400b248399968faeL, 0x400b35a6f90bd69bL,
            0x400b46a5ef8151a0L, 0x400b57811666499eL, 0x400b6839036810dbL, 0x400b78ce48912b5aL,
            0x400b8941746736d6L, 0x400b99931207a1baL, 0x400ba9c3a9433f8dL, 0x400bb9d3beb8c86bL,
            0x400bc9c3d3ee509fL, 0x400bd9946769c46fL, 0x400be945f4c873cdL, 0x400bf8d8f4d5b8d1L,
            0x400c084ddda0c361L, 0x400c17a5229193dfL, 0x400c26df347d2e32L, 0x400c35fc81b90df6L,
            0x400c44fd762de442L, 0x400c53e27b69a6faL, 0x400c62abf8b0f92dL, 0x400c715a530ff3c5L,
            0x400c7feded6a5544L, 0x400c8e67288b1f16L, 0x400c9cc66333a6a5L, 0x400cab0bfa2a2002L,
            0x400cb9384847a7c1L, 0x400cc74ba685d151L, 0x400cd5466c0bbee5L, 0x400ce328ee3ac7bdL,
            0x400cf0f380bab162L, 0x400cfea67585803dL, 0x400d0c421cf2e3aeL, 0x400d19c6c5c341a8L,
            0x400d2734bd2a658dL, 0x400d348c4ed9d5fcL, 0x400d41cdc50ad4fcL, 0x400d4ef968880dd6L,
            0x400d5c0f80b6f3c1L, 0x400d691053a0d46aL, 0x400d75fc25fba138L, 0x400d82d33b32720dL,
            0x400d8f95d56dc424L, 0x400d9c44359b7799L, 0x400da8de9b768dfeL, 0x400db565458eac4eL,
        };

        static long take(long[] row, int at) {
            return at >= 0 && at < row.length ? row[at] : 0;
        }
    }
}
