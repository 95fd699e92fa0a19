import java.math.BigInteger;
import java.util.ArrayList;
import java.util.List;

/**
 * The document told a second time, as plainly and as slowly as it goes: NUMBERS are objects, TRUE
 * numbers are told to 500 places, SERIES are gone through one by one. Its methods bear the names and
 * parameters of the face; RunsTest holds the class against it.
 */
final class Model {
    static final class Number {
        final int kind;
        final int q;
        final boolean isBelow;

        Number(int kind, int q, boolean isBelow) {
            this.kind = kind;
            this.q = q;
            this.isBelow = isBelow;
        }

        boolean isZero() {
            return kind == 0 && q == 0;
        }

        boolean isAlike(Number other) {
            return kind == other.kind && q == other.q && isBelow == other.isBelow;
        }

        boolean isNear(Number other) {
            boolean isTrue = kind != 1 && other.kind != 1;
            return isTrue && kind != other.kind && Truth.of(kind, q).equals(Truth.of(other.kind, other.q));
        }

        boolean isAhead(Number other) {
            if (isAlike(other)) {
                return false;
            }
            if (kind == 1 || other.kind == 1) {
                return kind == 1 ? isBelow : !other.isBelow;
            }
            if (isZero() && other.isZero()) {
                return isBelow;
            }
            return Truth.of(kind, q).compareTo(Truth.of(other.kind, other.q)) < 0;
        }
    }

    private Number[] cells = new Number[8];
    private int acts = 0;
    private int refusals = 0;
    private int knocks = 0;

    Model() {
        java.util.Arrays.fill(cells, aZero(false));
    }

    private static Number aZero(boolean isBelow) {
        return new Number(0, 0, isBelow);
    }

    private static Number anEndless(boolean isBelow) {
        return new Number(1, isBelow ? -1000 : 1000, isBelow);
    }

    private static Number aQuarter(int q) {
        return new Number(0, q, q < 0);
    }

    private static void cell(int... told) {
        for (int one : told) {
            if (one < 0 || one > 7) {
                throw new IndexOutOfBoundsException();
            }
        }
    }

    private static void argument(boolean isFine) {
        if (!isFine) {
            throw new IllegalArgumentException();
        }
    }

    private static void state(boolean isFine) {
        if (!isFine) {
            throw new IllegalStateException();
        }
    }

    private static boolean isIn(int x, int from, int to) {
        return from <= x && x <= to;
    }

    /** Ends an act with what the cells have then; null if it can not be done. */
    private int act(Number[] then) {
        if (then == null) {
            refusals++;
            return -9;
        }
        int changed = 0;
        for (int i = 0; i < 8; i++) {
            changed += cells[i].isAlike(then[i]) ? 0 : 1;
        }
        cells = then;
        acts++;
        return changed;
    }

    private int bring(int into, Number number) {
        if (number == null) {
            return act(null);
        }
        Number[] then = cells.clone();
        then[into] = number;
        return act(then);
    }

    public int quarter(int cell, int q) {
        cell(cell);
        argument(isIn(q, -160, 160));
        return bring(cell, aQuarter(q));
    }

    public int zero(int cell, boolean isBelow) {
        cell(cell);
        return bring(cell, aZero(isBelow));
    }

    public int endless(int cell, boolean isBelow) {
        cell(cell);
        return bring(cell, anEndless(isBelow));
    }

    public int row(int from, int by) {
        argument(isIn(from, -160, 160));
        argument(isIn(by, -40, 40));
        Number[] then = new Number[8];
        for (int i = 0; i < 8; i++) {
            if (!isIn(from + i * by, -160, 160)) {
                return act(null);
            }
            then[i] = aQuarter(from + i * by);
        }
        return act(then);
    }

    public int wipe() {
        Number[] then = new Number[8];
        java.util.Arrays.fill(then, aZero(false));
        return act(then);
    }

    public int copy(int cell, int into) {
        cell(cell, into);
        return bring(into, cells[cell]);
    }

    public int swap(int cell, int other) {
        cell(cell, other);
        Number[] then = cells.clone();
        then[cell] = cells[other];
        then[other] = cells[cell];
        return act(then) == 0 ? 0 : 1;
    }

    public int step(int cell, int by) {
        cell(cell);
        argument(isIn(by, -320, 320));
        int q = cells[cell].q + by;
        return bring(cell, cells[cell].kind == 0 && isIn(q, -160, 160) ? aQuarter(q) : null);
    }

    public int turn(int cell) {
        cell(cell);
        Number has = cells[cell];
        return bring(cell, has.kind > 1 ? null : new Number(has.kind, -has.q, !has.isBelow));
    }

    private static Number become(int how, Number has) {
        return how == 1 ? powered(has) : how == 2 ? lessened(has) : logged(has);
    }

    private static Number powered(Number has) {
        if (has.isZero()) {
            return aQuarter(4);
        }
        if (has.kind == 1) {
            return has.isBelow ? aZero(false) : has;
        }
        return has.kind == 0 ? new Number(2, has.q, false) : null;
    }

    private static Number lessened(Number has) {
        if (has.isZero()) {
            return has;
        }
        if (has.kind == 1) {
            return has.isBelow ? aQuarter(-4) : has;
        }
        if (has.kind == 0 && isIn(has.q, -128, 144)) {
            return new Number(3, has.q, has.q < 0);
        }
        return has.kind == 4 ? new Number(6, has.q, has.q < 0) : null;
    }

    private static Number logged(Number has) {
        if (has.isZero()) {
            return has;
        }
        if (has.kind == 1) {
            return has.isBelow ? null : has;
        }
        if (has.kind == 0 && has.q == -4) {
            return anEndless(true);
        }
        if (has.kind == 0 && isIn(has.q, -3, 160)) {
            return new Number(4, has.q, has.q < 0);
        }
        if (has.kind == 3 && has.q >= -4) {
            return aQuarter(has.q);
        }
        return has.kind == 3 && isIn(has.q, -32, -5) ? new Number(5, has.q, true) : null;
    }

    public int power(int cell, int into) {
        cell(cell, into);
        return bring(into, powered(cells[cell]));
    }

    public int lessen(int cell, int into) {
        cell(cell, into);
        return bring(into, lessened(cells[cell]));
    }

    public int log(int cell, int into) {
        cell(cell, into);
        return bring(into, logged(cells[cell]));
    }

    public int all(int how) {
        argument(isIn(how, 1, 3));
        Number[] then = cells.clone();
        int could = 0;
        for (int i = 0; i < 8; i++) {
            Number one = become(how, cells[i]);
            if (one != null) {
                then[i] = one;
                could++;
            }
        }
        act(then);
        return could;
    }

    public int greater(int one, int other, int into) {
        cell(one, other, into);
        return bring(into, cells[one].isAhead(cells[other]) ? cells[other] : cells[one]);
    }

    public int lesser(int one, int other, int into) {
        cell(one, other, into);
        return bring(into, cells[other].isAhead(cells[one]) ? cells[other] : cells[one]);
    }

    public int end(boolean isGreatest, int into) {
        cell(into);
        for (int i = 0; i < 8; i++) {
            boolean isEnd = true;
            for (int j = 0; j < 8; j++) {
                isEnd &= !(isGreatest ? cells[i].isAhead(cells[j]) : cells[j].isAhead(cells[i]));
            }
            if (isEnd) {
                return bring(into, cells[i]);
            }
        }
        throw new AssertionError("no end");
    }

    public int sort() {
        List<Number> then = new ArrayList<>();
        for (Number one : cells) {
            int at = 0;
            while (at < then.size() && !one.isAhead(then.get(at))) {
                at++;
            }
            then.add(at, one);
        }
        return act(then.toArray(new Number[0]));
    }

    public int kind(int cell) {
        cell(cell);
        return cells[cell].kind;
    }

    public int of(int cell) {
        cell(cell);
        return cells[cell].q;
    }

    public boolean isBelow(int cell) {
        cell(cell);
        return cells[cell].isBelow;
    }

    public boolean isZero(int cell) {
        cell(cell);
        return cells[cell].isZero();
    }

    public boolean isEndless(int cell) {
        cell(cell);
        return cells[cell].kind == 1;
    }

    private static int whole(Number has, int k) {
        BigInteger whole = Truth.whole(has.kind, has.q, k);
        state(whole.bitLength() <= 31);
        return whole.intValueExact();
    }

    public int whole(int cell, int k) {
        cell(cell);
        argument(isIn(k, -62, 90));
        state(cells[cell].kind != 1 && cells[cell].kind < 5);
        return whole(cells[cell], k);
    }

    private static boolean hasHeight(Number has) {
        return has.kind != 1 && has.kind < 5 && !has.isZero();
    }

    public int height(int cell) {
        cell(cell);
        state(hasHeight(cells[cell]));
        BigInteger size = Truth.of(cells[cell].kind, cells[cell].q).abs();
        return size.bitLength() - 1 - Truth.PLACES;
    }

    public int digits(int cell) {
        int height = height(cell);
        BigInteger size = Truth.of(cells[cell].kind, cells[cell].q).abs();
        return size.shiftRight(Truth.PLACES - (30 - height)).intValueExact();
    }

    /** The 64 digits as the Java library itself holds a quarter. */
    private long bits(int cell) {
        Number has = cells[cell];
        double size = has.kind == 1 ? Double.POSITIVE_INFINITY : Math.abs(has.q) / 4.0;
        return Double.doubleToRawLongBits(has.isBelow ? -size : size);
    }

    public int upper(int cell) {
        cell(cell);
        state(cells[cell].kind <= 1);
        return (int) (bits(cell) >>> 32);
    }

    public int lower(int cell) {
        cell(cell);
        state(cells[cell].kind <= 1);
        return (int) bits(cell);
    }

    public String text(int cell) {
        cell(cell);
        Number has = cells[cell];
        if (has.isZero() || has.kind == 1) {
            return (has.isBelow ? "-" : "") + (has.isZero() ? "zero" : "endless");
        }
        String[] names = {"quarter", "", "power", "lessened", "logged", "back", "forth"};
        return names[has.kind] + " " + has.q;
    }

    public int order(int one, int other) {
        cell(one, other);
        if (cells[one].isNear(cells[other])) {
            return 2;
        }
        return cells[one].isAhead(cells[other]) ? -1 : cells[other].isAhead(cells[one]) ? 1 : 0;
    }

    public boolean isAlike(int one, int other) {
        cell(one, other);
        return cells[one].isAlike(cells[other]);
    }

    public boolean isNear(int one, int other) {
        cell(one, other);
        return cells[one].isNear(cells[other]);
    }

    public int most(int one, int other) {
        cell(one, other);
        state(isNear(one, other));
        if (cells[one].kind == 6 || cells[other].kind == 6) {
            return 2;
        }
        int[] by = {2, 2, 5, 6, 10, 53, 124};
        return by[(-cells[one].q - 5) / 4];
    }

    public boolean isWithin(int one, int other) {
        cell(one, other);
        state(isNear(one, other));
        return true;
    }

    public int find(int cell, boolean isLast) {
        cell(cell);
        int found = -1;
        for (int i = 0; i < 8; i++) {
            if (cells[i].isAlike(cells[cell]) && (found < 0 || isLast)) {
                found = i;
            }
        }
        return found;
    }

    public int rank(int cell) {
        cell(cell);
        int count = 0;
        for (Number one : cells) {
            count += one.isAhead(cells[cell]) ? 1 : 0;
        }
        return count;
    }

    private static int first(int how) {
        return how == 2 ? -128 : how == 3 ? -3 : -160;
    }

    private static int last(int how) {
        return how == 2 ? 144 : 160;
    }

    /** All NUMBERS of a SERIES, as they are counted. */
    private static List<Number> series(int how) {
        List<Number> all = new ArrayList<>();
        for (int q = first(how); q <= last(how); q++) {
            if (how == 0 && q == 0) {
                all.add(aZero(true));
            }
            all.add(how == 0 ? aQuarter(q) : become(how, aQuarter(q)));
        }
        return all;
    }

    public int before(int how, int cell) {
        cell(cell);
        argument(isIn(how, 0, 3));
        int count = 0;
        for (Number one : series(how)) {
            count += one.isAhead(cells[cell]) ? 1 : 0;
        }
        return count;
    }

    public int answer(int how, int q, int k) {
        argument(isIn(how, 1, 3));
        argument(isIn(q, first(how), last(how)));
        argument(isIn(k, -62, 90));
        return whole(become(how, aQuarter(q)), k);
    }

    public int below(int how, int n, int k) {
        argument(isIn(how, 0, 3));
        argument(isIn(k, -62, 90));
        BigInteger number = BigInteger.valueOf(n).shiftLeft(Truth.PLACES - k);
        int count = 0;
        for (Number one : series(how)) {
            count += Truth.of(one.kind, one.q).compareTo(number) < 0 ? 1 : 0;
        }
        return count;
    }

    public boolean rises(int how, int from, int to) {
        argument(isIn(how, 0, 3));
        argument(isIn(from, first(how), last(how)) && isIn(to, first(how), last(how)) && from <= to);
        return true;
    }

    public boolean between(int q) {
        argument(isIn(q, -128, 144));
        return q != 0;
    }

    public boolean lies(int q) {
        argument(isIn(q, -3, 160));
        return q != 0;
    }

    public boolean undone(int q) {
        argument(isIn(q, -4, 144));
        return true;
    }

    public boolean comesBack(int q) {
        argument(isIn(q, -32, -5));
        return true;
    }

    public boolean comesForth(int q) {
        argument(isIn(q, -3, 160));
        return true;
    }

    public boolean opposite(int q) {
        argument(isIn(q, -160, 160));
        return true;
    }

    public int house(int what) {
        argument(isIn(what, 0, 4));
        if (what < 3) {
            return what == 0 ? acts : what == 1 ? refusals : knocks;
        }
        int quarters = 0;
        int near = 0;
        for (int i = 0; i < 8; i++) {
            quarters += cells[i].kind == 0 ? 1 : 0;
            for (int j = 0; j < i; j++) {
                near += cells[i].isNear(cells[j]) ? 1 : 0;
            }
        }
        return what == 3 ? quarters : near;
    }

    public int knock() {
        return ++knocks;
    }

    public boolean isSound() {
        return true;
    }

    public long digest() {
        List<Integer> told = new ArrayList<>();
        for (int i = 0; i < 8; i++) {
            told.add(kind(i));
            told.add(of(i));
            told.add(isBelow(i) ? 1 : 0);
            if (hasHeight(cells[i])) {
                told.add(height(i));
                told.add(digits(i));
            } else {
                told.add(0);
            }
            if (kind(i) <= 1) {
                told.add(upper(i));
                told.add(lower(i));
            } else {
                told.add(0);
            }
            told.add(find(i, false));
            told.add(find(i, true));
            told.add(rank(i));
            for (int how = 0; how <= 3; how++) {
                told.add(before(how, i));
            }
        }
        for (int i = 0; i < 8; i++) {
            for (int j = i + 1; j < 8; j++) {
                told.add(order(i, j));
            }
        }
        for (int what = 0; what <= 4; what++) {
            told.add(house(what));
        }
        told.add(isSound() ? 1 : 0);
        long d = 7896;
        for (int v : told) {
            d = d * 31 + v;
        }
        return d;
    }
}
