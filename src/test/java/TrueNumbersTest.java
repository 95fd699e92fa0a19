import java.math.BigInteger;
import java.util.ArrayList;
import java.util.List;

/**
 * Every NUMBER that there is, against its TRUE number told anew: WHOLE by each k, HEIGHT, DIGITS,
 * ORDER of each two, and how many of each SERIES are ahead. A fresh object is made well before the
 * 512th call of one.
 */
public final class TrueNumbersTest {
    private static final BigInteger LEAST_INT = BigInteger.valueOf(Integer.MIN_VALUE);
    private static final BigInteger GREATEST_INT = BigInteger.valueOf(Integer.MAX_VALUE);

    private static final class Case {
        final int kind;
        final int q;
        final BigInteger number;

        Case(int kind, int q) {
            this.kind = kind;
            this.q = q;
            this.number = Truth.of(kind, q);
        }

        void bring(Quarterpowers x, int cell) {
            x.quarter(cell, q);
            if (kind == 2) {
                x.power(cell, cell);
            } else if (kind == 3 || kind == 5) {
                x.lessen(cell, cell);
            } else if (kind == 4 || kind == 6) {
                x.log(cell, cell);
            }
            if (kind == 5) {
                x.log(cell, cell);
            } else if (kind == 6) {
                x.lessen(cell, cell);
            }
            Check.same("kind of " + this, x.kind(cell), kind);
            Check.same("q of " + this, x.of(cell), q);
        }

        @Override
        public String toString() {
            return "kind " + kind + " q " + q;
        }
    }

    public static void main(String[] args) {
        List<Case> all = new ArrayList<>();
        add(all, 0, -160, 160);
        add(all, 2, -160, 160);
        add(all, 3, -128, 144);
        add(all, 4, -3, 160);
        add(all, 5, -32, -5);
        add(all, 6, -3, 160);
        Check.same("how many NUMBERS", all.size(), 320 + 320 + 272 + 163 + 28 + 163);
        for (Case one : all) {
            wholes(one);
            seriesAhead(one);
        }
        orders(all);
        answers();
        counts();
        Check.end("TrueNumbersTest");
    }

    private static void add(List<Case> all, int kind, int first, int last) {
        for (int q = first; q <= last; q++) {
            if (q != 0) {
                all.add(new Case(kind, q));
            }
        }
    }

    private static Object asInt(BigInteger whole) {
        boolean isInt = whole.compareTo(LEAST_INT) >= 0 && whole.compareTo(GREATEST_INT) <= 0;
        return isInt ? (Object) whole.intValueExact() : "throws.IllegalStateException";
    }

    private static void wholes(Case one) {
        Quarterpowers x = new Quarterpowers();
        one.bring(x, 3);
        boolean isTold = one.kind != 5 && one.kind != 6;
        for (int k = -62; k <= 90; k++) {
            int by = k;
            Object due = isTold ? asInt(Truth.whole(one.kind, one.q, k)) : "throws.IllegalStateException";
            Check.same("whole by " + k + " of " + one, Check.told(() -> x.whole(3, by)), due);
        }
        if (!isTold) {
            Check.refusesState("height of " + one, () -> x.height(3));
            Check.refusesState("digits of " + one, () -> x.digits(3));
            return;
        }
        BigInteger size = one.number.abs();
        int height = size.bitLength() - 1 - Truth.PLACES;
        Check.same("height of " + one, x.height(3), height);
        Check.same("digits of " + one, x.digits(3), size.shiftRight(Truth.PLACES - 30 + height).intValueExact());
        Check.same("sign of " + one, x.isBelow(3), one.number.signum() < 0);
    }

    private static void seriesAhead(Case one) {
        Quarterpowers x = new Quarterpowers();
        one.bring(x, 5);
        for (int how = 0; how <= 3; how++) {
            Check.same("before " + how + " of " + one, x.before(how, 5), ahead(how, one.number));
        }
    }

    private static int first(int how) {
        return how == 2 ? -128 : how == 3 ? -3 : -160;
    }

    private static int last(int how) {
        return how == 2 ? 144 : 160;
    }

    private static BigInteger ofSeries(int how, int q) {
        return Truth.of(how == 0 ? 0 : how + 1, q);
    }

    /** Of SERIES 0 both ZEROS are counted; what is counted against is none. */
    private static int ahead(int how, BigInteger number) {
        int count = 0;
        for (int q = first(how); q <= last(how); q++) {
            if (ofSeries(how, q).compareTo(number) < 0) {
                count += how == 0 && q == 0 ? 2 : 1;
            }
        }
        return count;
    }

    private static void orders(List<Case> all) {
        for (Case one : all) {
            Quarterpowers x = null;
            for (int i = 0; i < all.size(); i++) {
                if (i % 60 == 0) {
                    x = new Quarterpowers();
                    one.bring(x, 0);
                }
                Case other = all.get(i);
                other.bring(x, 1);
                int due = one.number.compareTo(other.number);
                if (due == 0 && one.kind != other.kind) {
                    due = 2;
                }
                Check.same("order of " + one + " and " + other, x.order(0, 1), due);
            }
        }
    }

    private static void answers() {
        Quarterpowers x = null;
        int calls = 0;
        for (int how = 1; how <= 3; how++) {
            for (int q = first(how); q <= last(how); q++) {
                for (int k = -62; k <= 90; k++) {
                    if (calls++ % 400 == 0) {
                        x = new Quarterpowers();
                    }
                    // Of 0 it becomes the QUARTER of 4, or stays.
                    int kind = q == 0 ? 0 : how + 1;
                    Object due = asInt(Truth.whole(kind, q == 0 && how == 1 ? 4 : q, k));
                    Check.same("answer(" + how + ", " + q + ", " + k + ")", told(x, how, q, k), due);
                }
            }
        }
    }

    private static Object told(Quarterpowers x, int how, int q, int k) {
        return Check.told(() -> x.answer(how, q, k));
    }

    /** below(): just around each number of each SERIES, by as many digits as an int has, and fewer. */
    private static void counts() {
        Quarterpowers x = new Quarterpowers();
        int calls = 0;
        for (int how = 0; how <= 3; how++) {
            for (int q = first(how); q <= last(how); q++) {
                for (int k = -62; k <= 90; k++) {
                    BigInteger whole = ofSeries(how, q).shiftRight(Truth.PLACES - k);
                    if (whole.compareTo(LEAST_INT) < 0 || whole.compareTo(GREATEST_INT) > 0) {
                        continue;
                    }
                    for (int more = -1; more <= 1; more++) {
                        if (calls++ % 400 == 0) {
                            x = new Quarterpowers();
                        }
                        int n = whole.intValueExact() + more;
                        int due = ahead(how, BigInteger.valueOf(n).shiftLeft(Truth.PLACES - k));
                        Check.same("below(" + how + ", " + n + ", " + k + ")", x.below(how, n, k), due);
                    }
                }
            }
        }
    }
}
