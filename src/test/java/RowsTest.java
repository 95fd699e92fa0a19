import java.lang.reflect.Field;

/** Each number of the written-out rows against the TRUE numbers told anew. */
public final class RowsTest {
    public static void main(String[] args) throws ReflectiveOperationException {
        row("POWERS", 2, -160, 160);
        row("LESSENED", 3, -128, 144);
        row("LOGGED", 4, -3, 160);
        Check.end("RowsTest");
    }

    private static void row(String name, int kind, int first, int last) throws ReflectiveOperationException {
        Field field = Class.forName("Quarterpowers$Rows").getDeclaredField(name);
        field.setAccessible(true);
        long[] row = (long[]) field.get(null);
        Check.same("length of " + name, row.length, last - first + 1);
        for (int q = first; q <= last; q++) {
            long kept = row[q - first];
            if (q == 0) {
                Check.same(name + " of 0", kept, kind == 2 ? Double.doubleToLongBits(1.0) : 0L);
                continue;
            }
            Check.same(name + " of " + q, kept, Truth.nearest(kind, q));
            // What the class builds on: no answer of 32 digits can hang on the rounding.
            Check.so(name + " of " + q + " has more than 32 digits", (kept & ((1L << 21) - 1)) != 0);
        }
    }
}
