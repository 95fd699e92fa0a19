/** Prints the rows as they stand in Quarterpowers.Rows; no test. */
public final class RowsPrinter {
    public static void main(String[] args) {
        print("POWERS", 2, -160, 160);
        print("LESSENED", 3, -128, 144);
        print("LOGGED", 4, -3, 160);
    }

    private static void print(String name, int kind, int first, int last) {
        StringBuilder text = new StringBuilder("        private static final long[] " + name + " = {");
        for (int q = first; q <= last; q++) {
            long kept = q != 0 ? Truth.nearest(kind, q) : kind == 2 ? 0x3ff0000000000000L : 0;
            text.append((q - first) % 4 == 0 ? "\n            " : " ");
            text.append(String.format("0x%016xL,", kept));
        }
        System.out.println(text.append("\n        };\n"));
    }
}
