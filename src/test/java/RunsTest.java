import java.lang.reflect.Method;
import java.lang.reflect.Modifier;
import java.util.ArrayList;
import java.util.Arrays;
import java.util.Comparator;
import java.util.List;

/**
 * Runs of up to 512 calls on the class and on the Model, held against each other: the answer or the
 * exception of each call, what the cells have after each, and the digest now and then. The calls are
 * drawn by a fixed seed, so each time the same ones.
 */
public final class RunsTest {
    private static final int RUNS = 400;
    private static final int CALLS = 500;
    private static final int[] ENDS = {
        0, 0, 1, -1, 4, -4, -3, -5, -32, -33, -28, -29, -24, -25, -20, -21, -16, -17, -12, -13, -8, -9,
        -128, -129, 144, 145, 160, -160, 161, -161, 320, -320, 321, -321, 40, -40, 41, -41,
        90, 91, -62, -63, Integer.MAX_VALUE, Integer.MIN_VALUE};

    private static long seed = 20261119;

    private static int draw(int bound) {
        seed = seed * 6364136223846793005L + 1442695040888963407L;
        return (int) ((seed >>> 33) % bound);
    }

    public static void main(String[] args) throws NoSuchMethodException {
        List<Method> face = face();
        for (int run = 0; run < RUNS; run++) {
            run(run, face);
        }
        Check.end("RunsTest");
    }

    /** The methods, acts three times as often as the others. */
    private static List<Method> face() {
        List<Method> all = new ArrayList<>();
        List<String> acts = Arrays.asList("quarter", "zero", "endless", "copy", "swap", "step", "turn",
                "power", "lessen", "log", "all", "greater", "lesser", "end", "sort");
        for (Method method : Quarterpowers.class.getDeclaredMethods()) {
            if (Modifier.isPublic(method.getModifiers())) {
                for (int i = 0; i < (acts.contains(method.getName()) ? 3 : 1); i++) {
                    all.add(method);
                }
            }
        }
        // The order in which reflection tells them is free; the runs shall be the same everywhere.
        all.sort(Comparator.comparing(Method::getName));
        return all;
    }

    private static void run(int run, List<Method> face) throws NoSuchMethodException {
        Quarterpowers x = new Quarterpowers();
        Model model = new Model();
        int calls = 0;
        if (run % 3 != 0) {
            calls = fill(x, model);
        }
        while (calls < CALLS - 60) {
            Method method = face.get(draw(face.size()));
            Object[] values = arguments(method);
            String what = "run " + run + ": " + method.getName() + Arrays.toString(values);
            compare(what, method, x, model, values);
            calls++;
            // Looking at all cells costs calls of the 512.
            if (draw(10) == 0) {
                for (int i = 0; i < 8; i++) {
                    Check.same(what + ", then text(" + i + ")", x.text(i), model.text(i));
                }
                Check.same(what + ", then acts", x.house(0), model.house(0));
                Check.same(what + ", then refusals", x.house(1), model.house(1));
                calls += 10;
            }
        }
        Check.same("run " + run + ": digest at the end", x.digest(), model.digest());
    }

    /** Cells with KINDS that mere drawing seldom makes. */
    private static int fill(Quarterpowers x, Model model) {
        for (int i = 0; i < 8; i++) {
            int q = draw(4) == 0 ? draw(12) : -draw(34);
            int how = 1 + draw(3);
            x.quarter(i, q);
            model.quarter(i, q);
            bring(x, model, i, how);
            bring(x, model, i, 2 + draw(2));
        }
        return 24;
    }

    private static void bring(Quarterpowers x, Model model, int cell, int how) {
        if (how == 1) {
            Check.same("power", x.power(cell, cell), model.power(cell, cell));
        } else if (how == 2) {
            Check.same("lessen", x.lessen(cell, cell), model.lessen(cell, cell));
        } else {
            Check.same("log", x.log(cell, cell), model.log(cell, cell));
        }
    }

    /** Most are small, as cells are; the others are the ends that the document names, or anything. */
    private static Object[] arguments(Method method) {
        Object[] values = new Object[method.getParameterCount()];
        for (int i = 0; i < values.length; i++) {
            if (method.getParameterTypes()[i] == boolean.class) {
                values[i] = draw(2) == 0;
            } else {
                values[i] = argument(method.getName(), i);
            }
        }
        return values;
    }

    private static int argument(String name, int at) {
        List<String> free = Arrays.asList("answer", "below", "rises", "row", "between", "lies", "undone",
                "comesBack", "comesForth", "opposite");
        boolean isNumber = free.contains(name) ? at > 0 || free.indexOf(name) > 2
                : at == 1 && Arrays.asList("quarter", "step", "whole").contains(name);
        if (isNumber) {
            int drawn = draw(8);
            if (drawn == 0) {
                return ENDS[draw(ENDS.length)];
            }
            return drawn < 4 ? draw(41) - 36 : draw(331) - 165;
        }
        boolean isHow = free.contains(name) || Arrays.asList("house", "all").contains(name) || name.equals("before") && at == 0;
        int bound = isHow ? 6 : 8;
        return draw(40) == 0 ? ENDS[draw(ENDS.length)] : isHow ? draw(bound) - (draw(8) == 0 ? 1 : 0)
                : draw(60) == 0 ? 8 : draw(bound);
    }

    private static void compare(String what, Method method, Quarterpowers x, Model model, Object[] values)
            throws NoSuchMethodException {
        Method due = Model.class.getDeclaredMethod(method.getName(), method.getParameterTypes());
        due.setAccessible(true);
        Check.same(what, Check.told(method, x, values), Check.told(due, model, values));
    }
}
