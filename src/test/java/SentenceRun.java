import java.lang.reflect.Method;
import java.lang.reflect.Modifier;
import java.util.Arrays;
import java.util.HashMap;
import java.util.List;
import java.util.Map;

/**
 * A run of calls on a new object, a line each:
 *
 * <pre>
 * 3 has lessened -7        brings that NUMBER to cell 3; for what an act finds there
 * step(3, 1) = -9          a call and the answer that is due, or throws.IllegalStateException
 * copy(3, 4)               a call whose answer is free, but that it is no refusal and no exception
 * 511 times knock()        the last one's answer is looked at, if one is due
 * cells = quarter 4, zero  what the cells have by text(); those that are not named have zero
 * </pre>
 *
 * After each call it is looked at, by the digest, what section "Description" says of all calls: what
 * throws and what only asks changes nothing, what tells -9 changes nothing but that it is counted.
 */
final class SentenceRun {
    private static final List<String> ACTS = Arrays.asList("quarter", "zero", "endless", "row", "wipe", "copy",
            "swap", "step", "turn", "power", "lessen", "log", "all", "greater", "lesser", "end", "sort");
    private static final int CELLS = 8;
    private static final int MOST_CALLS = 512;
    /** How much the digest grows with one refusal more: four numbers come after that of house(1). */
    private static final long REFUSAL = 31L * 31 * 31 * 31;
    private static final Map<String, Method> FACE = face();

    private final String title;
    private final Quarterpowers x = new Quarterpowers();
    private int calls = 0;
    private int looked = 0;

    SentenceRun(String title) {
        this.title = title;
    }

    private static Map<String, Method> face() {
        Map<String, Method> face = new HashMap<>();
        for (Method method : Quarterpowers.class.getDeclaredMethods()) {
            if (Modifier.isPublic(method.getModifiers())) {
                face.put(method.getName(), method);
            }
        }
        return face;
    }

    void play(String line) {
        if (line.startsWith("cells = ")) {
            lookAtCells(line.substring("cells = ".length()));
        } else if (line.contains(" has ")) {
            bring(Integer.parseInt(line.substring(0, 1)), line.substring("0 has ".length()));
        } else if (line.contains(" times ")) {
            String[] parts = line.split(" times ");
            for (int i = 1; i < Integer.parseInt(parts[0]); i++) {
                told(parts[1].split(" = ")[0]);
            }
            playCall(parts[1], false);
        } else {
            playCall(line, true);
        }
    }

    void end() {
        Check.so(title + ": it looks at something", looked > 0);
        Check.so(title + ": no more than 512 calls, not " + calls, calls <= MOST_CALLS);
    }

    private void lookAtCells(String texts) {
        String[] due = new String[CELLS];
        Arrays.fill(due, "zero");
        String[] named = texts.split(", ");
        System.arraycopy(named, 0, due, 0, named.length);
        for (int i = 0; i < CELLS; i++) {
            look("text(" + i + ")", told("text(" + i + ")"), due[i]);
        }
    }

    private void playCall(String line, boolean isLookedRound) {
        String[] parts = line.split(" = ");
        long before = isLookedRound ? digest() : 0;
        Object told = told(parts[0]);
        if (isLookedRound) {
            lookRound(parts[0], told, before);
        }
        if (parts.length == 2) {
            look(parts[0], String.valueOf(told), parts[1]);
        } else {
            boolean isDone = !told.equals(-9) && !told.toString().startsWith("throws.");
            Check.so(title + ": " + parts[0] + " is done", isDone);
        }
    }

    private void lookRound(String call, Object told, long before) {
        String name = call.substring(0, call.indexOf('('));
        boolean isAct = ACTS.contains(name);
        if (told.toString().startsWith("throws.") || !isAct && !name.equals("knock")) {
            Check.same(title + ": the digest after " + call, digest(), before);
        } else if (isAct && told.equals(-9)) {
            Check.same(title + ": the digest after " + call, digest(), before + REFUSAL);
        }
    }

    private void look(String call, Object told, Object due) {
        looked++;
        Check.same(title + ": " + call, told, due);
    }

    private long digest() {
        calls++;
        return x.digest();
    }

    private Object told(String call) {
        calls++;
        int open = call.indexOf('(');
        Method method = FACE.get(call.substring(0, open));
        String inside = call.substring(open + 1, call.length() - 1);
        String[] parts = inside.isEmpty() ? new String[0] : inside.split(", ");
        Object[] values = new Object[parts.length];
        for (int i = 0; i < parts.length; i++) {
            boolean isSaid = parts[i].equals("true") || parts[i].equals("false");
            values[i] = isSaid ? (Object) Boolean.valueOf(parts[i]) : (Object) Integer.valueOf(parts[i]);
        }
        return Check.told(method, x, values);
    }

    private void bring(int cell, String text) {
        boolean isBelow = text.startsWith("-");
        calls += 4;
        if (text.endsWith("zero")) {
            x.zero(cell, isBelow);
        } else if (text.endsWith("endless")) {
            x.endless(cell, isBelow);
        } else {
            bringMade(cell, text.split(" ")[0], Integer.parseInt(text.split(" ")[1]));
        }
        Check.same(title + ": text(" + cell + ")", x.text(cell), text);
    }

    private void bringMade(int cell, String name, int q) {
        x.quarter(cell, q);
        if (name.equals("power")) {
            x.power(cell, cell);
        } else if (name.equals("lessened") || name.equals("back")) {
            x.lessen(cell, cell);
        } else if (name.equals("logged") || name.equals("forth")) {
            x.log(cell, cell);
        }
        if (name.equals("back")) {
            x.log(cell, cell);
        } else if (name.equals("forth")) {
            x.lessen(cell, cell);
        }
    }
}
