import java.util.ArrayList;
import java.util.List;

/**
 * Each sentence of the document that names a boundary case, by a run of its own on a new object. The
 * sentences and their runs stand in Sentences, SentenceRun tells how a run is written.
 */
public final class BoundariesTest {
    private static final int PROMISES = 50;
    private static final int SECTIONS = 4;

    public static void main(String[] args) {
        List<String> titles = new ArrayList<>();
        for (String part : Sentences.ALL) {
            for (String run : part.split("(?m)^# ")) {
                if (!run.isBlank()) {
                    titles.add(play(run));
                }
            }
        }
        noneIsLeftOut(titles);
        Check.end("BoundariesTest, " + titles.size() + " sentences");
    }

    /** The first line is the title: where the document says it, and what it says. */
    private static String play(String text) {
        String[] lines = text.strip().split("\n");
        SentenceRun run = new SentenceRun(lines[0]);
        for (int i = 1; i < lines.length; i++) {
            run.play(lines[i].strip());
        }
        run.end();
        return lines[0];
    }

    private static void noneIsLeftOut(List<String> titles) {
        has(titles, "Description: ");
        for (int i = 1; i <= SECTIONS; i++) {
            has(titles, "Section " + i + ": ");
        }
        for (int i = 1; i <= PROMISES; i++) {
            has(titles, "Promise " + i + ": ");
        }
    }

    private static void has(List<String> titles, String start) {
        boolean isThere = false;
        for (String title : titles) {
            isThere |= title.startsWith(start);
        }
        Check.so("there is a sentence of " + start, isThere);
    }
}
