import java.util.ArrayList;
import java.util.List;

/** Boundary cases of the document: each makes its own calls on a new object, each answer is compared with the due one. */
final class Edges {
    /** The callers that a new object has. */
    static final String FIRST = null;

    private final Check check;

    Edges(Check check) {
        this.check = check;
    }

    /**
     * The rows (as Script tells) are performed on a new object, where text is laid first. A row with {1,2,3} in it
     * stands for several: all rows are performed once for each of the numbers, each time on a new object.
     */
    void edge(String sentence, String text, String... rows) {
        for (String[] run : spread(rows)) {
            Script script = new Script(check, sentence);
            if (text != FIRST) {
                script.lay(text);
            }
            for (String row : run) {
                script.perform(row);
            }
        }
    }

    private static List<String[]> spread(String[] rows) {
        List<String[]> runs = new ArrayList<>();
        for (int i = 0; i < rows.length; i++) {
            int from = rows[i].indexOf('{');
            if (from >= 0) {
                int to = rows[i].indexOf('}');
                for (String number : rows[i].substring(from + 1, to).split(",")) {
                    String[] run = rows.clone();
                    run[i] = rows[i].substring(0, from) + number + rows[i].substring(to + 1);
                    runs.addAll(spread(run));
                }
                return runs;
            }
        }
        runs.add(rows);
        return runs;
    }
}
