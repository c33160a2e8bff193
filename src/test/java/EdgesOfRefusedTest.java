import java.util.ArrayList;
import java.util.List;

/**
 * BAD, NO, FULL, NONE: nothing changes then; nor does anything by a question. Two new objects are brought to stand in
 * the same way, one of them is asked in vain: whatever can be asked, undone and taken back then is the same of both.
 */
public final class EdgesOfRefusedTest {
    private static final Check CHECK = new Check("EdgesOfRefusedTest");
    private static final String EIGHT = "c0,0,9,1;c1,0,2,5;c2,0,3,9;c3,0,6,0;c0,1,9,60;c3,2,8,7;c0,3,4,5;c0,40,1,1;s3,9;r1;";

    private static final String[] NEW = {};
    private static final String[] BUSY = {"pass 3", "staff 1", "rule 2", "hang 4", "recall 4", "seen 1 5 1", "keep", "pass 1",
        "text c0,0,1,0;x"};
    private static final String[] CROWDED = {"pass 5", "staff 1", "rule 0", "pass 1", "keep", "hang 3", "pass 1", "recall 1",
        "rule 2", "keep", "rule 1", "seen 0 1 0", "seen 1 9 1", "seen 2 9 1", "seen 3 9 0", "seen 4 40 0", "seen 7 40 1", "pass 1"};
    private static final String[] LAST = {"24 x pass 40", "pass 37", "recall 0", "recall 1", "pass 2", "keep"};
    private static final String[] WRITTEN = {"pass 1", "200 x write 114"};

    private static final String[] STANDING = {"pass 3"};

    private static final String[] QUESTIONS = {"fault", "caller 1 6", "caller 2 6", "caller 4 3", "behind 0 0", "behind 60 6",
        "taken 1", "taken 4", "left 1", "left 4", "number 1", "number 4", "again 1 0", "again 1 1", "best 0", "best 1", "needed",
        "lost", "helps 0", "helps 1", "longest 0", "longest 1", "bears 1 0", "bears 1 1", "kinds 1", "likely 1 5 0", "likely 2 5 1",
        "likely 1 10 1", "day 0 1 0", "day 0 30 1", "day 9999 60 2", "day 3 60 1", "count 0", "count 4", "count 7", "count 12"};

    private static int asked;

    public static void main(String[] args) {
        refusedWhenNew();
        refusedWhenBusy();
        refusedWhenCrowded();
        refusedInTheLastMinute();
        refusedWhenWritten();
        badEverywhere();
        questions();
        questionsBehindATextThatWasRead();
        CHECK.due("calls that change nothing", asked > 400 ? 1 : 0, 1);
        CHECK.end();
    }

    /** The call has this answer, and nothing changes by it. */
    private static void vain(String text, String[] rows, String call) {
        asked++;
        Script one = stood(text, rows, call);
        Script other = stood(text, rows, call);
        one.perform(call);
        List<String> told = new ArrayList<>();
        int[] first = readOut(one, told);
        int[] second = readOut(other, new ArrayList<>());
        CHECK.due(call + ": as many answers then", first.length, second.length);
        for (int i = 0; i < Math.min(first.length, second.length); i++) {
            CHECK.due(call + ": nothing changes: " + told.get(i), first[i], second[i]);
        }
    }

    private static Script stood(String text, String[] rows, String call) {
        Script script = new Script(CHECK, "ahead of " + call);
        if (text != Edges.FIRST) {
            script.lay(text);
        }
        for (String row : rows) {
            script.perform(row);
        }
        return script;
    }

    private static int[] readOut(Script script, List<String> told) {
        List<Integer> answers = new ArrayList<>();
        for (int what = 0; what < 13; what++) {
            ask(script, "count " + what, told, answers);
        }
        int callers = script.ask("count 0");
        for (int c = 0; c < callers; c++) {
            for (int what = 0; what < 7; what++) {
                ask(script, "caller " + c + " " + what, told, answers);
            }
            ask(script, "taken " + c, told, answers);
            ask(script, "left " + c, told, answers);
            ask(script, "kinds " + c, told, answers);
        }
        ask(script, "fault", told, answers);
        ask(script, "wipe", told, answers);
        ask(script, "forget", told, answers);
        while (ask(script, "undo", told, answers) >= 0) {
            standing(script, callers, told, answers);
        }
        while (ask(script, "back", told, answers) >= 0) {
            standing(script, callers, told, answers);
        }
        int[] all = new int[answers.size()];
        for (int i = 0; i < all.length; i++) {
            all[i] = answers.get(i);
        }
        return all;
    }

    private static void standing(Script script, int callers, List<String> told, List<Integer> answers) {
        ask(script, "count 1", told, answers);
        ask(script, "count 6", told, answers);
        ask(script, "count 8", told, answers);
        for (int c = 0; c < callers; c++) {
            ask(script, "caller " + c + " 4", told, answers);
            ask(script, "caller " + c + " 5", told, answers);
        }
    }

    private static int ask(Script script, String call, List<String> told, List<Integer> answers) {
        int answer = script.ask(call);
        told.add(call);
        answers.add(answer);
        return answer;
    }

    private static void refusedWhenNew() {
        String[] calls = {"lay = NO", "hang 0 = NO", "hang 6 = NO", "recall 0 = NO", "recall 6 = NO", "staff 0 = NO", "rule 0 = NO",
            "undo = NO", "number 0 = NO", "again 0 0 = NO", "again 6 1 = NO", "helps 0 = NONE", "helps 1 = NONE", "back = NO",
            "fault = NONE", "caller 0 6 = NONE", "taken 2 = NONE"};
        for (String call : calls) {
            vain(Edges.FIRST, NEW, call);
        }
    }

    private static void refusedWhenBusy() {
        String[] calls = {"lay = NO", "fault = 9", "rule 2 = NO", "hang 0 = NO", "hang 5 = NO", "recall 0 = NO", "recall 1 = NO",
            "number 0 = NO", "number 5 = NO", "again 0 0 = NO", "again 5 1 = NO", "pass 0 = BAD", "pass 41 = BAD", "caller 0 6 = NONE"};
        for (String call : calls) {
            vain(Edges.FIRST, BUSY, call);
        }
    }

    private static void refusedWhenCrowded() {
        String[] calls = {"seen 0 1 1 = FULL", "keep = FULL", "staff 1 = NO", "rule 1 = NO", "hang 3 = NO",
            "seen 0 41 1 = BAD", "seen 8 1 1 = BAD", "seen 0 1 2 = BAD", "hang 7 = NO", "recall 7 = NO", "again 7 0 = NO"};
        for (String call : calls) {
            vain(EIGHT, CROWDED, call);
        }
    }

    private static void refusedInTheLastMinute() {
        String[] calls = {"pass 1 = NO", "pass 2 = NO", "pass 40 = NO", "pass 41 = BAD", "pass 0 = BAD", "staff 0 = NO", "hang 0 = NO",
            "recall 0 = NO", "lay = NO"};
        for (String call : calls) {
            vain(Edges.FIRST, LAST, call);
        }
    }

    private static void refusedWhenWritten() {
        String[] calls = {"write 32 = FULL", "write 59 = FULL", "write 126 = FULL", "write 31 = BAD", "write 127 = BAD", "fault = 0",
            "lay = NO"};
        for (String call : calls) {
            vain(Edges.FIRST, WRITTEN, call);
        }
    }

    /** What number each call takes, from the least to the most; C: callers such as there are, here seven. */
    private static void badEverywhere() {
        String[] calls = {"write 32..126", "caller C 0..6", "pass 1..40", "hang C", "recall C", "staff 0..1", "rule 0..2",
            "behind 0..60 C", "taken C", "left C", "number C", "again C 0..1", "best 0..1", "helps 0..1", "longest 0..1",
            "seen C 1..40 0..1", "bears C 0..1", "kinds C", "likely C 0..10 0..1", "day 0..9999 1..60 0..2", "count 0..12"};
        for (String call : calls) {
            String[] words = call.replace("C", "0..6").split(" ");
            for (int at = 1; at < words.length; at++) {
                int least = Integer.parseInt(words[at].substring(0, words[at].indexOf('.')));
                int most = Integer.parseInt(words[at].substring(words[at].lastIndexOf('.') + 1));
                for (int bad : new int[] {Integer.MIN_VALUE, least - 1, most + 1, Integer.MAX_VALUE}) {
                    vain(Edges.FIRST, NEW, badAt(words, at, bad));
                    vain(Edges.FIRST, BUSY, badAt(words, at, bad));
                }
            }
        }
    }

    private static String badAt(String[] words, int at, int bad) {
        StringBuilder call = new StringBuilder(words[0]);
        for (int i = 1; i < words.length; i++) {
            call.append(' ').append(i == at ? "" + bad : words[i].substring(0, words[i].indexOf('.')));
        }
        return call.append(" = BAD").toString();
    }

    private static void questions() {
        for (String call : QUESTIONS) {
            vain(Edges.FIRST, NEW, call);
            vain(Edges.FIRST, BUSY, call);
            vain(EIGHT, CROWDED, call);
            vain(Edges.FIRST, LAST, call);
        }
    }

    /** By its FAULT a TEXT is not LAID: what is asked behind it is answered for the CALLERS of before. */
    private static void questionsBehindATextThatWasRead() {
        String[] texts = {"c2,9,1,60;", "c3,0,1,9;c3,1,1,9;c3,2,1,9;s4,1;r1;x"};
        for (String text : texts) {
            for (String call : QUESTIONS) {
                answersAlike(Edges.FIRST, STANDING, text, call);
                answersAlike(EIGHT, CROWDED, text, call);
            }
        }
    }

    private static void answersAlike(String laid, String[] rows, String text, String call) {
        Script one = stood(laid, rows, call);
        Script other = stood(laid, rows, call);
        for (Script script : List.of(one, other)) {
            script.ask("wipe");
            script.perform("text " + text);
        }
        one.ask("fault");
        CHECK.due(call + " behind FAULT of " + text, one.ask(call), other.ask(call));
    }
}
