/** Boundary cases of promises 29 to 31: keep, back, count. */
public final class EdgesOfKeptTest {
    private static final Check CHECK = new Check("EdgesOfKeptTest");
    private static final Edges EDGES = new Edges(CHECK);
    private static final String FIRST = Edges.FIRST;
    private static final String ALL_WAIT = "c0,0,30,60;".repeat(8) + "s1,20;";

    public static void main(String[] args) {
        keep();
        back();
        backGivesAllBack();
        backLeaves();
        backAndUndo();
        countIsBad();
        countAtFirst();
        countLeast();
        countMost();
        countOfStates();
        CHECK.end();
    }

    private static void keep() {
        EDGES.edge("29: one", FIRST, "keep = 1", "count 11 = 1");
        EDGES.edge("29: 2 at most", FIRST, "keep = 1", "keep = 2", "keep = FULL", "count 11 = 2");
        EDGES.edge("29: FULL again and again", FIRST, "2 x keep", "5 x keep = FULL", "count 11 = 2", "back = 1", "back = 0");
        EDGES.edge("29: FULL does not put another in its place", FIRST, "pass 1", "keep = 1", "pass 1", "keep = 2", "pass 1",
            "keep = FULL", "back = 1", "count 1 = 2", "back = 0", "count 1 = 1");
        EDGES.edge("29: room again", FIRST, "2 x keep", "back = 1", "keep = 2", "keep = FULL");
        EDGES.edge("29: nothing else changes", FIRST, "pass 3", "keep = 1", "count 1 = 3", "count 10 = 1", "undo = 0", "count 1 = 0",
            "count 11 = 1");
        EDGES.edge("29: in the last MINUTE", FIRST, "24 x pass 40", "pass 39 = 999", "keep = 1", "undo = 7", "back = 0", "count 1 = 999",
            "pass 1 = NO");
    }

    private static void back() {
        EDGES.edge("30: NO: nothing is KEPT", FIRST, "back = NO", "count 11 = 0");
        EDGES.edge("30: NO: it is KEPT no more", FIRST, "keep = 1", "back = 0", "back = NO", "count 11 = 0");
        EDGES.edge("30: the last one first", FIRST, "pass 1", "keep = 1", "pass 2", "keep = 2", "pass 4", "count 1 = 7", "back = 1",
            "count 1 = 3", "back = 0", "count 1 = 1", "back = NO", "count 1 = 1");
        EDGES.edge("30: of two that are the same", FIRST, "pass 3", "2 x keep", "pass 1", "back = 1", "count 1 = 3", "pass 1",
            "back = 0", "count 1 = 3");
        EDGES.edge("30: KEPT and back again and again", FIRST, "keep = 1", "pass 1", "keep = 2", "pass 1", "back = 1", "keep = 2",
            "pass 1", "back = 1", "count 1 = 1", "pass 5", "keep = 2", "pass 1", "back = 1", "count 1 = 6", "back = 0", "count 1 = 0",
            "pass 2", "keep = 1", "pass 1", "keep = 2", "pass 1", "back = 1", "count 1 = 3", "back = 0", "count 1 = 2", "back = NO");
        EDGES.edge("30: NO changes nothing", FIRST, "pass 3", "back = NO", "count 1 = 3", "count 10 = 1");
        EDGES.edge("30: nothing has become another", FIRST, "keep = 1", "back = 0", "count 1 = 0", "count 10 = 0", "undo = NO");
        EDGES.edge("30: not KEPT, when another TEXT is LAID", FIRST, "2 x keep", "text c0,0,1,0;", "lay = 1", "back = NO", "keep = 1");
    }

    private static void backGivesAllBack() {
        EDGES.edge("30: the MINUTE", FIRST, "pass 5", "keep = 1", "pass 40", "back = 0", "count 1 = 5");
        EDGES.edge("30: how CALLERS stand", "c0,0,9,0;c0,0,9,0;c0,0,2,0;c0,9,9,0;s1,1;", "pass 2", "stand 3 2 4 0", "keep = 1",
            "pass 40", "stand 3 3 4 3", "back = 0", "stand 3 2 4 0");
        EDGES.edge("30: what one WAITED", "c0,0,9,0;c0,0,9,0;s1,20;", "pass 2", "keep = 1", "pass 3", "caller 1 5 = 5", "back = 0",
            "caller 1 5 = 2");
        EDGES.edge("30: when one was taken", "c0,0,9,0;s1,3;", "pass 1", "keep = 1", "pass 9", "back = 0", "stand 2", "pass 2",
            "stand 2", "pass 1", "stand 3");
        EDGES.edge("30: who came first", "c0,0,9,0;c0,0,9,0;c0,0,9,0;s1,20;", "pass 1", "keep = 1", "hang 1", "recall 1", "pass 1",
            "number 1 = 1", "back = 0", "number 1 = 0", "number 2 = 1");
        EDGES.edge("30: who calls again", "c0,0,9,0;s1,1;", "pass 2", "recall 0 = 1", "keep = 1", "pass 9", "stand 3", "back = 0",
            "stand 0", "pass 1", "stand 2");
        EDGES.edge("30: who does not call again", "c0,0,9,0;s1,1;", "pass 2", "keep = 1", "recall 0 = 1", "back = 0", "stand 3",
            "pass 1", "stand 3");
        EDGES.edge("30: how many SERVE", FIRST, "staff 1 = 2", "keep = 1", "staff 1 = 3", "back = 0", "count 6 = 2");
        EDGES.edge("30: the RULE", FIRST, "rule 2 = 0", "keep = 1", "rule 1 = 2", "back = 0", "count 8 = 2");
    }

    private static void backLeaves() {
        EDGES.edge("30: what is SEEN stays", FIRST, "seen 0 1 1", "keep = 1", "seen 0 2 1", "back = 0", "count 9 = 2");
        EDGES.edge("30: what is forgotten stays so", FIRST, "seen 0 1 1", "keep = 1", "forget = 1", "back = 0", "count 9 = 0");
        EDGES.edge("30: THE TEXT stays", FIRST, "text ab", "keep = 1", "text c", "back = 0", "count 12 = 3", "wipe = 3");
        EDGES.edge("30: a wiped TEXT stays so", FIRST, "text ab", "keep = 1", "wipe = 2", "back = 0", "count 12 = 0");
    }

    private static void backAndUndo() {
        EDGES.edge("30: nothing is UNDONE then", FIRST, "pass 1", "keep = 1", "pass 1", "back = 0", "count 10 = 0", "undo = NO",
            "count 1 = 1");
        EDGES.edge("30: of 8 nothing is UNDONE then", FIRST, "keep = 1", "8 x pass 1", "count 10 = 8", "back = 0", "count 10 = 0",
            "undo = NO");
        EDGES.edge("30: all behind it can be UNDONE", FIRST, "pass 1", "keep = 1", "back = 0", "pass 2", "pass 3", "undo = 1",
            "undo = 0", "count 1 = 1", "undo = NO");
        EDGES.edge("30: 8 behind it can be UNDONE", FIRST, "5 x pass 1", "keep = 1", "back = 0", "9 x pass 1", "count 10 = 8", "8 x undo",
            "count 1 = 6", "undo = NO");
        EDGES.edge("30: it is not UNDONE itself", FIRST, "keep = 1", "pass 1", "back = 0", "undo = NO", "back = NO");
        EDGES.edge("30: KEPT is not UNDONE", FIRST, "pass 1", "keep = 1", "undo = 0", "back = 0", "count 1 = 1");
    }

    private static void countIsBad() {
        EDGES.edge("31: too small", FIRST, "count {MIN,-4,-1} = BAD");
        EDGES.edge("31: too large", FIRST, "count {13,14,100,MAX} = BAD");
    }

    private static void countAtFirst() {
        String[] counts = {"7", "0", "0", "0", "0", "0", "1", "4", "0", "0", "0", "0", "0"};
        for (int what = 0; what < counts.length; what++) {
            EDGES.edge("31: at first", FIRST, "count " + what + " = " + counts[what]);
        }
    }

    private static void countLeast() {
        EDGES.edge("31: the fewest CALLERS", "c0,0,1,0;", "count 0 = 1");
        EDGES.edge("31: the fewest SERVE", "c0,0,1,0;s1,1;", "count 6 = 1", "count 7 = 1");
        EDGES.edge("31: without s", "c0,0,1,0;", "count 6 = 1", "count 7 = 5");
        EDGES.edge("31: the RULE without", "c0,0,1,0;", "count 8 = 0");
    }

    private static void countMost() {
        EDGES.edge("31: 0: 8 CALLERS", ALL_WAIT, "count 0 = 8");
        EDGES.edge("31: 1: MINUTE 999", FIRST, "24 x pass 40", "pass 39", "count 1 = 999");
        EDGES.edge("31: 2: 7 WAIT", ALL_WAIT, "pass 1", "count 2 = 7", "count 3 = 1");
        EDGES.edge("31: 3: 4 are SERVED", ALL_WAIT, "3 x staff 1", "pass 1", "count 3 = 4", "count 2 = 4");
        EDGES.edge("31: 4: 8 are THROUGH", "c0,0,30,0;".repeat(8) + "s4,1;", "pass 2", "count 4 = 4", "pass 1", "count 4 = 8");
        EDGES.edge("31: 5: 7 GAVE UP", "c0,0,1,0;".repeat(8) + "s1,20;", "pass 1", "count 5 = 7");
        EDGES.edge("31: 6: 4 SERVE", "c0,0,1,0;s4,20;", "count 6 = 4");
        EDGES.edge("31: 7: M 20", "c0,0,1,0;s4,20;", "count 7 = 20");
        EDGES.edge("31: 8: RULE 2", "c0,0,1,0;r2;", "count 8 = 2");
        EDGES.edge("31: 9: 6 are SEEN", FIRST, "7 x seen 0 1 1", "count 9 = 6");
        EDGES.edge("31: 10: 8 can be UNDONE", FIRST, "9 x pass 1", "count 10 = 8");
        EDGES.edge("31: 11: 2 are KEPT", FIRST, "3 x keep", "count 11 = 2");
        EDGES.edge("31: 12: 200 letters", FIRST, "201 x write 32", "count 12 = 200");
    }

    private static void countOfStates() {
        String all = "c0,0,9,0;c0,0,9,0;c0,0,9,0;c0,0,1,0;c0,40,1,0;s2,3;";
        EDGES.edge("31: who is IDLE is none of these", all, "count {2,3,4,5} = 0");
        EDGES.edge("31: behind a MINUTE", all, "pass 1", "stand 2 2 1 4 0", "count 2 = 1", "count 3 = 2", "count 4 = 0", "count 5 = 1");
        EDGES.edge("31: behind four", all, "pass 4", "stand 3 3 2 4 0", "count 2 = 0", "count 3 = 1", "count 4 = 2", "count 5 = 1");
        EDGES.edge("31: who calls again is none of these", all, "pass 4", "recall 0", "recall 3", "count 4 = 1", "count 5 = 0");
        EDGES.edge("31: who HUNG UP", all, "pass 1", "hang 2", "count 2 = 0", "count 5 = 2");
        EDGES.edge("31: SERVE and M are not the same", "c0,0,1,0;s3,2;", "count 6 = 3", "count 7 = 2", "staff 1", "count 6 = 4",
            "count 7 = 2");
        EDGES.edge("31: of those that are LAID", ALL_WAIT, "pass 1", "wipe", "text c0,0,1,0;", "lay = 1", "pass 1", "count 2 = 0",
            "count 3 = 1", "count 5 = 0");
    }
}
