/** Boundary cases of how a MINUTE goes by, and of promises 7 to 12: pass, hang, recall, staff, rule, undo. */
public final class EdgesOfActsTest {
    private static final Check CHECK = new Check("EdgesOfActsTest");
    private static final Edges EDGES = new Edges(CHECK);
    private static final String FIRST = Edges.FIRST;

    public static void main(String[] args) {
        pass();
        passToTheLast();
        whoComes();
        orderOfComing();
        whoIsThrough();
        whoIsTaken();
        nextByTheRule();
        plainGivesUp();
        toldGivesUp();
        cookingGivesUp();
        nervousGivesUp();
        orLonger();
        atOnce();
        hang();
        hangOfOthers();
        recall();
        recallOfOthers();
        whoCallsAgainComes();
        staff();
        fewerServe();
        rule();
        undo();
        undoOfEach();
        notUndone();
        CHECK.end();
    }

    private static void pass() {
        EDGES.edge("7: too small", FIRST, "pass {MIN,-40,-1,0} = BAD", "count 1 = 0", "count 10 = 0");
        EDGES.edge("7: too large", FIRST, "pass {41,100,999,1000,MAX} = BAD", "count 1 = 0", "count 10 = 0");
        EDGES.edge("7: the fewest", FIRST, "pass 1 = 1", "count 1 = 1");
        EDGES.edge("7: the most", FIRST, "pass 40 = 40", "count 1 = 40");
        EDGES.edge("7: one behind the other", FIRST, "pass 40 = 40", "pass 1 = 41", "pass 39 = 80");
        EDGES.edge("7: n at once are n one by one", "c0,0,9,0;c0,0,9,0;c0,0,4,0;s1,3;", "4 x pass 1", "stand 3 2 4",
            "caller 1 5 = 3", "undo = 3", "undo = 2", "undo = 1", "undo = 0", "pass 4 = 4", "stand 3 2 4", "caller 1 5 = 3");
    }

    private static void passToTheLast() {
        EDGES.edge("7: 999 at most", FIRST, "24 x pass 40", "pass 39 = 999", "count 1 = 999");
        EDGES.edge("7: 1000 would be above", FIRST, "24 x pass 40", "count 1 = 960", "pass 40 = NO", "count 1 = 960",
            "pass 39 = 999");
        EDGES.edge("7: none goes by behind 999", FIRST, "24 x pass 40", "pass 39 = 999", "pass {1,2,39,40} = NO", "count 1 = 999");
        EDGES.edge("7: one up to 999", FIRST, "24 x pass 40", "pass 38 = 998", "pass 2 = NO", "pass 1 = 999", "pass 1 = NO");
        EDGES.edge("7: BAD goes ahead of NO", FIRST, "24 x pass 40", "pass 39 = 999", "pass {MIN,-1,0,41,MAX} = BAD");
        EDGES.edge("7: what was refused cannot be UNDONE", FIRST, "24 x pass 40", "pass 39 = 999", "pass 1 = NO", "undo = 7",
            "count 1 = 960");
        EDGES.edge("7: refused, nobody comes", "c0,0,9,0;s1,1;", "24 x pass 40", "pass 39 = 999", "recall 0 = 1", "pass 1 = NO",
            "stand 0", "count 10 = 8");
    }

    private static void whoComes() {
        EDGES.edge("8: IDLE ahead of MINUTE 0", "c0,0,9,0;", "stand 0");
        EDGES.edge("7: comes in MINUTE 0", "c0,0,9,0;", "pass 1", "stand 2");
        EDGES.edge("7: does not come ahead of its MINUTE", "c0,1,9,0;", "pass 1", "stand 0", "pass 1", "stand 2");
        EDGES.edge("7: comes in MINUTE 40", "c0,40,9,0;", "pass 40 = 40", "stand 0", "pass 1 = 41", "stand 2");
        EDGES.edge("7: calls once only", "c0,0,1,0;c0,0,1,0;s1,1;", "pass 1", "stand 2 4", "pass 40", "stand 3 4");
        EDGES.edge("7: has WAITED 0 when it comes", "c0,0,9,0;", "pass 1", "caller 0 5 = 0");
        EDGES.edge("7: a MINUTE more when it is not taken", "c0,0,9,0;c0,0,9,0;", "pass 1", "caller 1 5 = 1", "pass 1",
            "caller 1 5 = 2");
        EDGES.edge("7: no MINUTE more when it is taken", "c0,0,9,0;c0,0,9,0;s1,2;", "pass 2", "caller 1 5 = 2", "pass 1",
            "caller 1 4 = 2", "caller 1 5 = 2");
    }

    private static void orderOfComing() {
        EDGES.edge("7: the lowest first", "c0,0,9,0;c0,0,9,0;c0,0,9,0;", "pass 1", "stand 2 1 1", "number 1 = 0", "number 2 = 1");
        EDGES.edge("7: the MINUTE first, the lowest then", "c0,1,9,0;c0,0,9,0;c0,0,9,0;s1,4;", "pass 2", "stand 1 2 1",
            "number 2 = 0", "number 0 = 1");
        EDGES.edge("7: who calls again behind who calls", "c0,0,1,0;c0,0,2,0;c0,5,9,0;s1,5;", "pass 5", "stand 2 4 0",
            "recall 1 = 0", "pass 1", "stand 3 1 2", "number 1 = 0");
        EDGES.edge("7: of who call again the lowest first", "c0,0,9,0;c0,0,2,0;c0,0,2,0;s1,20;", "pass 2", "recall 2 = 0",
            "recall 1 = 0", "pass 1", "number 1 = 0", "number 2 = 1");
        EDGES.edge("7: who calls again, by last come", "c0,0,1,0;c0,0,1,0;c0,0,1,0;s1,3;r1;", "pass 3", "stand 4 4 2",
            "recall 1 = 0", "recall 0 = 0", "pass 1", "stand 4 2 3");
        EDGES.edge("7: who came once comes behind all when it calls again", "c0,0,9,0;c0,0,9,0;c0,0,9,0;s1,20;", "pass 2",
            "hang 1 = 2", "recall 1 = 0", "pass 1", "number 2 = 0", "number 1 = 1");
    }

    private static void whoIsThrough() {
        EDGES.edge("7: M 1: not in its own MINUTE", "c0,0,9,0;s1,1;", "pass 1", "stand 2");
        EDGES.edge("7: M 1: a MINUTE ahead", "c0,0,9,0;s1,1;", "pass 2", "stand 3");
        EDGES.edge("7: M 20: 19 ahead", "c0,0,9,0;s1,20;", "pass 20", "stand 2");
        EDGES.edge("7: M 20: 20 ahead", "c0,0,9,0;s1,20;", "pass 21", "stand 3");
        EDGES.edge("7: M 5 without", "c0,0,9,0;", "pass 5", "stand 2", "pass 1", "stand 3");
        EDGES.edge("7: M 4 at first", FIRST, "pass 4", "caller 0 4 = 2", "pass 1", "caller 0 4 = 3");
        EDGES.edge("7: by when it was taken, not by when it came", "c0,0,9,0;c0,0,9,0;s1,3;", "pass 4", "stand 3 2", "pass 2",
            "stand 3 2", "pass 1", "stand 3 3");
        EDGES.edge("7: THROUGH makes room in the same MINUTE", "c0,0,9,0;c0,0,9,0;s1,1;", "pass 1", "stand 2 1", "pass 1",
            "stand 3 2", "pass 1", "stand 3 3");
        EDGES.edge("7: THROUGH makes room for one who comes just then", "c0,0,9,0;c0,2,1,0;s1,2;", "pass 2", "stand 2 0",
            "pass 1", "stand 3 2", "caller 1 5 = 0");
        EDGES.edge("7: two are THROUGH in one MINUTE", "c0,0,9,0;c0,0,9,0;c0,0,9,0;c0,0,9,0;s2,2;", "pass 2", "stand 2 2 1 1",
            "pass 1", "stand 3 3 2 2");
    }

    private static void whoIsTaken() {
        String six = "c0,0,9,0;".repeat(6);
        EDGES.edge("7: one SERVES", six + "s1,9;", "pass 1", "stand 2 1 1 1 1 1");
        EDGES.edge("7: four SERVE", six + "s4,9;", "pass 1", "stand 2 2 2 2 1 1");
        EDGES.edge("7: more SERVE than WAIT", "c0,0,9,0;c0,1,9,0;s4,9;", "pass 1", "stand 2 0", "pass 1", "stand 2 2");
        EDGES.edge("7: nobody WAITS", "c0,1,9,0;s4,9;", "pass 1", "stand 0", "count 3 = 0");
        EDGES.edge("7: no more than SERVE, over MINUTES", six + "s2,9;", "pass 1", "stand 2 2 1 1 1 1", "pass 7",
            "stand 2 2 1 1 1 1", "count 3 = 2");
        EDGES.edge("7: taken in the last MINUTE that it bears", "c0,0,9,0;c0,0,4,0;s1,3;", "pass 3", "stand 2 1", "pass 1",
            "stand 3 2", "caller 1 5 = 3");
        EDGES.edge("7: gave up in the MINUTE ahead", "c0,0,9,0;c0,0,3,0;s1,3;", "pass 3", "stand 2 4", "pass 1", "stand 3 4");
    }

    private static void nextByTheRule() {
        EDGES.edge("7: first come", "c0,0,9,0;c0,2,9,60;c0,1,9,0;s1,3;r0;", "pass 4", "stand 3 1 2");
        EDGES.edge("7: last come", "c0,0,9,0;c0,2,9,0;c0,1,9,60;s1,3;r1;", "pass 4", "stand 3 2 1");
        EDGES.edge("7: last come, of one MINUTE", "c0,0,9,0;c0,0,9,0;s1,3;r1;", "pass 1", "stand 1 2");
        EDGES.edge("7: most WORTH, 60 and 59", "c0,0,9,59;c0,0,9,60;r2;", "pass 1", "stand 1 2");
        EDGES.edge("7: most WORTH, 1 and 0", "c0,0,9,0;c0,0,9,1;r2;", "pass 1", "stand 1 2");
        EDGES.edge("7: most WORTH though it came last", "c0,0,9,0;c0,0,9,5;c0,2,9,6;s1,3;r2;", "pass 1", "stand 1 2 0", "pass 3",
            "stand 1 3 2");
        EDGES.edge("7: of several the one who came first", "c0,1,9,5;c0,0,9,9;c0,0,9,5;s1,2;r2;", "pass 3", "stand 1 3 2");
        EDGES.edge("7: of several of one MINUTE the lowest", "c0,0,9,0;c0,0,9,0;c0,0,9,0;s2,9;r2;", "pass 1", "stand 2 2 1");
    }

    private static void plainGivesUp() {
        EDGES.edge("7: PLAIN bears 1", "c0,0,9,0;c0,0,1,0;", "pass 1", "stand 2 4", "caller 1 5 = 1");
        EDGES.edge("7: PLAIN bears 2", "c0,0,9,0;c0,0,2,0;", "pass 1", "stand 2 1", "pass 1", "stand 2 4", "caller 1 5 = 2");
        EDGES.edge("7: PLAIN bears 30", "c0,0,9,0;c0,0,30,0;c0,0,30,0;s1,20;", "pass 29", "stand 3 2 1", "caller 2 5 = 29",
            "pass 1", "stand 3 2 4", "caller 2 5 = 30");
        EDGES.edge("7: PLAIN, whoever is AHEAD", "c0,0,9,0;c0,0,9,0;c0,0,9,0;c0,0,3,0;", "pass 2", "stand 2 1 1 1", "pass 1",
            "stand 2 1 1 4");
    }

    private static void toldGivesUp() {
        EDGES.edge("7: TOLD, none AHEAD: any time", "c0,0,9,0;c1,0,1,0;s1,20;", "pass 20", "stand 2 1", "caller 1 5 = 20", "pass 1",
            "stand 3 2");
        EDGES.edge("7: TOLD, one AHEAD: any time", "c0,0,9,0;c0,0,30,0;c1,0,1,0;s1,20;", "pass 20", "stand 2 1 1",
            "number 2 = 1", "caller 2 5 = 20");
        EDGES.edge("7: TOLD, two AHEAD: P", "c0,0,9,0;c0,0,30,0;c0,0,30,0;c1,0,3,0;s1,20;", "pass 2", "stand 2 1 1 1", "pass 1",
            "stand 2 1 1 4", "caller 3 5 = 3");
        EDGES.edge("7: TOLD, two AHEAD, till one of them is taken", "c0,0,9,0;c0,0,30,0;c0,0,30,0;c1,0,6,0;s1,5;", "pass 5",
            "stand 2 1 1 1", "pass 9", "caller 3 4 = 1", "caller 3 5 = 14");
        EDGES.edge("7: TOLD, two AHEAD, in the MINUTE in which one is taken", "c0,0,9,0;c0,0,30,0;c0,0,30,0;c1,0,5,0;s1,5;",
            "pass 4", "stand 2 1 1 1", "pass 1", "stand 2 1 1 4");
        EDGES.edge("7: TOLD, six AHEAD: P", "c0,0,9,0;" + "c0,0,30,0;".repeat(6) + "c1,0,1,0;", "pass 1", "stand 2 1 1 1 1 1 1 4");
    }

    private static void cookingGivesUp() {
        EDGES.edge("7: COOKING bears twice 1", "c0,0,9,0;c2,0,1,0;", "pass 1", "stand 2 1", "pass 1", "stand 2 4", "caller 1 5 = 2");
        EDGES.edge("7: COOKING bears twice 2", "c0,0,9,0;c2,0,2,0;", "pass 3", "stand 2 1", "pass 1", "stand 2 4");
        EDGES.edge("7: COOKING bears twice 30", "c0,0,9,9;c2,0,30,0;c0,10,30,9;c0,30,30,9;s1,20;r2;", "pass 40", "pass 19",
            "stand 3 1 3 2", "pass 1", "stand 3 4 3 2");
        EDGES.edge("7: COOKING, taken in the last MINUTE that it bears", "c0,0,9,0;c2,0,2,0;s1,3;", "pass 3", "stand 2 1",
            "pass 1", "stand 3 2");
    }

    private static void nervousGivesUp() {
        EDGES.edge("7: NERVOUS, none AHEAD: P", "c0,0,9,0;c3,0,3,0;", "pass 2", "stand 2 1", "pass 1", "stand 2 4");
        EDGES.edge("7: NERVOUS, one AHEAD: P less 1", "c0,0,9,0;c0,0,9,0;c3,0,3,0;", "pass 1", "stand 2 1 1", "pass 1",
            "stand 2 1 4");
        EDGES.edge("7: NERVOUS, P less 1 is 1", "c0,0,9,0;c0,0,9,0;c3,0,2,0;", "pass 1", "stand 2 1 4");
        EDGES.edge("7: NERVOUS, P less 1 is 0: 1", "c0,0,9,0;c0,0,9,0;c3,0,1,0;", "pass 1", "stand 2 1 4", "caller 2 5 = 1");
        EDGES.edge("7: NERVOUS, P less 6 is below 0: 1", "c0,0,9,0;" + "c0,0,9,0;".repeat(6) + "c3,0,1,0;", "pass 1",
            "caller 7 4 = 4", "caller 7 5 = 1");
        EDGES.edge("7: NERVOUS, 1 at least: taken at once it is not lost", "c3,0,1,0;", "pass 1", "stand 2");
        EDGES.edge("7: NERVOUS, fewer AHEAD: it bears more", "c0,0,9,0;c0,0,2,0;c3,0,4,0;", "pass 2", "stand 2 4 1", "pass 1",
            "stand 2 4 1", "pass 1", "stand 2 4 4", "caller 2 5 = 4");
    }

    private static void orLonger() {
        EDGES.edge("7: NERVOUS, it has WAITED just as long as it bears then", "c3,0,6,0;c0,0,9,0;c0,3,9,0;c0,3,9,0;s1,20;r1;",
            "pass 3", "stand 1 2 0 0", "pass 1", "stand 4 2 1 1", "caller 0 5 = 4");
        EDGES.edge("7: NERVOUS, it has WAITED longer than it bears then",
            "c3,0,6,0;c0,0,9,0;c0,3,9,0;c0,3,9,0;c0,3,9,0;s1,20;r1;", "pass 3", "stand 1 2 0 0 0", "pass 1", "stand 4 2 1 1 1",
            "caller 0 5 = 4");
        EDGES.edge("7: NERVOUS, it has not WAITED as long", "c3,0,6,0;c0,0,9,0;c0,3,9,0;s1,20;r1;", "pass 4", "stand 1 2 1",
            "pass 1", "stand 4 2 1", "caller 0 5 = 5");
        EDGES.edge("7: TOLD, it has WAITED longer than it bears then", "c1,0,2,0;c0,0,9,0;c0,5,9,0;c0,5,9,0;s1,20;r1;", "pass 5",
            "stand 1 2 0 0", "pass 1", "stand 4 2 1 1", "caller 0 5 = 6");
        EDGES.edge("7: TOLD, one comes AHEAD only", "c1,0,2,0;c0,0,9,0;c0,5,9,0;s1,20;r1;", "pass 9", "stand 1 2 1");
        EDGES.edge("7: another RULE, it has WAITED longer", "c0,0,9,0;c1,0,2,0;c0,0,9,0;c0,0,9,0;s1,20;", "pass 5", "stand 2 1 1 1",
            "rule 1 = 0", "stand 2 1 1 1", "pass 1", "stand 2 4 1 1");
    }

    private static void atOnce() {
        EDGES.edge("7: two who give up are AHEAD of a TOLD one yet", "c0,0,9,0;c0,0,3,0;c0,0,3,0;c1,0,3,0;s1,20;", "pass 2",
            "stand 2 1 1 1", "pass 1", "stand 2 4 4 4");
        EDGES.edge("7: who gave up a MINUTE ago is not AHEAD", "c0,0,9,0;c0,0,2,0;c0,0,3,0;c1,0,3,0;s1,20;", "pass 3",
            "stand 2 4 4 1");
        EDGES.edge("7: one who gives up is AHEAD of a NERVOUS one yet", "c0,0,9,0;c0,0,2,0;c3,0,3,0;s1,20;", "pass 2",
            "stand 2 4 4");
        EDGES.edge("7: at once, be the AHEAD one the higher one", "c3,0,3,0;c0,0,2,0;c0,0,9,0;s1,20;r1;", "pass 1", "stand 1 1 2",
            "pass 1", "stand 4 4 2");
        EDGES.edge("7: all who WAIT give up", "c0,0,9,0;" + "c0,0,1,0;".repeat(7), "pass 1", "stand 2 4 4 4 4 4 4 4", "count 2 = 0",
            "count 5 = 7");
    }

    private static void hang() {
        EDGES.edge("8: too small", FIRST, "pass 3", "hang {MIN,-1} = BAD", "count 10 = 1");
        EDGES.edge("8: too large", FIRST, "pass 3", "hang {7,8,32,33,MAX} = BAD", "count 10 = 1");
        EDGES.edge("8: WAITS, 1 MINUTE", "c0,0,9,0;c0,0,9,0;", "pass 1", "hang 1 = 1", "stand 2 4", "caller 1 5 = 1");
        EDGES.edge("8: WAITS, the last of eight", "c0,0,9,0;".repeat(8), "pass 8", "hang 7 = 8", "stand 3 2 1 1 1 1 1 4");
        EDGES.edge("8: WAITS, a MINUTE ahead of giving up", "c0,0,9,0;c0,0,4,0;", "pass 3", "hang 1 = 3", "pass 1", "stand 2 4",
            "caller 1 5 = 3");
        EDGES.edge("8: HUNG UP, it is not taken", "c0,0,9,0;c0,0,9,0;s1,2;", "pass 2", "hang 1 = 2", "pass 9", "stand 3 4",
            "caller 1 5 = 2");
        EDGES.edge("8: HUNG UP, the next one is taken", "c0,0,9,0;c0,0,9,0;c0,0,9,0;s1,2;", "pass 2", "hang 1 = 2", "number 2 = 0",
            "pass 1", "stand 3 4 2");
        EDGES.edge("8: HUNG UP in the last MINUTE", "c0,0,9,0;c0,0,1,0;s1,20;", "24 x pass 40", "pass 39 = 999", "recall 0 = 1",
            "hang 0 = NO", "stand 0 4");
    }

    private static void hangOfOthers() {
        EDGES.edge("8: NO: IDLE", "c0,0,9,0;", "hang 0 = NO", "count 10 = 0", "stand 0");
        EDGES.edge("8: NO: SERVED", "c0,0,9,0;", "pass 1", "hang 0 = NO", "count 10 = 1", "stand 2");
        EDGES.edge("8: NO: THROUGH", "c0,0,9,0;s1,1;", "pass 2", "hang 0 = NO", "count 10 = 1", "stand 3");
        EDGES.edge("8: NO: GAVE UP", "c0,0,9,0;c0,0,1,0;", "pass 1", "hang 1 = NO", "count 10 = 1", "stand 2 4");
        EDGES.edge("8: NO: HUNG UP once", "c0,0,9,0;c0,0,9,0;", "pass 1", "hang 1 = 1", "hang 1 = NO", "count 10 = 2");
        EDGES.edge("8: NO: it calls again", "c0,0,9,0;c0,0,9,0;", "pass 1", "hang 1 = 1", "recall 1 = 0", "hang 1 = NO",
            "count 10 = 3", "pass 1", "stand 2 1");
    }

    private static void recall() {
        EDGES.edge("9: too small", FIRST, "pass 40", "recall {MIN,-1} = BAD", "count 10 = 1");
        EDGES.edge("9: too large", FIRST, "pass 40", "recall {7,8,32,33,MAX} = BAD", "count 10 = 1");
        EDGES.edge("9: 1 if it was THROUGH", "c0,0,9,0;s1,1;", "pass 2", "recall 0 = 1", "stand 0", "count 4 = 0");
        EDGES.edge("9: 0 if it GAVE UP", "c0,0,9,0;c0,0,1,0;", "pass 1", "recall 1 = 0", "stand 2 0", "count 5 = 0");
        EDGES.edge("9: 0 if it HUNG UP", "c0,0,9,0;c0,0,9,0;", "pass 1", "hang 1 = 1", "recall 1 = 0", "stand 2 0");
        EDGES.edge("9: the last of eight", "c0,0,9,0;".repeat(7) + "c0,0,1,0;", "pass 1", "recall 7 = 0", "pass 1",
            "caller 7 4 = 4", "caller 7 5 = 1");
    }

    private static void recallOfOthers() {
        EDGES.edge("9: NO: IDLE", "c0,0,9,0;", "recall 0 = NO", "count 10 = 0", "stand 0");
        EDGES.edge("9: NO: WAITS", "c0,0,9,0;c0,0,9,0;", "pass 1", "recall 1 = NO", "count 10 = 1", "stand 2 1");
        EDGES.edge("9: NO: SERVED", "c0,0,9,0;", "pass 1", "recall 0 = NO", "count 10 = 1", "stand 2");
        EDGES.edge("9: NO: it calls again already", "c0,0,9,0;s1,1;", "pass 2", "recall 0 = 1", "recall 0 = NO", "count 10 = 2",
            "pass 1", "stand 2");
    }

    private static void whoCallsAgainComes() {
        EDGES.edge("9: in the MINUTE that goes by next", "c0,0,9,0;s1,1;", "pass 9", "recall 0 = 1", "stand 0", "pass 1", "stand 2",
            "caller 0 5 = 0");
        EDGES.edge("9: has WAITED 0 when it comes", "c0,0,9,0;c0,0,3,0;s1,20;", "pass 9", "caller 1 5 = 3", "recall 1 = 0", "pass 1",
            "stand 2 1", "caller 1 5 = 1", "pass 1", "stand 2 1", "pass 1", "stand 2 4", "caller 1 5 = 3");
        EDGES.edge("9: is taken for M MINUTES anew", "c0,0,9,0;s1,3;", "pass 4", "stand 3", "recall 0 = 1", "pass 3", "stand 2",
            "pass 1", "stand 3");
        EDGES.edge("9: comes once only", "c0,0,9,0;c0,0,1,0;s1,20;", "pass 1", "recall 1 = 0", "pass 1", "stand 2 4", "pass 9",
            "stand 2 4");
        EDGES.edge("9: calls again and again", "c0,0,9,0;s1,1;", "pass 2", "recall 0 = 1", "pass 2", "stand 3", "recall 0 = 1",
            "pass 2", "stand 3", "recall 0 = 1", "pass 1", "stand 2");
        EDGES.edge("9: comes ahead of nobody who came", "c0,0,9,0;c0,0,9,0;c0,0,9,0;s1,4;", "pass 1", "hang 1 = 1", "recall 1 = 0",
            "pass 4", "stand 3 1 2");
    }

    private static void staff() {
        EDGES.edge("10: too small", FIRST, "staff {MIN,-2,-1} = BAD", "count 6 = 1", "count 10 = 0");
        EDGES.edge("10: too large", FIRST, "staff {2,3,4,MAX} = BAD", "count 6 = 1", "count 10 = 0");
        EDGES.edge("10: one more", "c0,0,1,0;s1,1;", "staff 1 = 2", "count 6 = 2", "count 10 = 1");
        EDGES.edge("10: up to 4", "c0,0,1,0;s3,1;", "staff 1 = 4", "count 6 = 4");
        EDGES.edge("10: NO: 4", "c0,0,1,0;s4,1;", "staff 1 = NO", "count 6 = 4", "count 10 = 0");
        EDGES.edge("10: one fewer", "c0,0,1,0;s4,1;", "staff 0 = 3", "count 6 = 3", "count 10 = 1");
        EDGES.edge("10: down to 1", "c0,0,1,0;s2,1;", "staff 0 = 1", "count 6 = 1");
        EDGES.edge("10: NO: 1", "c0,0,1,0;s1,1;", "staff 0 = NO", "count 6 = 1", "count 10 = 0");
        EDGES.edge("10: BAD goes ahead of NO, of 4", "c0,0,1,0;s4,1;", "staff {-1,2} = BAD");
        EDGES.edge("10: BAD goes ahead of NO, of 1", "c0,0,1,0;s1,1;", "staff {-1,2} = BAD");
        EDGES.edge("10: from 1 to 4 and back", "c0,0,1,0;", "staff 1 = 2", "staff 1 = 3", "staff 1 = 4", "staff 1 = NO",
            "staff 0 = 3", "staff 0 = 2", "staff 0 = 1", "staff 0 = NO", "count 10 = 6");
    }

    private static void fewerServe() {
        EDGES.edge("10: who is SERVED stays so", "c0,0,9,0;c0,0,9,0;s2,3;", "pass 1", "staff 0 = 1", "stand 2 2", "pass 2",
            "stand 2 2", "pass 1", "stand 3 3");
        EDGES.edge("10: none is taken till fewer are SERVED than SERVE", "c0,0,9,0;c0,1,9,0;c0,2,9,0;s2,3;", "pass 3",
            "stand 2 2 1", "staff 0 = 1", "pass 1", "stand 3 2 1", "pass 1", "stand 3 3 2");
        EDGES.edge("10: three fewer", "c0,0,9,0;".repeat(4) + "c0,0,20,0;s4,9;", "pass 1", "stand 2 2 2 2 1", "3 x staff 0",
            "count 6 = 1", "pass 8", "stand 2 2 2 2 1", "pass 1", "stand 3 3 3 3 2");
        EDGES.edge("10: one more is taken in the next MINUTE only", "c0,0,9,0;c0,0,9,0;c0,0,9,0;s1,9;", "pass 1", "staff 1 = 2",
            "stand 2 1 1", "pass 1", "stand 2 2 1");
    }

    private static void rule() {
        EDGES.edge("11: too small", FIRST, "rule {MIN,-2,-1} = BAD", "count 8 = 0", "count 10 = 0");
        EDGES.edge("11: too large", FIRST, "rule {3,4,MAX} = BAD", "count 8 = 0", "count 10 = 0");
        EDGES.edge("11: NO: it is 0", FIRST, "rule 0 = NO", "count 10 = 0");
        EDGES.edge("11: NO: it is 1", "c0,0,1,0;r1;", "rule 1 = NO", "count 10 = 0");
        EDGES.edge("11: NO: it is 2", "c0,0,1,0;r2;", "rule 2 = NO", "count 10 = 0");
        EDGES.edge("11: which it was: 0", "c0,0,1,0;r0;", "rule {1,2} = 0", "count 10 = 1");
        EDGES.edge("11: which it was: 1", "c0,0,1,0;r1;", "rule {0,2} = 1", "count 10 = 1");
        EDGES.edge("11: which it was: 2", "c0,0,1,0;r2;", "rule {0,1} = 2", "count 10 = 1");
        EDGES.edge("11: which it is then", "c0,0,1,0;r2;", "rule 1 = 2", "count 8 = 1", "rule 1 = NO", "rule 0 = 1", "count 8 = 0");
        EDGES.edge("11: at once for who is AHEAD", "c0,0,9,0;c0,0,9,0;c0,0,9,5;", "pass 1", "number 1 = 0", "rule 1 = 0",
            "number 1 = 1", "number 2 = 0", "rule 2 = 1", "number 2 = 0", "rule 0 = 2", "number 2 = 1");
        EDGES.edge("11: who is SERVED stays so", "c0,0,9,0;c0,0,9,60;s1,9;", "pass 1", "rule 2 = 0", "pass 1", "stand 2 1");
    }

    private static void undo() {
        EDGES.edge("12: NO: nothing yet", FIRST, "undo = NO", "count 10 = 0");
        EDGES.edge("12: one", FIRST, "pass 1", "undo = 0", "count 1 = 0", "undo = NO");
        EDGES.edge("12: the last 8", FIRST, "8 x pass 1", "count 10 = 8", "undo = 7", "undo = 6", "undo = 5", "undo = 4", "undo = 3",
            "undo = 2", "undo = 1", "undo = 0", "count 1 = 0", "undo = NO");
        EDGES.edge("12: of 9 the first can't be", FIRST, "9 x pass 1", "count 10 = 8", "undo = 7", "7 x undo", "count 1 = 1",
            "undo = NO", "count 1 = 1");
        EDGES.edge("12: of 17 the last 8", FIRST, "17 x pass 2", "count 10 = 8", "8 x undo", "count 1 = 18", "undo = NO");
        EDGES.edge("12: of 25 the last 8, then 3 more", FIRST, "25 x pass 1", "8 x undo", "count 1 = 17", "3 x pass 2", "count 10 = 3",
            "undo = 2", "undo = 1", "undo = 0", "count 1 = 17", "undo = NO");
        EDGES.edge("12: some UNDONE, then full again", FIRST, "10 x pass 1", "3 x undo", "count 1 = 7", "count 10 = 5", "4 x pass 3",
            "count 10 = 8", "undo = 7", "count 1 = 16", "7 x undo", "count 1 = 3", "undo = NO");
        EDGES.edge("12: UNDONE itself is not UNDONE", FIRST, "pass 1", "pass 2", "undo = 1", "undo = 0", "count 1 = 0");
        EDGES.edge("12: the latest first", FIRST, "pass 3", "staff 1", "rule 2", "undo = 2", "count 8 = 0", "count 6 = 2", "undo = 1",
            "count 6 = 1", "count 1 = 3", "undo = 0", "count 1 = 0");
    }

    private static void undoOfEach() {
        EDGES.edge("12: MINUTES, all of one call at once", FIRST, "pass 40 = 40", "undo = 0", "count 1 = 0", "stand 0 0 0 0 0 0 0");
        EDGES.edge("12: MINUTES by which nothing becomes another", "c0,40,1,0;", "pass 1", "pass 2", "pass 3", "undo = 2", "count 1 = 3",
            "undo = 1", "count 1 = 1", "undo = 0", "count 1 = 0");
        EDGES.edge("12: MINUTES when all are THROUGH", "c0,0,1,0;s1,1;", "pass 2", "pass 9", "count 10 = 2", "undo = 1", "count 1 = 2",
            "stand 3", "undo = 0", "stand 0");
        EDGES.edge("12: MINUTES: what one WAITED", "c0,0,9,0;c0,0,9,0;s1,20;", "pass 2", "pass 3", "caller 1 5 = 5", "undo = 1",
            "caller 1 5 = 2", "undo = 0", "caller 1 5 = 0");
        EDGES.edge("12: MINUTES: when one was taken", "c0,0,9,0;s1,3;", "pass 1", "pass 9", "stand 3", "undo = 1", "stand 2", "pass 2",
            "stand 2", "pass 1", "stand 3");
        EDGES.edge("12: MINUTES: the last", FIRST, "24 x pass 40", "pass 39 = 999", "undo = 7", "count 1 = 960", "pass 40 = NO",
            "pass 39 = 999");
        EDGES.edge("12: HUNG UP", "c0,0,9,0;c0,0,9,0;c0,0,9,0;", "pass 2", "hang 1 = 2", "undo = 1", "stand 2 1 1", "number 1 = 0",
            "number 2 = 1", "caller 1 5 = 2");
        EDGES.edge("12: CALLS AGAIN, who was THROUGH", "c0,0,9,0;s1,1;", "pass 2", "recall 0 = 1", "undo = 1", "stand 3", "pass 1",
            "stand 3");
        EDGES.edge("12: CALLS AGAIN, who GAVE UP", "c0,0,9,0;c0,0,1,0;", "pass 1", "recall 1 = 0", "undo = 1", "stand 2 4", "pass 1",
            "stand 2 4");
        EDGES.edge("12: the MINUTE in which one came who called again", "c0,0,9,0;s1,1;", "pass 2", "recall 0 = 1", "pass 1", "stand 2",
            "undo = 2", "stand 0", "pass 1", "stand 2");
        EDGES.edge("12: one more SERVES", FIRST, "staff 1 = 2", "undo = 0", "count 6 = 1");
        EDGES.edge("12: one fewer SERVES", "c0,0,1,0;s4,1;", "staff 0 = 3", "undo = 0", "count 6 = 4", "staff 1 = NO");
        EDGES.edge("12: the RULE", FIRST, "rule 2 = 0", "undo = 0", "count 8 = 0", "rule 0 = NO");
    }

    private static void notUndone() {
        EDGES.edge("12: NO: letters, wiped", FIRST, "text r0;", "undo = NO", "wipe = 3", "undo = NO", "count 12 = 0");
        EDGES.edge("12: NO: LAID", FIRST, "pass 1", "text c0,0,1,0;", "lay = 1", "undo = NO", "count 0 = 1");
        EDGES.edge("12: NO: SEEN, forgotten", FIRST, "seen 0 1 1 = 1", "undo = NO", "count 9 = 1", "forget = 1", "undo = NO");
        EDGES.edge("12: NO: KEPT", FIRST, "keep = 1", "undo = NO", "count 11 = 1");
        EDGES.edge("12: NO: as KEPT last", FIRST, "keep = 1", "pass 1", "back = 0", "undo = NO", "count 1 = 0");
        EDGES.edge("12: NO: what was refused", FIRST, "pass 41 = BAD", "hang 0 = NO", "recall 0 = NO", "staff 0 = NO", "rule 0 = NO",
            "undo = NO", "count 10 = 0");
        EDGES.edge("12: NO: what was only asked", FIRST, "behind 9 0", "lost", "best 0", "day 5 9 0", "likely 0 5 0", "undo = NO");
        EDGES.edge("12: what is SEEN stays, THE TEXT, KEPT", FIRST, "pass 1", "seen 0 1 1", "text ab", "keep", "undo = 0", "count 9 = 1",
            "count 12 = 2", "count 11 = 1");
    }
}
