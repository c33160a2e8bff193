/** Boundary cases of promises 23 to 28: seen, forget, bears, kinds, likely, day. */
public final class EdgesOfSeenTest {
    private static final Check CHECK = new Check("EdgesOfSeenTest");
    private static final Edges EDGES = new Edges(CHECK);
    private static final String FIRST = Edges.FIRST;
    private static final String TWO = "c0,0,9,0;c0,0,9,0;s1,20;";
    /** Caller 2 comes in MINUTE 10 and gives up behind 40 at the latest, whatever P is. */
    private static final String LATE = "c0,0,9,0;c0,0,30,0;c0,10,30,0;s1,20;";
    /** Caller 2 gives up behind 6 if it is PLAIN, 12 if COOKING, 5 if NERVOUS, not at all if TOLD. */
    private static final String KIND = "c0,0,9,0;c0,0,9,0;c0,0,6,0;s1,20;";
    /** Of each DRAW of these days what it is is told; 11 and 5: nothing. */
    private static final String[] QUIET = {"11", "5"};

    public static void main(String[] args) {
        seen();
        seenWhenFull();
        forget();
        bearsIsBad();
        bears();
        bearsBehindOneAndForty();
        bearsByHowAllStands();
        kinds();
        kindsByHowAllStands();
        byNothingElseThatWasAsked();
        likelyIsBad();
        likely();
        likelyOfNoOther();
        likelyOfMany();
        dayIsBad();
        dayOfOneMinute();
        dayHangsUp();
        dayCallsAgain();
        dayServes();
        dayOfSixty();
        dayOfAll();
        dayByDraws();
        CHECK.end();
    }

    private static void seen() {
        EDGES.edge("23: too small a CALLER", FIRST, "seen {MIN,-1} 1 1 = BAD", "count 9 = 0");
        EDGES.edge("23: too large a CALLER", FIRST, "seen {7,8,32,MAX} 1 1 = BAD", "count 9 = 0");
        EDGES.edge("23: too few MINUTES", FIRST, "seen 0 {MIN,-1,0} 1 = BAD", "count 9 = 0");
        EDGES.edge("23: too many MINUTES", FIRST, "seen 0 {41,60,MAX} 1 = BAD", "count 9 = 0");
        EDGES.edge("23: too small a gave", FIRST, "seen 0 1 {MIN,-1} = BAD", "count 9 = 0");
        EDGES.edge("23: too large a gave", FIRST, "seen 0 1 {2,4,MAX} = BAD", "count 9 = 0");
        EDGES.edge("23: the fewest MINUTES", FIRST, "seen 0 1 0 = 1", "count 9 = 1");
        EDGES.edge("23: the most MINUTES", FIRST, "seen 0 40 1 = 1", "count 9 = 1");
        EDGES.edge("23: the last CALLER", FIRST, "seen 6 1 1 = 1", "bears 6 0 = 0");
        EDGES.edge("23: the last of eight", "c0,0,1,0;".repeat(8), "seen 7 1 1 = 1", "bears 7 0 = 1");
        EDGES.edge("23: the only CALLER", "c0,0,1,0;", "seen 0 1 1 = 1", "seen 1 1 1 = BAD", "count 9 = 1");
    }

    private static void seenWhenFull() {
        EDGES.edge("23: 6 at most", FIRST, "seen 0 1 0 = 1", "seen 1 1 0 = 2", "seen 2 1 0 = 3", "seen 3 1 0 = 4", "seen 4 1 0 = 5",
            "seen 5 1 0 = 6", "seen 6 1 0 = FULL", "count 9 = 6");
        EDGES.edge("23: 6 of one CALLER", FIRST, "5 x seen 0 9 0", "seen 0 9 0 = 6", "seen 0 {1,9,40} 0 = FULL", "count 9 = 6");
        EDGES.edge("23: BAD goes ahead of FULL", FIRST, "6 x seen 0 1 0", "seen {-1,7} 1 0 = BAD");
        EDGES.edge("23: BAD goes ahead of FULL", FIRST, "6 x seen 0 1 0", "seen 0 {0,41} 0 = BAD");
        EDGES.edge("23: BAD goes ahead of FULL", FIRST, "6 x seen 0 1 0", "seen 0 1 {-1,2} = BAD");
        EDGES.edge("23: the sixth counts", TWO, "5 x seen 1 30 1", "bears 1 0 = 20", "seen 1 1 0 = 6", "bears 1 0 = 19",
            "bears 1 1 = 2");
        EDGES.edge("23: what was FULL does not count", TWO, "6 x seen 1 30 1", "seen 1 1 0 = FULL", "bears 1 0 = 20", "bears 1 1 = 1");
        EDGES.edge("23: one less by nothing but forgetting", FIRST, "6 x seen 0 1 0", "pass 1", "undo = 0", "seen 0 1 0 = FULL",
            "keep = 1", "back = 0", "seen 0 1 0 = FULL", "forget = 6", "seen 0 1 0 = 1");
    }

    private static void forget() {
        EDGES.edge("24: nothing", FIRST, "forget = 0", "forget = 0");
        EDGES.edge("24: one", FIRST, "seen 0 1 1", "forget = 1", "count 9 = 0", "forget = 0");
        EDGES.edge("24: six", FIRST, "6 x seen 0 1 1", "forget = 6", "count 9 = 0", "bears 0 0 = 30", "kinds 0 = 15");
        EDGES.edge("24: what is SEEN then is all", TWO, "3 x seen 1 30 1", "forget = 3", "seen 1 1 0 = 1", "bears 1 0 = 29");
        EDGES.edge("24: of all CALLERS", TWO, "seen 0 1 1", "seen 1 1 0", "bears 0 0 = 0", "forget = 2", "bears 0 0 = 30", "bears 1 0 = 30");
    }

    private static void bearsIsBad() {
        EDGES.edge("25: too small a CALLER", FIRST, "bears {MIN,-1} 0 = BAD");
        EDGES.edge("25: too large a CALLER", FIRST, "bears {7,8,32,MAX} 1 = BAD");
        EDGES.edge("25: too small a what", FIRST, "bears 0 {MIN,-1} = BAD");
        EDGES.edge("25: too large a what", FIRST, "bears 0 {2,3,MAX} = BAD");
        EDGES.edge("25: BAD goes ahead of NONE", TWO, "seen 0 1 1", "bears 0 1 = NONE", "bears 0 {-1,2} = BAD");
    }

    private static void bears() {
        EDGES.edge("25: nothing is SEEN: all 30", TWO, "bears 1 0 = 30", "bears 1 1 = 1");
        EDGES.edge("25: nothing is SEEN of it", TWO, "seen 0 1 1", "bears 1 0 = 30", "bears 1 1 = 1");
        EDGES.edge("25: none: 0, NONE", TWO, "seen 0 1 1", "bears 0 0 = 0", "bears 0 1 = NONE");
        EDGES.edge("25: both never", TWO, "seen 1 5 1", "seen 1 5 0", "bears 1 0 = 0", "bears 1 1 = NONE");
        EDGES.edge("25: GAVE UP, did not stay so", TWO, "seen 1 5 1", "seen 1 6 0", "bears 1 0 = 0");
        EDGES.edge("25: the same SEEN twice", TWO, "seen 1 5 1 = 1", "seen 1 5 1 = 2", "bears 1 0 = 5", "bears 1 1 = 1");
        EDGES.edge("25: in place of its own", "c0,0,9,0;c0,0,1,0;s1,20;", "seen 1 20 0 = 1", "bears 1 0 = 10", "bears 1 1 = 21",
            "caller 1 2 = 1");
        EDGES.edge("25: one that is SERVED did not", "c0,0,9,0;", "seen 0 40 0 = 1", "bears 0 0 = 30", "bears 0 1 = 1");
        EDGES.edge("25: one that is IDLE did not", "c0,40,9,0;", "seen 0 40 0 = 1", "bears 0 0 = 30", "seen 0 40 1 = 2", "bears 0 0 = 0");
        EDGES.edge("25: TOLD, none AHEAD", "c0,0,9,0;c1,0,9,0;s1,20;", "seen 1 19 1 = 1", "bears 1 0 = 0", "bears 1 1 = NONE");
        EDGES.edge("25: COOKING, twice 9 is 18, twice 10 is 20", "c0,0,9,0;c2,0,9,0;s1,20;", "seen 1 19 1 = 1", "bears 1 0 = 9",
            "seen 1 18 0 = 2", "bears 1 0 = 0");
        EDGES.edge("25: NERVOUS, 1 at least", "c0,0,9,0;c0,0,9,0;c3,0,9,0;s1,20;", "seen 2 1 1 = 1", "bears 2 0 = 2", "bears 2 1 = 1");
    }

    private static void bearsBehindOneAndForty() {
        EDGES.edge("25: behind 1 it GAVE UP: 1 alone", TWO, "seen 1 1 1", "bears 1 0 = 1", "bears 1 1 = 1");
        EDGES.edge("25: behind 1 it did not: all but 1", TWO, "seen 1 1 0", "bears 1 0 = 29", "bears 1 1 = 2");
        EDGES.edge("25: behind 40 it GAVE UP: all", LATE, "seen 2 40 1", "bears 2 0 = 30", "bears 2 1 = 1");
        EDGES.edge("25: behind 39 it did not: 30 alone", LATE, "seen 2 39 0", "bears 2 0 = 1", "bears 2 1 = 30");
        EDGES.edge("25: behind 39 it GAVE UP: all but 30", LATE, "seen 2 39 1", "bears 2 0 = 29", "bears 2 1 = 1");
        EDGES.edge("25: behind 40 it did not: none", LATE, "seen 2 40 0", "bears 2 0 = 0", "bears 2 1 = NONE");
    }

    private static void bearsByHowAllStands() {
        EDGES.edge("25: MINUTES from when it is asked", TWO, "seen 1 5 1", "bears 1 0 = 5", "pass 2", "bears 1 0 = 7", "undo = 0",
            "bears 1 0 = 5");
        EDGES.edge("25: it has WAITED longer already", TWO, "seen 1 1 0", "pass 5", "bears 1 0 = 24", "bears 1 1 = 7");
        EDGES.edge("25: it GAVE UP already", TWO, "seen 1 1 1", "pass 1", "hang 1 = 1", "bears 1 0 = 30", "seen 1 1 0", "bears 1 0 = 0");
        EDGES.edge("25: two SERVE", TWO, "seen 1 40 1", "bears 1 0 = 20", "staff 1 = 2", "bears 1 0 = 0");
        EDGES.edge("25: another RULE", "c0,0,9,0;c0,0,9,0;c0,0,9,0;s1,5;", "seen 0 6 1", "bears 0 0 = 0", "rule 1 = 0",
            "bears 0 0 = 6", "bears 0 1 = 1");
        EDGES.edge("25: as KEPT", TWO, "seen 1 5 1", "keep", "pass 2", "bears 1 0 = 7", "back = 0", "bears 1 0 = 5");
    }

    private static void kinds() {
        EDGES.edge("26: too small", FIRST, "kinds {MIN,-1} = BAD");
        EDGES.edge("26: too large", FIRST, "kinds {7,8,32,MAX} = BAD");
        EDGES.edge("26: nothing is SEEN: all", KIND, "kinds 2 = 15");
        EDGES.edge("26: nothing is SEEN of it", KIND, "seen 0 1 1", "kinds 2 = 15");
        EDGES.edge("26: none", KIND, "seen 2 4 1", "kinds 2 = 0");
        EDGES.edge("26: all", KIND, "seen 2 4 0", "kinds 2 = 15");
        EDGES.edge("26: NERVOUS", KIND, "seen 2 5 1", "kinds 2 = 8");
        EDGES.edge("26: all but NERVOUS", KIND, "seen 2 5 0", "kinds 2 = 7");
        EDGES.edge("26: PLAIN", KIND, "seen 2 5 0", "seen 2 6 1", "kinds 2 = 1");
        EDGES.edge("26: PLAIN, NERVOUS", KIND, "seen 2 6 1", "kinds 2 = 9");
        EDGES.edge("26: COOKING", KIND, "seen 2 11 0", "seen 2 12 1", "kinds 2 = 4");
        EDGES.edge("26: TOLD", KIND, "seen 2 12 0", "kinds 2 = 2");
        EDGES.edge("26: all but TOLD", KIND, "seen 2 12 1", "kinds 2 = 13");
        EDGES.edge("26: both never", KIND, "seen 2 6 1", "seen 2 6 0", "kinds 2 = 0");
        EDGES.edge("26: its own is none of them", KIND, "seen 2 6 0", "kinds 2 = 6", "caller 2 0 = 0");
        EDGES.edge("26: behind 1", "c0,0,9,0;c0,0,9,0;c0,0,1,0;s1,20;", "seen 2 1 1", "kinds 2 = 9");
        EDGES.edge("26: behind 40", LATE, "seen 2 40 1", "kinds 2 = 9", "forget = 1", "seen 2 39 0", "kinds 2 = 15");
        EDGES.edge("26: FULL of what is SEEN", KIND, "5 x seen 2 6 1", "seen 2 5 0 = 6", "kinds 2 = 1");
    }

    private static void kindsByHowAllStands() {
        EDGES.edge("26: MINUTES from when it is asked", KIND, "seen 2 4 1", "kinds 2 = 0", "pass 1", "kinds 2 = 8", "pass 1",
            "kinds 2 = 9");
        EDGES.edge("26: it GAVE UP already", KIND, "seen 2 1 1", "pass 1", "hang 2 = 1", "kinds 2 = 15");
        EDGES.edge("26: it did not any more", KIND, "seen 2 1 0", "pass 1", "hang 2 = 1", "kinds 2 = 0");
    }

    /** What was tried in place of its own, or read in a TEXT that is not LAID, is gone when the next one asks. */
    private static void byNothingElseThatWasAsked() {
        EDGES.edge("25: KINDS was asked before", TWO, "seen 1 5 1", "kinds 1 = 0", "bears 1 0 = 5", "bears 1 1 = 1");
        EDGES.edge("25: BEARS of another was asked before", "c0,0,9,0;c0,0,4,0;c0,0,9,0;s1,5;", "seen 2 6 1 = 1", "bears 1 0 = 30",
            "bears 2 0 = 5", "bears 2 1 = 1");
        EDGES.edge("25: a TEXT was read before", TWO, "seen 1 5 1", "wipe", "text c0,0,9,0;c1,9,1,0;s4,1;", "fault = NONE",
            "bears 1 0 = 5", "bears 1 1 = 1");
        EDGES.edge("26: BEARS was asked before", KIND, "seen 2 6 1", "bears 2 0 = 6", "kinds 2 = 9");
        EDGES.edge("26: KINDS of another was asked before", "c0,0,9,0;c0,0,9,0;c2,0,6,0;c0,0,12,0;s1,5;", "seen 3 12 1 = 1",
            "kinds 3 = 9", "kinds 2 = 15", "kinds 3 = 9");
        EDGES.edge("26: a TEXT was read before", KIND, "seen 2 6 1", "wipe", "text c0,0,9,0;c0,0,9,0;c0,9,1,0;s4,1;",
            "fault = NONE", "kinds 2 = 9");
    }

    private static void likelyIsBad() {
        EDGES.edge("27: too small a CALLER", FIRST, "likely {MIN,-1} 5 0 = BAD");
        EDGES.edge("27: too large a CALLER", FIRST, "likely {7,8,32,MAX} 5 1 = BAD");
        EDGES.edge("27: too small an x", FIRST, "likely 0 {MIN,-1} 0 = BAD");
        EDGES.edge("27: too large an x", FIRST, "likely 0 {11,12,100,MAX} 1 = BAD");
        EDGES.edge("27: too small a part", FIRST, "likely 0 5 {MIN,-1} = BAD");
        EDGES.edge("27: too large a part", FIRST, "likely 0 5 {2,3,MAX} = BAD");
    }

    private static void chance(String sentence, String text, String before, String call, int above, int below) {
        EDGES.edge(sentence, text, before, "likely " + call + " 0 = " + above, "likely " + call + " 1 = " + below);
    }

    private static void likely() {
        String row = "c0,0,9,1;c0,0,30,1;c0,0,4,1;s1,3;";
        int[][] byTenths = {{0, 1}, {1, 10}, {1, 5}, {3, 10}, {2, 5}, {1, 2}, {3, 5}, {7, 10}, {4, 5}, {9, 10}, {1, 1}};
        for (int x = 0; x <= 10; x++) {
            chance("27: in lowest terms, x " + x, row, "pass 1", "2 " + x, byTenths[x][0], byTenths[x][1]);
        }
        chance("27: TAKEN behind 60", "c0,0,9,1;c2,0,30,1;c2,0,30,1;c2,1,30,1;s1,20;", "pass 1", "3 0", 1, 1);
        chance("27: TAKEN behind 61", "c0,0,9,1;c2,0,30,1;c2,0,30,1;c2,1,30,1;s1,20;", "count 1 = 0", "3 0", 0, 1);
        EDGES.edge("27: nobody HANGS UP by it", row, "pass 1", "likely 2 10 0 = 1", "stand 2 1 1", "count 10 = 1");
    }

    private static void likelyOfNoOther() {
        chance("27: none other WAITS, it is taken", "c0,0,9,0;c0,0,9,0;s1,3;", "pass 1", "1 {0,1,5,10}", 1, 1);
        chance("27: none other WAITS, it gives up", "c0,0,9,0;c0,0,2,0;s1,3;", "pass 1", "1 {0,1,5,10}", 0, 1);
        chance("27: it does not HANG UP itself", "c0,0,9,0;c0,0,9,0;s1,3;", "pass 1", "1 10", 1, 1);
        chance("27: it is SERVED", "c0,0,9,0;c0,0,9,0;c0,0,9,0;", "pass 1", "0 {0,3,10}", 1, 1);
        chance("27: it is THROUGH", "c0,0,9,0;c0,0,9,0;c0,0,9,0;s1,1;", "pass 2", "0 {0,3,10}", 1, 1);
        chance("27: it GAVE UP", "c0,0,9,0;c0,0,1,0;c0,0,9,0;s1,20;", "pass 1", "1 {0,3,10}", 0, 1);
        chance("27: it is IDLE, nobody WAITS", "c0,9,9,0;", "pass 1", "0 {0,3,10}", 1, 1);
        chance("27: who is IDLE does not HANG UP", "c0,0,9,0;c0,1,30,0;c0,1,4,0;s1,4;", "pass 1", "2 {0,3,10}", 0, 1);
        chance("27: it is IDLE, another WAITS", "c0,0,9,0;c0,0,9,0;c0,5,1,0;s1,5;", "pass 1", "2 3", 3, 10);
        chance("27: CALLER 0 is another", "c0,1,30,1;c0,0,9,1;c0,1,4,1;s1,4;", "pass 2", "2 3", 3, 10);
        chance("27: it calls again", "c0,0,9,0;c0,0,9,0;s1,3;", "pass 4", "0 {0,10}", 1, 1);
    }

    private static void likelyOfMany() {
        String lastOfSeven = "c0,0,22,1;" + "c0,0,30,1;".repeat(7) + "s1,20;r1;";
        chance("27: six others, all of them", lastOfSeven, "pass 1", "0 1", 1, 1000000);
        chance("27: six others, all of them", lastOfSeven, "pass 1", "0 9", 531441, 1000000);
        chance("27: six others, in lowest terms", lastOfSeven, "pass 1", "0 5", 1, 64);
        chance("27: six others, in lowest terms", lastOfSeven, "pass 1", "0 8", 4096, 15625);
        chance("27: six others, none by 0", lastOfSeven, "pass 1", "0 0", 0, 1);
        chance("27: six others, all by 10", lastOfSeven, "pass 1", "0 10", 1, 1);
        chance("27: seven others, it is SERVED", lastOfSeven, "pass 1", "7 3", 1, 1);
        String oneOfTwo = "c0,0,9,1;c0,0,30,1;c0,0,30,1;c0,0,7,1;s1,3;";
        chance("27: one at least of two", oneOfTwo, "pass 1", "3 1", 19, 100);
        chance("27: one at least of two", oneOfTwo, "pass 1", "3 5", 3, 4);
        chance("27: one at least of two, for itself each", oneOfTwo, "pass 1", "3 9", 99, 100);
    }

    private static void dayIsBad() {
        EDGES.edge("28: too small a z", FIRST, "day {MIN,-1} 1 0 = BAD");
        EDGES.edge("28: too large a z", FIRST, "day {10000,65536,MAX} 1 0 = BAD");
        EDGES.edge("28: too few MINUTES", FIRST, "day 0 {MIN,-1,0} 0 = BAD");
        EDGES.edge("28: too many MINUTES", FIRST, "day 0 {61,62,MAX} 0 = BAD");
        EDGES.edge("28: too small a what", FIRST, "day 0 1 {MIN,-1} = BAD");
        EDGES.edge("28: too large a what", FIRST, "day 0 1 {3,4,MAX} = BAD");
    }

    private static void dayOfOneMinute() {
        EDGES.edge("28: the first day", "c0,0,9,7;s1,1;", "day 0 1 {0,1,2} = 0", "day 0 2 0 = 1");
        EDGES.edge("28: the last day", "c0,0,9,7;s1,1;", "day 9999 1 {0,1,2} = 0", "day 9999 2 0 = 1", "day 9999 2 2 = 7");
        EDGES.edge("28: nothing changes by it", "c0,0,9,7;s1,1;", "day 0 60 0 = 1", "count 1 = 0", "stand 0", "count 10 = 0");
        EDGES.edge("28: the MINUTE of these, not of all", "c0,0,9,7;c0,0,9,9;s1,2;r1;", "pass 2", "stand 1 2", "day 0 1 0 = 1",
            "day 0 1 1 = 1", "day 0 1 2 = 9");
    }

    /** Ahead of the MINUTE, in z 2, CALLER 0 HANGS UP (DRAW 29766). */
    private static void dayHangsUp() {
        EDGES.edge("28: HANGS UP", "c0,0,9,7;c0,0,9,9;s1,20;r1;", "pass 1", "stand 1 2", "day 2 1 1 = 1");
        EDGES.edge("28: HANGS UP ahead of the MINUTE", "c0,0,9,7;c0,0,9,9;s1,2;r1;", "pass 2", "day 2 1 0 = 1", "day 2 1 1 = 1");
        EDGES.edge("28: it can't HANG UP: IDLE", "c0,0,9,7;c0,0,9,9;s1,20;", "day 2 1 1 = 0", "behind 1 0 = 2");
        EDGES.edge("28: it can't HANG UP: SERVED", "c0,0,9,7;c0,0,9,9;s1,20;", "pass 1", "day 2 1 1 = 0");
        EDGES.edge("28: it can't HANG UP: THROUGH", "c0,0,9,7;c0,0,9,9;s1,1;", "pass 2", "day 2 1 0 = 2", "day 2 1 1 = 0",
            "day 2 1 2 = 16");
        for (String z : QUIET) {
            EDGES.edge("28: 4, 5: nothing", "c0,0,9,7;c0,0,9,9;s1,20;r1;", "pass 1", "day " + z + " 1 1 = 0");
        }
    }

    /** Ahead of the MINUTE, in z 3, CALLER 1 of two CALLS AGAIN (DRAW 22335). */
    private static void dayCallsAgain() {
        String through = "c0,9,9,5;c0,0,9,7;s1,1;";
        EDGES.edge("28: CALLS AGAIN who is THROUGH", through, "pass 2", "stand 0 3", "day 3 1 0 = 0", "day 3 1 2 = 0", "day 3 2 0 = 1");
        EDGES.edge("28: CALLS AGAIN who GAVE UP", "c0,0,9,0;c0,0,2,0;s1,20;", "pass 2", "stand 2 4", "day 3 1 1 = 0");
        EDGES.edge("28: CALLS AGAIN, comes and gives up anew", "c0,0,9,0;c0,0,1,0;s1,20;", "pass 2", "stand 2 4", "day 3 1 1 = 1");
        EDGES.edge("28: CALLS AGAIN, the only CALLER", "c0,0,9,7;s1,1;", "pass 2", "day 3 1 0 = 0", "day 11 1 0 = 1");
        EDGES.edge("28: it can't CALL AGAIN: IDLE", "c0,9,9,0;c0,9,9,0;s1,20;", "day 3 1 {0,1,2} = 0");
        EDGES.edge("28: it can't CALL AGAIN: SERVED", "c0,9,9,0;c0,0,9,7;s1,2;", "pass 2", "day 3 1 0 = 1", "day 3 1 2 = 7");
        for (String z : QUIET) {
            EDGES.edge("28: 4, 5: nothing", through, "pass 2", "day " + z + " 1 0 = 1", "day " + z + " 1 2 = 7");
            EDGES.edge("28: 4, 5: nothing", "c0,0,9,0;c0,0,2,0;s1,20;", "pass 2", "day " + z + " 1 1 = 1");
        }
    }

    /** Ahead of the MINUTE, in z 7, 9998 and 9999, one more SERVES, in z 1, 4 and 9 one fewer. */
    private static void dayServes() {
        EDGES.edge("28: one more", "c0,0,9,0;c0,0,1,0;s1,20;", "day {7,9998,9999} 1 1 = 0");
        EDGES.edge("28: one more, no more than that", "c0,0,9,0;c0,0,1,0;c0,0,1,0;s1,20;", "day {7,9998,9999} 1 1 = 1");
        EDGES.edge("28: it can't be more than 4", "c0,0,1,0;".repeat(5) + "s4,20;", "day {7,9998,9999} 1 1 = 1", "lost = 1");
        EDGES.edge("28: up to 4", "c0,0,1,0;".repeat(4) + "s3,20;", "day {7,9998,9999} 1 1 = 0", "lost = 1");
        EDGES.edge("28: one fewer", "c0,0,1,0;c0,0,1,0;s2,20;", "day {1,4,9} 1 1 = 1", "lost = 0");
        EDGES.edge("28: it can't be fewer than 1", "c0,0,1,0;c0,0,1,0;s1,20;", "day {1,4,9} 1 1 = 1", "lost = 1");
        EDGES.edge("28: one fewer, no fewer than that", "c0,0,1,0;c0,0,1,0;s3,20;", "day {1,4,9} 1 1 = 0");
        EDGES.edge("28: in z 8 one more twice", "c0,0,1,0;c0,0,1,0;c0,1,1,0;s1,20;", "day 8 1 1 = 0", "day 8 2 1 = 0", "lost = 2");
        EDGES.edge("28: in z 1 one fewer twice", "c0,1,1,0;c0,1,1,0;s3,20;", "day 1 2 1 = 1", "lost = 0");
        for (String z : QUIET) {
            EDGES.edge("28: 4, 5: nothing", "c0,0,9,0;c0,0,1,0;c0,0,1,0;s2,20;", "day " + z + " 1 1 = 1");
        }
        EDGES.edge("28: nobody more SERVES by it", "c0,0,9,0;c0,0,1,0;s1,20;", "day 7 1 1 = 0", "count 6 = 1", "lost = 1");
    }

    private static void dayOfSixty() {
        EDGES.edge("28: 60 MINUTES", "c0,39,9,7;s1,20;", "day {0,1,77,9999} 60 0 = 1");
        EDGES.edge("28: 60 MINUTES, WORTH", "c0,39,9,7;s1,20;", "day {0,1,77,9999} 60 2 = 7");
        EDGES.edge("28: 59 MINUTES", "c0,39,9,7;s1,20;", "day {0,1,77,9999} 59 {0,1,2} = 0");
        EDGES.edge("28: 60 MINUTES are too few for MINUTE 40", "c0,40,9,7;s1,20;", "day {0,1,77,9999} 60 {0,1,2} = 0");
    }

    private static void dayOfAll() {
        EDGES.edge("28: those who were so before", "c0,0,30,60;".repeat(8) + "s4,1;", "pass 3", "count 4 = 8", "day 11 1 0 = 8",
            "day 11 1 1 = 0", "day 11 1 2 = 480");
        EDGES.edge("28: those who gave up before", "c0,0,1,60;".repeat(8) + "s1,20;", "pass 1", "count 5 = 7", "day 11 1 0 = 0",
            "day 11 1 1 = 7", "day 11 1 2 = 0");
        EDGES.edge("28: nobody yet", "c0,40,1,60;", "day 11 1 {0,1,2} = 0");
    }

    /** Two CALLERS: in z 0 DRAW is 0 (0 HANGS UP), 20743 (1 HANGS UP), 5149 (1 CALLS AGAIN). */
    private static void dayByDraws() {
        String row = "c0,0,30,7;c0,0,30,9;s1,2;";
        EDGES.edge("28: 1 MINUTE", row, "day 0 1 0 = 0", "day 0 1 1 = 0", "day 0 1 2 = 0");
        EDGES.edge("28: 2 MINUTES", row, "day 0 2 0 = 0", "day 0 2 1 = 1", "day 0 2 2 = 0");
        EDGES.edge("28: 3 MINUTES", row, "day 0 3 0 = 1", "day 0 3 1 = 0", "day 0 3 2 = 7");
        EDGES.edge("28: DRAW modulo as many as there are", "c0,0,9,7;c0,0,9,9;c0,0,9,0;s1,20;r1;", "pass 1", "stand 1 1 2",
            "day 2 1 1 = 1", "day 22 1 1 = 1");
    }
}
