/** Boundary cases of promises 13 to 22: behind, taken, left, number, again, best, needed, lost, helps, longest. */
public final class EdgesOfWhatComesTest {
    private static final Check CHECK = new Check("EdgesOfWhatComesTest");
    private static final Edges EDGES = new Edges(CHECK);
    private static final String FIRST = Edges.FIRST;
    private static final String TWO = "c0,0,9,0;c0,0,9,0;";

    /** Caller 1 is a TOLD one of WORTH 0, others come ahead of it one by one: it is taken in MINUTE 80. */
    private static final String TOLD_TILL_80 = "c0,0,9,9;c1,0,1,0;c0,10,30,9;c0,30,30,9;c0,40,30,9;s1,20;r2;";
    /** Caller 3 comes in MINUTE 1 and is taken in MINUTE 60. */
    private static final String TAKEN_IN_60 = "c0,0,9,1;c2,0,30,1;c2,0,30,1;c2,1,30,1;s1,20;";
    /** Caller 4 comes in MINUTE 1 and gives up in MINUTE 60; nobody else gives up. */
    private static final String LOST_IN_60 = "c0,0,9,9;c2,0,30,9;c2,0,30,9;c2,10,30,9;c2,1,30,0;s1,20;r2;";

    public static void main(String[] args) {
        behind();
        taken();
        takenBehindSixty();
        left();
        leftBehindSixty();
        number();
        again();
        againPauses();
        againSoonest();
        best();
        bestOfWhom();
        bestBehindSixty();
        needed();
        lost();
        helps();
        helpsBehindSixty();
        longest();
        longestOfWhom();
        beyondTheLast();
        CHECK.end();
    }

    private static void behind() {
        EDGES.edge("13: too few MINUTES", FIRST, "behind {MIN,-60,-1} 0 = BAD");
        EDGES.edge("13: too many MINUTES", FIRST, "behind {61,62,100,999,MAX} 0 = BAD");
        EDGES.edge("13: too small a CALLER", FIRST, "behind 0 {MIN,-1} = BAD");
        EDGES.edge("13: too large a CALLER", FIRST, "behind 60 {7,8,32,MAX} = BAD");
        EDGES.edge("13: both", FIRST, "behind 61 7 = BAD", "behind -1 -1 = BAD");
        EDGES.edge("13: 0 MINUTES: as it is now", TWO + "c0,0,1,0;c0,9,9,0;s1,1;", "behind 0 0 = 0", "pass 1", "behind 0 0 = 2",
            "behind 0 1 = 1", "behind 0 2 = 4", "behind 0 3 = 0", "pass 1", "behind 0 0 = 3");
        EDGES.edge("13: 1 MINUTE", "c0,0,9,0;s1,1;", "behind 1 0 = 2", "behind 2 0 = 3");
        EDGES.edge("13: 40 and 41", "c0,40,9,0;s1,20;", "behind 40 0 = 0", "behind 41 0 = 2");
        EDGES.edge("13: 59 and 60", "c0,40,9,0;s1,20;", "behind 60 0 = 2", "pass 1", "behind 59 0 = 2", "behind 60 0 = 3");
        EDGES.edge("13: the last of eight", "c0,0,9,0;".repeat(7) + "c0,0,1,0;", "behind 1 7 = 4", "behind 1 8 = BAD");
        EDGES.edge("13: nothing goes by", FIRST, "behind 60 0 = 3", "count 1 = 0", "caller 0 4 = 0", "behind 0 0 = 0");
        EDGES.edge("13: who calls again comes", "c0,0,9,0;s1,1;", "pass 2", "behind 60 0 = 3", "recall 0 = 1", "behind 0 0 = 0",
            "behind 1 0 = 2", "behind 2 0 = 3");
    }

    private static void taken() {
        EDGES.edge("14: too small", FIRST, "taken {MIN,-1} = BAD");
        EDGES.edge("14: too large", FIRST, "taken {7,8,32,MAX} = BAD");
        EDGES.edge("14: 0: it is SERVED", "c0,0,9,0;", "pass 1", "taken 0 = 0");
        EDGES.edge("14: 0: it is THROUGH", "c0,0,9,0;s1,1;", "pass 2", "taken 0 = 0");
        EDGES.edge("14: 1", "c0,0,9,0;", "taken 0 = 1");
        EDGES.edge("14: 1: it calls again", "c0,0,9,0;s1,1;", "pass 2", "recall 0 = 1", "taken 0 = 1");
        EDGES.edge("14: SERVED first, THROUGH a MINUTE later", TWO + "s1,1;", "taken 0 = 1", "taken 1 = 2", "left 1 = 3");
        EDGES.edge("14: from now, not from MINUTE 0", TWO + "s1,5;", "taken 1 = 6", "pass 2", "taken 1 = 4", "pass 3",
            "taken 1 = 1", "pass 1", "taken 1 = 0");
        EDGES.edge("14: none: it GAVE UP", "c0,0,9,0;c0,0,1,0;", "taken 1 = NONE", "pass 1", "taken 1 = NONE");
        EDGES.edge("14: none: it HUNG UP", TWO, "pass 1", "hang 1 = 1", "taken 1 = NONE");
    }

    private static void takenBehindSixty() {
        EDGES.edge("14: 60", TAKEN_IN_60, "pass 1", "taken 3 = 60");
        EDGES.edge("14: none: 61", TAKEN_IN_60, "taken 3 = NONE");
        EDGES.edge("14: 59", TAKEN_IN_60, "pass 2", "taken 3 = 59");
        EDGES.edge("14: 60 of one who WAITS", TOLD_TILL_80, "pass 21", "taken 1 = 60");
        EDGES.edge("14: none: 61 of one who WAITS", TOLD_TILL_80, "pass 20", "taken 1 = NONE");
        EDGES.edge("14: 41 of the one who calls last", "c0,40,1,0;", "taken 0 = 41");
    }

    private static void left() {
        EDGES.edge("15: too small", FIRST, "left {MIN,-1} = BAD");
        EDGES.edge("15: too large", FIRST, "left {7,8,32,MAX} = BAD");
        EDGES.edge("15: 0: it is THROUGH", "c0,0,9,0;s1,1;", "pass 2", "left 0 = 0");
        EDGES.edge("15: 0: it GAVE UP", "c0,0,9,0;c0,0,1,0;", "pass 1", "left 1 = 0");
        EDGES.edge("15: 0: it HUNG UP", TWO, "pass 1", "hang 1 = 1", "left 1 = 0");
        EDGES.edge("15: 1: it gives up", "c0,0,9,0;c0,0,1,0;", "left 1 = 1");
        EDGES.edge("15: 1: it is SERVED yet", "c0,0,9,0;s1,1;", "pass 1", "left 0 = 1");
        EDGES.edge("15: 2: M is 1", "c0,0,9,0;s1,1;", "left 0 = 2");
        EDGES.edge("15: 21: M is 20", "c0,0,9,0;s1,20;", "left 0 = 21");
        EDGES.edge("15: it calls again", "c0,0,9,0;s1,1;", "pass 2", "left 0 = 0", "recall 0 = 1", "left 0 = 2");
    }

    private static void leftBehindSixty() {
        EDGES.edge("15: THROUGH, 60", "c0,40,9,0;s1,20;", "pass 1", "left 0 = 60");
        EDGES.edge("15: THROUGH, none: 61", "c0,40,9,0;s1,20;", "left 0 = NONE");
        EDGES.edge("15: THROUGH, 59", "c0,40,9,0;s1,19;", "pass 1", "left 0 = 59");
        EDGES.edge("15: GAVE UP, 60", "c0,0,9,9;c2,0,30,0;c0,10,30,9;c0,30,30,9;s1,20;r2;", "left 1 = 60");
        EDGES.edge("15: GAVE UP, none: 61", LOST_IN_60, "left 4 = NONE");
        EDGES.edge("15: GAVE UP, 60 from MINUTE 1", LOST_IN_60, "pass 1", "left 4 = 60");
        EDGES.edge("15: none: it WAITS any time", TOLD_TILL_80, "left 1 = NONE", "pass 40", "left 1 = NONE", "pass 1", "left 1 = 60");
    }

    private static void number() {
        EDGES.edge("16: too small", FIRST, "pass 3", "number {MIN,-1} = BAD");
        EDGES.edge("16: too large", FIRST, "pass 3", "number {7,8,32,MAX} = BAD");
        EDGES.edge("16: none AHEAD", TWO, "pass 1", "number 1 = 0");
        EDGES.edge("16: six AHEAD", "c0,0,9,0;".repeat(8), "pass 1", "number 7 = 6", "number 1 = 0");
        EDGES.edge("16: six AHEAD by another RULE", "c0,0,9,0;".repeat(8), "pass 1", "rule 1 = 0", "number 1 = 6", "number 7 = 0");
        EDGES.edge("16: as much WORTH, by which came first", "c0,0,9,1;c0,0,9,1;c0,0,9,1;c0,0,9,2;r2;", "pass 1", "stand 1 1 1 2",
            "number 0 = 0", "number 1 = 1", "number 2 = 2");
        EDGES.edge("16: NO: IDLE", "c0,0,9,0;", "number 0 = NO");
        EDGES.edge("16: NO: SERVED", "c0,0,9,0;", "pass 1", "number 0 = NO");
        EDGES.edge("16: NO: THROUGH", "c0,0,9,0;s1,1;", "pass 2", "number 0 = NO");
        EDGES.edge("16: NO: GAVE UP", "c0,0,9,0;c0,0,1,0;", "pass 1", "number 1 = NO");
        EDGES.edge("16: NO: it calls again", "c0,0,9,0;c0,0,1,0;", "pass 1", "recall 1 = 0", "number 1 = NO");
    }

    private static void again() {
        EDGES.edge("17: too small a CALLER", FIRST, "pass 3", "again {MIN,-1} 0 = BAD");
        EDGES.edge("17: too large a CALLER", FIRST, "pass 3", "again {7,8,32,MAX} 1 = BAD");
        EDGES.edge("17: too small a what", TWO, "pass 1", "again 1 {MIN,-1} = BAD");
        EDGES.edge("17: too large a what", TWO, "pass 1", "again 1 {2,3,MAX} = BAD");
        EDGES.edge("17: BAD goes ahead of NO", TWO, "again 0 {-1,2} = BAD");
        EDGES.edge("17: BAD goes ahead of NONE", "c0,0,9,0;c2,0,30,0;c2,0,30,0;c2,0,30,0;c0,0,2,0;s1,20;", "pass 1", "again 4 2 = BAD",
            "again 4 0 = NONE");
        EDGES.edge("17: NO: IDLE", TWO, "again 0 {0,1} = NO");
        EDGES.edge("17: NO: SERVED", TWO, "pass 1", "again 0 {0,1} = NO");
        EDGES.edge("17: NO: THROUGH", TWO + "s1,1;", "pass 2", "again 0 {0,1} = NO");
        EDGES.edge("17: NO: GAVE UP", "c0,0,9,0;c0,0,1,0;", "pass 1", "again 1 {0,1} = NO");
        EDGES.edge("17: NO: it calls again", "c0,0,9,0;c0,0,1,0;", "pass 1", "recall 1 = 0", "again 1 {0,1} = NO");
        EDGES.edge("17: nothing is done", TWO, "pass 1", "again 1 0 = 0", "stand 2 1", "count 1 = 1", "count 10 = 1");
    }

    private static void againPauses() {
        EDGES.edge("17: d 0, the fewest", TWO + "s1,1;", "pass 1", "again 1 0 = 0", "again 1 1 = 1");
        EDGES.edge("17: d 0, of several the lowest", TWO + "s1,5;", "pass 1", "again 1 0 = 0", "again 1 1 = 5");
        EDGES.edge("17: d 19", "c0,0,9,0;c0,0,30,0;c0,18,3,0;s1,20;", "pass 19", "again 2 0 = 19", "again 2 1 = 22");
        EDGES.edge("17: d 20, the most", "c0,0,9,0;c0,0,30,0;c0,18,2,0;s1,20;", "pass 19", "again 2 0 = 20", "again 2 1 = 22");
        EDGES.edge("17: d 21 is too many", "c0,0,9,0;c0,0,30,0;c0,17,2,0;s1,20;", "pass 18", "again 2 {0,1} = NONE");
        EDGES.edge("17: none by any d", "c0,0,9,0;c2,0,30,0;c2,0,30,0;c2,0,30,0;c0,0,2,0;s1,20;", "pass 1", "again 4 {0,1} = NONE");
    }

    private static void againSoonest() {
        EDGES.edge("17: it would give up by a lower d", "c0,0,9,0;c0,0,2,0;s1,5;", "pass 1", "again 1 0 = 3", "again 1 1 = 5");
        EDGES.edge("17: it is not AHEAD of a NERVOUS one when it HUNG UP", "c0,0,9,1;c0,0,2,1;c3,0,3,1;s1,2;", "pass 1",
            "again 1 0 = 2", "again 1 1 = 4");
        EDGES.edge("17: though it is taken as it is", TWO + "c0,0,9,0;s1,3;", "pass 1", "taken 1 = 3", "again 1 0 = 0",
            "again 1 1 = 6");
        EDGES.edge("17: last come, it is taken sooner than one who stays", "c0,0,9,0;c0,0,9,0;c0,0,9,0;s1,3;r1;", "pass 1",
            "stand 1 1 2", "taken 0 = 6", "again 0 0 = 0", "again 0 1 = 3");
        String row = "c0,0,9,0;c2,0,30,0;c2,0,30,0;c2,0,30,0;c2,3,30,0;s1,16;";
        EDGES.edge("17: 60 MINUTES from now", row, "pass 5", "again 4 0 = 0", "again 4 1 = 60");
        EDGES.edge("17: 61 MINUTES from now: none", row, "pass 4", "again 4 {0,1} = NONE");
        EDGES.edge("17: 59 MINUTES from now", row, "pass 6", "again 4 0 = 0", "again 4 1 = 59");
    }

    private static void best() {
        EDGES.edge("18: too small", FIRST, "best {MIN,-1} = BAD");
        EDGES.edge("18: too large", FIRST, "best {2,3,MAX} = BAD");
        EDGES.edge("18: 0", "c0,0,9,10;", "best 0 = 0", "best 1 = 10");
        EDGES.edge("18: 1", "c0,0,9,10;c0,0,1,20;s1,20;", "best 0 = 1", "best 1 = 20");
        EDGES.edge("18: 2", "c0,0,9,10;c0,0,1,20;c0,0,1,15;s1,20;", "best 0 = 2", "best 1 = 20");
        EDGES.edge("18: 0 though 1 and 2 are not less", "c0,0,9,10;c0,0,9,10;r2;", "best 0 = 0", "best 1 = 20", "count 8 = 2");
        EDGES.edge("18: 0, one more than by the others", "c0,0,1,11;c0,0,1,10;c0,0,1,10;s1,20;r1;", "best 0 = 0", "best 1 = 11");
        EDGES.edge("18: no WORTH", "c0,0,9,0;", "best 0 = 0", "best 1 = 0");
        EDGES.edge("18: all WORTH", "c0,0,30,60;".repeat(8) + "s4,1;", "best 0 = 0", "best 1 = 480");
    }

    private static void bestOfWhom() {
        EDGES.edge("18: nobody WAITS or is IDLE", "c0,0,1,9;s1,1;", "pass 2", "stand 3", "best 0 = 0", "best 1 = 0");
        EDGES.edge("18: not who is SERVED now", "c0,0,9,9;c0,0,9,7;", "pass 1", "best 0 = 0", "best 1 = 7");
        EDGES.edge("18: not who is THROUGH now", "c0,0,9,9;c0,9,9,7;s1,1;", "pass 2", "best 1 = 7");
        EDGES.edge("18: not who GAVE UP", "c0,0,9,9;c0,0,1,60;s1,20;", "pass 1", "best 0 = 0", "best 1 = 0");
        EDGES.edge("18: who calls again is IDLE", "c0,0,1,9;s1,1;", "pass 2", "recall 0 = 1", "best 0 = 0", "best 1 = 9");
        EDGES.edge("18: who is SERVED at the end, too", "c0,40,1,9;s1,20;", "best 1 = 9");
    }

    private static void bestBehindSixty() {
        String row = "c0,0,9,0;c2,0,30,7;c2,0,30,1;c2,0,30,1;c2,5,30,1;s1,16;";
        EDGES.edge("18: TAKEN behind 61", row, "pass 4", "taken 4 = NONE", "best 0 = 0", "best 1 = 9");
        EDGES.edge("18: TAKEN behind 60", row, "pass 5", "taken 4 = 60", "best 0 = 0", "best 1 = 10");
    }

    private static void needed() {
        EDGES.edge("19: 1", "c0,0,1,0;s4,1;", "needed = 1");
        EDGES.edge("19: 2", "c0,0,1,0;".repeat(2), "needed = 2");
        EDGES.edge("19: 3", "c0,0,1,0;".repeat(3) + "s4,1;", "needed = 3");
        EDGES.edge("19: 4", "c0,0,1,0;".repeat(4), "needed = 4");
        EDGES.edge("19: none", "c0,0,1,0;".repeat(5) + "s4,1;", "needed = NONE");
        EDGES.edge("19: nobody is left who could give up", "c0,0,1,0;s4,1;", "pass 2", "needed = 1");
        EDGES.edge("19: who GAVE UP before is none more", "c0,0,1,0;".repeat(5) + "s1,20;", "pass 1", "count 5 = 4", "needed = 1");
        EDGES.edge("19: who calls again is one more", "c0,0,9,0;c0,0,1,0;s1,20;", "pass 1", "needed = 1", "recall 1 = 0", "needed = 2");
        EDGES.edge("19: who is SERVED stays so", "c0,0,9,0;".repeat(5) + "s4,5;", "pass 1", "needed = 1");
        EDGES.edge("19: who is SERVED stays so, too long", "c0,0,9,0;".repeat(4) + "c0,0,2,0;s4,5;", "pass 1", "needed = NONE");
        EDGES.edge("19: the same as SERVE now", "c0,0,9,0;c0,0,1,0;s2,9;", "needed = 2", "count 6 = 2");
        EDGES.edge("19: one gives up behind 61", LOST_IN_60, "needed = 1");
        EDGES.edge("19: one gives up behind 60", LOST_IN_60, "pass 1", "needed = 2");
    }

    private static void lost() {
        EDGES.edge("20: none", "c0,0,1,0;", "lost = 0");
        EDGES.edge("20: one, by 1 MINUTE", "c0,0,1,0;c0,0,1,0;", "lost = 1");
        EDGES.edge("20: seven", "c0,0,1,0;".repeat(8), "lost = 7", "pass 1", "count 5 = 7", "lost = 0");
        EDGES.edge("20: who GAVE UP before is none more", "c0,0,9,0;c0,0,1,0;c0,0,2,0;s1,20;", "lost = 2", "pass 1", "lost = 1",
            "pass 1", "lost = 0");
        EDGES.edge("20: who HUNG UP is none more", "c0,0,9,0;c0,0,2,0;s1,20;", "pass 1", "lost = 1", "hang 1 = 1", "lost = 0");
        EDGES.edge("20: who calls again is one more", "c0,0,9,0;c0,0,1,0;s1,20;", "pass 1", "lost = 0", "recall 1 = 0", "lost = 1");
        EDGES.edge("20: one gives up behind 61", LOST_IN_60, "lost = 0");
        EDGES.edge("20: one gives up behind 60", LOST_IN_60, "pass 1", "lost = 1");
    }

    private static void helps() {
        EDGES.edge("21: too small", FIRST, "pass 3", "helps {MIN,-1} = BAD");
        EDGES.edge("21: too large", FIRST, "pass 3", "helps {2,3,MAX} = BAD");
        EDGES.edge("21: BAD goes ahead of NONE", FIRST, "helps {-1,2} = BAD");
        EDGES.edge("21: none: all are IDLE", FIRST, "helps {0,1} = NONE");
        EDGES.edge("21: none: one is SERVED, one GAVE UP", "c0,0,9,0;c0,0,1,0;", "pass 1", "helps {0,1} = NONE");
        EDGES.edge("21: none: one calls again", "c0,0,9,0;c0,0,1,0;", "pass 1", "recall 1 = 0", "helps {0,1} = NONE");
        EDGES.edge("21: the only one, none gives up", TWO, "pass 1", "helps 0 = 1", "helps 1 = 0");
        EDGES.edge("21: who HANGS UP is no other", "c0,0,9,0;c0,0,2,0;s1,20;", "pass 1", "lost = 1", "helps 0 = 1", "helps 1 = 0");
        EDGES.edge("21: of several the lowest", "c0,0,9,0;c0,0,3,0;c0,0,3,0;s1,20;", "pass 1", "helps 0 = 1", "helps 1 = 1");
        EDGES.edge("21: CALLER 0", "c0,1,9,0;c0,0,9,0;c0,2,3,0;s1,4;", "pass 3", "helps 0 = 0", "helps 1 = 0");
        EDGES.edge("21: CALLER 7", "c0,0,9,0;".repeat(2) + "c0,0,1,0;".repeat(5) + "c0,0,4,0;s1,20;", "pass 1", "helps 0 = 1",
            "helps 1 = 1", "hang 1 = 1", "helps 0 = 7", "helps 1 = 0");
        EDGES.edge("21: the one between", "c0,0,9,0;c0,0,9,0;c0,0,4,0;c0,0,30,0;s1,5;", "pass 1", "lost = 1", "helps 0 = 2",
            "helps 1 = 0");
        EDGES.edge("21: the highest one", "c0,0,9,0;c0,0,9,0;c0,0,30,0;c0,0,8,0;s1,5;", "pass 1", "lost = 1", "helps 0 = 3",
            "helps 1 = 0");
        EDGES.edge("21: nobody HANGS UP by it", TWO, "pass 1", "helps 0 = 1", "stand 2 1", "count 10 = 1");
    }

    private static void helpsBehindSixty() {
        EDGES.edge("21: another gives up behind 60", "c0,0,9,9;c2,0,30,0;c2,1,30,1;c2,5,30,9;c2,6,30,9;c2,10,30,9;s1,20;r2;",
            "pass 1", "helps 0 = 1", "helps 1 = 1");
        EDGES.edge("21: another gives up behind 61", "c0,0,9,9;c2,0,30,0;c2,2,30,1;c2,5,30,9;c2,6,30,9;c2,10,30,9;s1,20;r2;",
            "pass 1", "helps 0 = 1", "helps 1 = 0");
    }

    private static void longest() {
        EDGES.edge("22: too small", FIRST, "longest {MIN,-1} = BAD");
        EDGES.edge("22: too large", FIRST, "longest {2,3,MAX} = BAD");
        EDGES.edge("22: BAD goes ahead of NONE", "c0,0,9,0;", "pass 1", "longest {-1,2} = BAD");
        EDGES.edge("22: none: SERVED", "c0,0,9,0;", "pass 1", "longest {0,1} = NONE");
        EDGES.edge("22: none: THROUGH, GAVE UP", "c0,0,9,0;c0,0,1,0;s1,1;", "pass 2", "longest {0,1} = NONE");
        EDGES.edge("22: 0 MINUTES, taken at once", "c0,0,9,0;", "longest 0 = 0", "longest 1 = 0");
        EDGES.edge("22: of several the lowest, 0 MINUTES", "c0,0,9,0;c0,9,9,0;", "longest 0 = 0", "longest 1 = 0");
        EDGES.edge("22: of several the lowest", "c0,0,9,0;c0,0,2,0;c0,0,2,0;s1,20;", "longest 0 = 1", "longest 1 = 2");
        EDGES.edge("22: 60", TOLD_TILL_80, "longest 0 = 1", "longest 1 = 60");
        EDGES.edge("22: 61: behind 60 from MINUTE 1", TOLD_TILL_80, "pass 1", "longest 0 = 1", "longest 1 = 61");
        EDGES.edge("22: 80: it is taken by then", TOLD_TILL_80, "pass 40", "longest 0 = 1", "longest 1 = 80");
    }

    private static void longestOfWhom() {
        EDGES.edge("22: not who is SERVED now", TWO + "c0,15,9,0;s1,9;", "pass 9", "stand 2 4 0", "longest 0 = 2", "longest 1 = 0");
        EDGES.edge("22: not who GAVE UP before", "c0,0,9,0;c0,0,5,0;c0,18,9,0;s1,20;", "pass 6", "stand 2 4 0", "longest 0 = 2",
            "longest 1 = 2");
        EDGES.edge("22: who gives up by then", "c0,0,9,0;c0,0,3,0;s1,20;", "longest 0 = 1", "longest 1 = 3");
        EDGES.edge("22: who calls again, anew", "c0,0,9,0;c0,0,9,0;s1,20;", "pass 15", "caller 1 5 = 9", "longest 0 = NONE",
            "recall 1 = 0", "longest 0 = 1", "longest 1 = 5");
        EDGES.edge("22: the highest one", "c0,0,9,0;" + "c0,0,2,0;".repeat(6) + "c0,0,3,0;s1,20;", "longest 0 = 7", "longest 1 = 3");
    }

    private static void beyondTheLast() {
        String row = "c0,0,9,4;c0,0,9,7;s1,20;";
        String[] passes = {"24 x pass 40", "pass 38 = 998", "recall 0 = 1", "recall 1 = 0", "pass 1 = 999", "stand 2 1"};
        EDGES.edge("13: beyond the last MINUTE", row, with(passes, "behind 19 0 = 2", "behind 20 0 = 3", "behind 60 1 = 4"));
        EDGES.edge("14: beyond the last MINUTE", row, with(passes, "taken 0 = 0", "taken 1 = NONE"));
        EDGES.edge("15: beyond the last MINUTE", row, with(passes, "left 0 = 20", "left 1 = 8"));
        EDGES.edge("17: beyond the last MINUTE", row, with(passes, "again 1 0 = 11", "again 1 1 = 20"));
        EDGES.edge("18: beyond the last MINUTE", row, with(passes, "best 0 = 0", "best 1 = 0", "staff 1 = 2", "best 1 = 7"));
        EDGES.edge("19: beyond the last MINUTE", row, with(passes, "needed = 2"));
        EDGES.edge("20: beyond the last MINUTE", row, with(passes, "lost = 1", "staff 1 = 2", "lost = 0"));
        EDGES.edge("21: beyond the last MINUTE", row, with(passes, "helps 0 = 1", "helps 1 = 0"));
        EDGES.edge("22: beyond the last MINUTE", row, with(passes, "longest 0 = 1", "longest 1 = 9"));
        EDGES.edge("25: beyond the last MINUTE", row, with(passes, "seen 1 4 1 = 1", "bears 1 0 = 5", "bears 1 1 = 1", "kinds 1 = 0"));
        EDGES.edge("27: beyond the last MINUTE", row, with(passes, "likely 0 5 0 = 1", "likely 1 5 0 = 0"));
        EDGES.edge("28: beyond the last MINUTE", row, with(passes, "day 11 1 1 = 0", "count 1 = 999", "pass 1 = NO"));
    }

    private static String[] with(String[] rows, String... more) {
        String[] all = new String[rows.length + more.length];
        System.arraycopy(rows, 0, all, 0, rows.length);
        System.arraycopy(more, 0, all, rows.length, more.length);
        return all;
    }
}
