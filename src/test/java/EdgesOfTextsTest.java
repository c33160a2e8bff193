/** Boundary cases of THE TEXT, its ITEMS and FAULT, of what is LAID, and of promises 1 to 6. */
public final class EdgesOfTextsTest {
    private static final Check CHECK = new Check("EdgesOfTextsTest");
    private static final Edges EDGES = new Edges(CHECK);
    private static final String FIRST = Edges.FIRST;
    private static final String EIGHT = "c0,0,1,0;".repeat(8);

    public static void main(String[] args) {
        newObject();
        write();
        writeWhenFull();
        wipe();
        faultOfNothing();
        faultByLetter();
        faultByFigures();
        faultByParting();
        faultByHowManyNumbers();
        faultByBounds();
        faultOfTooManyCallers();
        faultOfUnfinished();
        faultIsTheFirst();
        faultChangesNothing();
        layNeedsACaller();
        layCounts();
        laySetsAllAnew();
        layForgets();
        layRefused();
        callerIsBad();
        callerTellsTheText();
        callerStands();
        callerWaited();
        callerBears();
        CHECK.end();
    }

    private static void newObject() {
        EDGES.edge("1: THE TEXT is empty", FIRST, "count 12 = 0", "wipe = 0");
        EDGES.edge("1: an empty TEXT has no FAULT", FIRST, "fault = NONE");
        EDGES.edge("1: an empty TEXT has no CALLER", FIRST, "lay = NO", "count 0 = 7");
        EDGES.edge("1: nothing can be UNDONE", FIRST, "count 10 = 0", "undo = NO");
        EDGES.edge("1: nothing is KEPT", FIRST, "count 11 = 0", "back = NO");
        EDGES.edge("1: nothing is SEEN", FIRST, "count 9 = 0", "forget = 0");
        EDGES.edge("1: MINUTE 0", FIRST, "count 1 = 0");
        EDGES.edge("1: all are IDLE", FIRST, "stand 0 0 0 0 0 0 0", "caller 7 4 = BAD");
        EDGES.edge("1: none WAITS, is SERVED, is THROUGH, GAVE UP", FIRST, "count {2,3,4,5} = 0");
        EDGES.edge("1: s1,4;r0;", FIRST, "count 6 = 1", "count 7 = 4", "count 8 = 0");
        EDGES.edge("1: another object is as told, too", FIRST, "pass 9", "text r0;", "seen 0 1 1", "keep");
        EDGES.edge("1: as told once more", FIRST, "count 1 = 0", "count 9 = 0", "count 11 = 0", "count 12 = 0");
        String[] callers = {"0 0 6 10", "1 0 4 25", "2 1 3 8", "3 2 9 40", "0 2 5 12", "1 6 2 30", "0 9 3 5"};
        for (int c = 0; c < callers.length; c++) {
            String[] numbers = callers[c].split(" ");
            for (int what = 0; what < 4; what++) {
                EDGES.edge("1: the CALLERS at first", FIRST, "caller " + c + " " + what + " = " + numbers[what]);
            }
        }
    }

    private static void write() {
        EDGES.edge("2: too small a letter", FIRST, "write {MIN,-1,0,9,31} = BAD", "count 12 = 0");
        EDGES.edge("2: too large a letter", FIRST, "write {127,128,255,256,MAX} = BAD", "count 12 = 0");
        EDGES.edge("2: no letter by wrap-around", FIRST, "write {65568,65635,-65437,131134} = BAD", "count 12 = 0");
        EDGES.edge("2: the smallest letter", FIRST, "write 32 = 1", "count 12 = 1");
        EDGES.edge("2: the largest letter", FIRST, "write 126 = 1", "count 12 = 1");
        EDGES.edge("2: behind THE TEXT", FIRST, "write 114 = 1", "write 50 = 2", "write 59 = 3", "fault = NONE");
        EDGES.edge("2: a refused letter does not come", FIRST, "write 114 = 1", "write {31,127} = BAD", "write 50 = 2",
            "write 59 = 3", "fault = NONE");
    }

    private static void writeWhenFull() {
        EDGES.edge("2: 200 letters at most", FIRST, "199 x write 114", "write 114 = 200", "count 12 = 200");
        EDGES.edge("2: FULL", FIRST, "200 x write 114", "write {32,114,126} = FULL", "count 12 = 200");
        EDGES.edge("2: FULL again and again", FIRST, "200 x write 114", "9 x write 114 = FULL", "count 12 = 200");
        EDGES.edge("2: BAD goes ahead of FULL", FIRST, "200 x write 114", "write {MIN,-1,31,127,MAX} = BAD");
        EDGES.edge("2: what was refused does not end the last ITEM", FIRST, "text " + "r0;".repeat(66) + "r0",
            "write 59 = FULL", "fault = 198");
        EDGES.edge("2: the 200th letter ends the last ITEM", FIRST, "text " + "r0;".repeat(65) + "s4,1;",
            "count 12 = 200", "fault = NONE");
        EDGES.edge("2: not FULL any more", FIRST, "200 x write 114", "wipe = 200", "write 114 = 1");
    }

    private static void wipe() {
        EDGES.edge("3: of an empty one", FIRST, "wipe = 0", "wipe = 0");
        EDGES.edge("3: of one letter", FIRST, "write 126 = 1", "wipe = 1", "count 12 = 0");
        EDGES.edge("3: of a full one", FIRST, "200 x write 32", "wipe = 200", "wipe = 0");
        EDGES.edge("3: no FAULT stays", FIRST, "text x", "fault = 0", "wipe = 1", "fault = NONE");
        EDGES.edge("3: no CALLER stays in it", FIRST, "text c0,0,1,0;", "wipe = 9", "lay = NO");
        EDGES.edge("3: letters of before are not behind it", FIRST, "text r0;", "wipe = 3", "text r0", "fault = 0");
        EDGES.edge("3: the CALLERS stay", FIRST, "pass 3", "wipe = 0", "count 0 = 7", "count 1 = 3");
        EDGES.edge("3: what was laid stays", "c0,0,1,0;s3,2;", "wipe = 14", "count 0 = 1", "count 6 = 3");
    }

    private static void fault(String sentence, String text, int due) {
        String answer = due == Check.NONE ? "NONE" : "" + due;
        EDGES.edge(sentence + ": " + text, FIRST, "text " + text, "fault = " + answer, "count 12 = " + text.length());
        if (due != Check.NONE) {
            EDGES.edge("5: not with a FAULT: " + text, FIRST, "text " + text, "lay = NO", "count 0 = 7");
        }
    }

    /** None of these items is so, wherever it stands. */
    private static void faulty(String sentence, String... items) {
        for (String item : items) {
            fault(sentence, item, 0);
            fault(sentence, "c0,0,1,0;" + item, 9);
            fault(sentence, item + "r0;", 0);
        }
    }

    private static void right(String sentence, String... items) {
        for (String item : items) {
            fault(sentence, item, Check.NONE);
            fault(sentence, item + item, Check.NONE);
            fault(sentence, "r2;" + item + "s4,20;", Check.NONE);
        }
    }

    private static void faultOfNothing() {
        EDGES.edge("4: an empty TEXT", FIRST, "fault = NONE");
        fault("4: no CALLER is no FAULT", "s1,1;r0;", Check.NONE);
    }

    private static void faultByLetter() {
        right("4: c, s, r", "c0,0,1,0;", "s1,1;", "r0;");
        faulty("4: another letter", "C0,0,1,0;", "S1,1;", "R0;", "b0,0,1,0;", "d0,0,1,0;", "q0;", "t1,1;", "x0;");
        faulty("4: no letter", ";", ",", "0", "0;", " ", "~", "/", ":", " r0;", "0r0;", ",r0;", ";r0;");
        faulty("4: two letters", "rr0;", "cs1,1;", "sc0,0,1,0;", "c0,0,1,0r;", "s1,1s;", "r0r;");
        fault("4: a sign between ITEMS", "r0; r0;", 3);
        fault("4: a sign between ITEMS", "r0;,r0;", 3);
        fault("4: a sign between ITEMS", "r0;;r0;", 3);
        fault("4: a sign behind all", "r0; ", 3);
    }

    private static void faultByFigures() {
        right("4: one figure or two", "c3,9,9,9;", "c03,09,09,09;", "c00,00,01,00;", "c1,40,30,60;", "s4,9;", "s04,09;",
            "s1,10;", "s01,20;", "r2;", "r02;", "r00;");
        faulty("4: no figure", "c,0,1,0;", "c0,,1,0;", "c0,0,,0;", "c0,0,1,;", "s,1;", "s1,;", "r;", "c,,,;", "s,;");
        faulty("4: three figures", "c000,0,1,0;", "c0,000,1,0;", "c0,0,001,0;", "c0,0,1,000;", "s001,1;", "s1,001;",
            "r000;", "r002;", "s1,0001;");
        faulty("4: no figures", "c/,0,1,0;", "c:,0,1,0;", "c0,0,1,/;", "c0,0,1,:;", "s1,a;", "s:,1;", "r/;", "r:;", "ra;",
            "r-1;", "r+1;", "r.;", "r 0;", "r0 ;", "s1, 1;", "s1 ,1;", "r1/;", "r1:;", "r/1;", "r:1;", "r0.;");
    }

    private static void faultByParting() {
        faulty("4: parted by another sign", "c0;0,1,0;", "c0,0;1,0;", "c0,0,1;0;", "c0.0,1,0;", "c0,0-1,0;", "c0,0,1+0;",
            "s1;1;", "s1.1;", "s1-1;", "s1 1;");
        faulty("4: parted twice", "c0,,0,1,0;", "c0,0,1,,0;", "s1,,1;", "r,0;", "c,0,0,1,0;", "s,1,1;");
        faulty("4: another sign behind the last one", "c0,0,1,0,", "c0,0,1,0:", "s1,1,", "s1,1:", "r0,", "r0:", "r0.");
        faulty("4: a sign too many behind the last one", "c0,0,1,0,;", "s1,1,;", "r0,;");
    }

    private static void faultByHowManyNumbers() {
        faulty("4: too few", "c;", "c0;", "c0,0;", "c0,0,1;", "s;", "s1;", "r;");
        faulty("4: too many", "c0,0,1,0,0;", "c0,0,1,0,0,0;", "s1,1,1;", "s1,1,1,1;", "r0,0;", "r0,0,1,0;");
    }

    private static void faultByBounds() {
        right("4: KIND", "c0,0,1,0;", "c1,0,1,0;", "c2,0,1,0;", "c3,0,1,0;");
        faulty("4: KIND", "c4,0,1,0;", "c9,0,1,0;", "c10,0,1,0;", "c99,0,1,0;");
        right("4: MINUTE", "c0,0,1,0;", "c0,40,1,0;");
        faulty("4: MINUTE", "c0,41,1,0;", "c0,99,1,0;");
        right("4: bears", "c0,0,1,0;", "c0,0,30,0;");
        faulty("4: bears", "c0,0,0,0;", "c0,0,00,0;", "c0,0,31,0;", "c0,0,99,0;");
        right("4: WORTH", "c0,0,1,0;", "c0,0,1,60;");
        faulty("4: WORTH", "c0,0,1,61;", "c0,0,1,99;");
        right("4: SERVE", "s1,1;", "s4,1;");
        faulty("4: SERVE", "s0,1;", "s00,1;", "s5,1;", "s10,1;", "s99,1;");
        right("4: MINUTES", "s1,1;", "s1,20;");
        faulty("4: MINUTES", "s1,0;", "s1,00;", "s1,21;", "s1,99;");
        right("4: RULE", "r0;", "r1;", "r2;");
        faulty("4: RULE", "r3;", "r9;", "r10;", "r99;");
    }

    private static void faultOfTooManyCallers() {
        fault("4: seven CALLERS", "c0,0,1,0;".repeat(7), Check.NONE);
        fault("4: eight CALLERS", EIGHT, Check.NONE);
        fault("4: eight CALLERS, other ITEMS behind them", EIGHT + "s4,20;r2;", Check.NONE);
        fault("4: a ninth CALLER", EIGHT + "c0,0,1,0;", 72);
        fault("4: a ninth CALLER behind other ITEMS", "r1;" + EIGHT + "s4,20;c0,0,1,0;", 81);
        fault("4: a ninth CALLER that is not so", EIGHT + "c4,0,1,0;", 72);
        fault("4: a ninth CALLER not ended", EIGHT + "c", 72);
        fault("4: the FAULT ahead of a ninth CALLER", EIGHT + "r3;c0,0,1,0;", 72);
        fault("4: a FAULT among eight CALLERS", "c0,0,1,0;".repeat(7) + "c0,0,1,61;c0,0,1,0;", 63);
    }

    private static void faultOfUnfinished() {
        String[] items = {"c3,40,30,60;", "c0,0,1,0;", "s4,20;", "s1,1;", "r2;", "r02;"};
        for (String item : items) {
            for (int length = 1; length < item.length(); length++) {
                fault("4: not ended", item.substring(0, length), 0);
                fault("4: not ended", "s1,1;" + item.substring(0, length), 5);
            }
        }
        String almost = "r0;".repeat(65);
        for (int length = 1; length < 5; length++) {
            fault("4: not ended", almost + "s4,1;".substring(0, length), 195);
        }
        fault("4: not ended when FULL", almost + "c0,0,", 195);
        fault("4: not ended when FULL", almost + "s4,20", 195);
        fault("4: not ended when FULL", "r0;".repeat(66) + "r0", 198);
        fault("4: not begun when FULL", "r0;".repeat(66) + "r;", 198);
        fault("4: in the last place", "r0;".repeat(65) + "r00;x", 199);
    }

    private static void faultIsTheFirst() {
        fault("4: the first of two", "x;y;", 0);
        fault("4: the first of two", "r0;r3;s5,1;", 3);
        fault("4: the first of two", "r0;r3;", 3);
        fault("4: the place of the ITEM, not of its number", "r0;c0,0,1,61;", 3);
        fault("4: the place of the ITEM, not of its end", "c0,0,1,0;s4,20", 9);
        fault("4: of several which count no more, too", "s0,1;s1,1;", 0);
        fault("4: of several which count no more, too", "r3;r0;", 0);
        fault("4: what looks right in it is none", "cc0,0,1,0;", 0);
    }

    private static void faultChangesNothing() {
        EDGES.edge("4: asked twice", FIRST, "text " + EIGHT, "fault = NONE", "fault = NONE", "lay = 8");
        EDGES.edge("4: nothing is LAID by it", FIRST, "pass 3", "text c0,0,1,0;s4,9;r2;", "fault = NONE", "count 0 = 7",
            "count 1 = 3", "count 6 = 1", "count 7 = 4", "count 8 = 0", "caller 1 0 = 1");
        EDGES.edge("4: the FAULT is mended by a letter more", FIRST, "text r0", "fault = 0", "write 59 = 3",
            "fault = NONE");
    }

    private static void layNeedsACaller() {
        EDGES.edge("5: no ITEM", FIRST, "lay = NO", "count 0 = 7");
        EDGES.edge("5: no CALLER", FIRST, "text s4,20;r2;", "fault = NONE", "lay = NO", "count 0 = 7", "count 6 = 1");
        EDGES.edge("5: one CALLER", FIRST, "text c0,0,1,0;", "lay = 1", "count 0 = 1", "caller 0 0 = 0", "caller 1 0 = BAD");
        EDGES.edge("5: eight CALLERS", FIRST, "text " + EIGHT, "lay = 8", "count 0 = 8", "caller 7 0 = 0", "caller 8 0 = BAD");
        EDGES.edge("5: nine CALLERS", FIRST, "text " + EIGHT + "c0,0,1,0;", "lay = NO", "count 0 = 7");
        EDGES.edge("5: a CALLER behind the other ITEMS", FIRST, "text s4,20;r2;c0,0,1,0;", "lay = 1", "count 0 = 1");
        EDGES.edge("5: a CALLER, then a FAULT", FIRST, "text c0,0,1,0;x", "lay = NO", "count 0 = 7");
        EDGES.edge("5: wiped", FIRST, "text c0,0,1,0;", "wipe = 9", "lay = NO", "count 0 = 7");
    }

    private static void layCounts() {
        EDGES.edge("5: 1, 5 without s", "c0,0,1,0;r2;", "count 6 = 1", "count 7 = 5", "count 8 = 2");
        EDGES.edge("5: 0 without r", "c0,0,1,0;s4,20;", "count 6 = 4", "count 7 = 20", "count 8 = 0");
        EDGES.edge("5: of several s the last one", "s4,20;c0,0,1,0;s2,3;s3,1;", "count 6 = 3", "count 7 = 1");
        EDGES.edge("5: of several s the last one, be it less", "c0,0,1,0;s4,20;s1,1;", "count 6 = 1", "count 7 = 1");
        EDGES.edge("5: of several r the last one", "r2;c0,0,1,0;r1;", "count 8 = 1");
        EDGES.edge("5: of several r the last one, be it 0", "r1;r2;c0,0,1,0;r0;", "count 8 = 0");
        EDGES.edge("5: s does not stay from before", "c0,0,1,0;s4,20;r2;", "wipe", "text c0,0,1,0;", "lay = 1", "count 6 = 1",
            "count 7 = 5", "count 8 = 0");
        EDGES.edge("5: CALLERS in the order of THE TEXT", "c1,2,3,4;s1,1;c2,3,4,5;r0;c3,4,5,6;", "caller 0 3 = 4",
            "caller 1 3 = 5", "caller 2 3 = 6", "caller 3 3 = BAD");
    }

    private static void laySetsAllAnew() {
        EDGES.edge("5: MINUTE 0", "c0,0,1,0;", "pass 40 = 40", "lay = 1", "count 1 = 0");
        EDGES.edge("5: MINUTE 0 behind the last that may go by", "c0,0,1,0;", "24 x pass 40", "pass 39 = 999", "lay = 1",
            "count 1 = 0", "pass 40 = 40");
        EDGES.edge("5: all IDLE", "c0,0,9,0;c0,0,9,0;c0,0,1,0;s1,1;", "pass 1 = 1", "stand 2 1 4", "pass 1 = 2",
            "stand 3 2 4", "lay = 3", "stand 0 0 0");
        EDGES.edge("5: none WAITED", "c0,0,9,0;c0,0,9,0;", "pass 3", "caller 1 5 = 3", "lay = 2", "caller 1 5 = 0");
        EDGES.edge("5: all come anew", "c0,0,9,0;c0,1,9,0;s2,9;", "pass 9", "stand 2 2", "lay = 2", "pass 1 = 1", "stand 2 0",
            "pass 1 = 2", "stand 2 2");
        EDGES.edge("5: who called again calls by THE TEXT", "c0,0,1,0;c0,2,1,0;s1,1;", "pass 4", "stand 3 3", "recall 1 = 1",
            "lay = 2", "pass 2 = 2", "stand 3 0", "pass 1 = 3", "stand 3 2");
        EDGES.edge("5: one more who SERVES is none more", "c0,0,1,0;s2,3;", "staff 1 = 3", "lay = 1", "count 6 = 2");
        EDGES.edge("5: another RULE is no more", "c0,0,1,0;r1;", "rule 2 = 1", "lay = 1", "count 8 = 1");
        EDGES.edge("5: in a MINUTE of other CALLERS", FIRST, "pass 5", "text c0,4,1,0;s1,1;", "lay = 1", "pass 4 = 4",
            "stand 0", "pass 1 = 5", "stand 2", "caller 1 4 = BAD");
    }

    private static void layForgets() {
        EDGES.edge("5: nothing SEEN", "c0,0,1,0;", "6 x seen 0 1 1", "lay = 1", "count 9 = 0", "bears 0 0 = 30", "forget = 0");
        EDGES.edge("5: nothing UNDONE", "c0,0,1,0;", "9 x pass 1", "lay = 1", "count 10 = 0", "undo = NO", "count 1 = 0");
        EDGES.edge("5: nothing KEPT", "c0,0,1,0;", "2 x keep", "lay = 1", "count 11 = 0", "back = NO", "keep = 1");
        EDGES.edge("5: THE TEXT stays", FIRST, "text c0,0,1,0;", "lay = 1", "count 12 = 9", "lay = 1", "wipe = 9");
        EDGES.edge("5: LAID itself is not UNDONE", FIRST, "pass 1", "text c0,0,1,0;", "lay = 1", "undo = NO", "count 0 = 1");
        EDGES.edge("5: all anew can be UNDONE then", "c0,0,1,0;", "8 x pass 1", "lay = 1", "pass 2 = 2", "count 10 = 1",
            "undo = 0", "count 1 = 0", "undo = NO");
    }

    private static void layRefused() {
        EDGES.edge("5: NO changes nothing", FIRST, "pass 3", "staff 1", "seen 0 1 1", "keep", "text c0,0,1,0;r3;", "lay = NO",
            "count 0 = 7", "count 1 = 3", "count 6 = 2", "count 9 = 1", "count 10 = 2", "count 11 = 1", "count 12 = 12",
            "stand 2 1 1 1 1 0 0");
        EDGES.edge("5: NO of an empty TEXT changes nothing", FIRST, "pass 3", "lay = NO", "count 1 = 3", "undo = 0");
    }

    private static void callerIsBad() {
        EDGES.edge("6: too small a CALLER", FIRST, "caller {MIN,-32,-8,-1} 0 = BAD");
        EDGES.edge("6: too large a CALLER", FIRST, "caller {7,8,32,256,MAX} 0 = BAD");
        EDGES.edge("6: BAD for the CALLER, whatever is asked", FIRST, "caller 7 {0,1,2,3,4,5,6} = BAD");
        EDGES.edge("6: one CALLER alone", "c0,0,1,0;", "caller 0 2 = 1", "caller {-1,1,2,7} 2 = BAD");
        EDGES.edge("6: too small a what", FIRST, "caller 0 {MIN,-4,-1} = BAD");
        EDGES.edge("6: too large a what", FIRST, "caller 0 {7,8,13,MAX} = BAD");
        EDGES.edge("6: too large a what of one who WAITS", "c0,0,9,0;c0,0,9,0;", "pass 1", "caller 1 {-1,7} = BAD");
    }

    private static void callerTellsTheText() {
        EDGES.edge("6: the least of all", "c0,0,1,0;", "caller 0 0 = 0", "caller 0 1 = 0", "caller 0 2 = 1", "caller 0 3 = 0");
        EDGES.edge("6: the most of all", "c3,40,30,60;", "caller 0 0 = 3", "caller 0 1 = 40", "caller 0 2 = 30",
            "caller 0 3 = 60");
        EDGES.edge("6: two figures with a 0", "c02,04,05,06;", "caller 0 0 = 2", "caller 0 1 = 4", "caller 0 2 = 5",
            "caller 0 3 = 6");
        EDGES.edge("6: the first and the last of eight", "c1,2,3,4;" + "c0,0,1,0;".repeat(6) + "c2,39,29,59;", "caller 0 0 = 1",
            "caller 0 1 = 2", "caller 0 2 = 3", "caller 0 3 = 4", "caller 7 0 = 2", "caller 7 1 = 39", "caller 7 2 = 29",
            "caller 7 3 = 59");
        EDGES.edge("6: the same when it is THROUGH", "c3,1,2,3;s1,1;", "pass 9", "caller 0 0 = 3", "caller 0 1 = 1",
            "caller 0 2 = 2", "caller 0 3 = 3");
    }

    private static void callerStands() {
        EDGES.edge("6: 0 IDLE till it calls", "c0,2,9,0;", "caller 0 4 = 0", "pass 2", "caller 0 4 = 0");
        EDGES.edge("6: 1 WAITS", "c0,0,9,0;c0,0,9,0;", "pass 1", "caller 1 4 = 1");
        EDGES.edge("6: 2 SERVED", "c0,0,9,0;", "pass 1", "caller 0 4 = 2");
        EDGES.edge("6: 3 THROUGH", "c0,0,9,0;s1,1;", "pass 2", "caller 0 4 = 3");
        EDGES.edge("6: 4 GAVE UP", "c0,0,9,0;c0,0,1,0;", "pass 1", "caller 1 4 = 4");
        EDGES.edge("6: 0 IDLE when it calls again", "c0,0,9,0;s1,1;", "pass 2", "recall 0 = 1", "caller 0 4 = 0");
    }

    private static void callerWaited() {
        EDGES.edge("6: IDLE yet, it WAITED 0", "c0,1,9,0;", "pass 1", "caller 0 5 = 0");
        EDGES.edge("6: taken at once, it WAITED 0", "c0,0,9,0;s1,1;", "pass 1", "caller 0 5 = 0", "pass 1", "caller 0 5 = 0");
        EDGES.edge("6: not taken at once, it has WAITED 1", "c0,0,9,0;c0,0,9,0;", "pass 1", "caller 1 5 = 1");
        EDGES.edge("6: taken behind a MINUTE, it WAITED 1", "c0,0,9,0;c0,0,9,0;s1,1;", "pass 2", "caller 1 4 = 2",
            "caller 1 5 = 1", "pass 3", "caller 1 4 = 3", "caller 1 5 = 1");
        EDGES.edge("6: GAVE UP, it WAITED as long as it bore it", "c0,0,9,0;c0,0,3,0;s1,20;", "pass 9", "caller 1 5 = 3");
        EDGES.edge("6: it calls again, what it WAITED last stays till it comes", "c0,0,9,0;c0,0,3,0;s1,20;", "pass 9",
            "recall 1 = 0", "caller 1 5 = 3", "pass 1", "caller 1 5 = 1");
        EDGES.edge("6: the longest that one WAITED", "c0,0,9,9;c2,0,30,0;c0,10,30,9;c0,30,30,9;s1,20;r2;", "pass 40",
            "pass 19", "caller 1 5 = 59", "caller 1 4 = 1", "pass 1", "caller 1 5 = 60", "caller 1 4 = 4");
    }

    private static void callerBears() {
        EDGES.edge("6: NONE: IDLE", "c0,1,9,0;", "caller 0 6 = NONE");
        EDGES.edge("6: NONE: SERVED", "c0,0,9,0;", "pass 1", "caller 0 6 = NONE");
        EDGES.edge("6: NONE: THROUGH", "c0,0,9,0;s1,1;", "pass 2", "caller 0 6 = NONE");
        EDGES.edge("6: NONE: GAVE UP", "c0,0,9,0;c0,0,1,0;", "pass 1", "caller 1 6 = NONE");
        EDGES.edge("6: NONE: it calls again", "c0,0,9,0;c0,0,1,0;", "pass 1", "recall 1 = 0", "caller 1 6 = NONE");
        EDGES.edge("6: PLAIN", "c0,0,9,0;c0,0,30,0;c0,0,2,0;c0,0,30,0;", "pass 1", "caller 1 6 = 30", "caller 2 6 = 2",
            "caller 3 6 = 30");
        EDGES.edge("6: TOLD, none AHEAD", "c0,0,9,0;c1,0,2,0;", "pass 1", "caller 1 6 = NONE");
        EDGES.edge("6: TOLD, one AHEAD", "c0,0,9,0;c0,0,9,0;c1,0,2,0;", "pass 1", "caller 2 6 = NONE");
        EDGES.edge("6: TOLD, two AHEAD", "c0,0,9,0;c0,0,9,0;c0,0,9,0;c1,0,2,0;", "pass 1", "caller 3 6 = 2");
        EDGES.edge("6: TOLD, three AHEAD", "c0,0,9,0;c0,0,9,0;c0,0,9,0;c0,0,9,0;c1,0,30,0;", "pass 1", "caller 4 6 = 30");
        EDGES.edge("6: COOKING, twice", "c0,0,9,0;c2,0,1,0;c2,0,30,0;", "pass 1", "caller 1 6 = 2", "caller 2 6 = 60");
        EDGES.edge("6: NERVOUS, none AHEAD", "c0,0,9,0;c3,0,30,0;", "pass 1", "caller 1 6 = 30");
        EDGES.edge("6: NERVOUS, one AHEAD", "c0,0,9,0;c0,0,9,0;c3,0,30,0;", "pass 1", "caller 2 6 = 29");
        EDGES.edge("6: NERVOUS, none AHEAD by the RULE", "c0,0,9,9;c0,0,9,0;c3,0,2,5;r2;", "pass 1", "caller 2 6 = 2");
        String behindOne = ",0;c0,0,9,0;c0,0,9,0;";
        EDGES.edge("6: NERVOUS, P less two is 2", "c0,0,9,0;c3,0,4" + behindOne, "pass 1", "rule 1 = 0", "caller 1 6 = 2");
        EDGES.edge("6: NERVOUS, P less two is 1", "c0,0,9,0;c3,0,3" + behindOne, "pass 1", "rule 1 = 0", "caller 1 6 = 1");
        EDGES.edge("6: NERVOUS, P less two is 0", "c0,0,9,0;c3,0,2" + behindOne, "pass 1", "rule 1 = 0", "caller 1 6 = 1");
        EDGES.edge("6: NERVOUS, P less three is below 0", "c0,0,9,0;c3,0,2" + behindOne + "c0,0,9,0;", "pass 1",
            "rule 1 = 0", "caller 1 6 = 1");
        EDGES.edge("6: NERVOUS, six AHEAD", "c0,0,9,0;".repeat(7) + "c3,0,30,0;", "pass 1", "caller 7 6 = 24");
        EDGES.edge("6: NERVOUS, more AHEAD by another RULE", "c0,0,9,0;c3,0,4,0;" + "c0,0,9,0;".repeat(6), "pass 1",
            "caller 1 6 = 4", "rule 1 = 0", "caller 1 6 = 1", "rule 0 = 1", "caller 1 6 = 4");
        EDGES.edge("6: SERVED ones are not AHEAD", "c0,0,9,0;c0,0,9,0;c0,0,9,0;c3,0,9,0;s3,9;", "pass 1", "caller 3 6 = 9");
        EDGES.edge("6: who GAVE UP is not AHEAD", "c0,0,9,0;c0,0,1,0;c3,0,9,0;", "pass 1", "caller 2 6 = 9");
    }
}
