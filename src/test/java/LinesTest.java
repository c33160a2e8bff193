/** Promises 1 to 6: a new object, write, wipe, fault, lay, caller. */
public final class LinesTest {
    private static final Check CHECK = new Check("LinesTest");

    public static void main(String[] args) {
        newObject();
        constants();
        write();
        writeIsFull();
        wipe();
        fault();
        faultAtFirstBadItem();
        faultBehindOtherTexts();
        lay();
        layOfDefaults();
        layForgetsAll();
        layRefused();
        caller();
        callerBears();
        CHECK.end();
    }

    private static void newObject() {
        NumberEleven x = new NumberEleven();
        int[] counts = {7, 0, 0, 0, 0, 0, 1, 4, 0, 0, 0, 0, 0};
        for (int what = 0; what < counts.length; what++) {
            CHECK.due("new: count(" + what + ")", x.count(what), counts[what]);
        }
        int[][] callers = {{0, 0, 6, 10}, {1, 0, 4, 25}, {2, 1, 3, 8}, {3, 2, 9, 40},
            {0, 2, 5, 12}, {1, 6, 2, 30}, {0, 9, 3, 5}};
        for (int c = 0; c < callers.length; c++) {
            for (int what = 0; what < 4; what++) {
                CHECK.due("new: caller(" + c + ", " + what + ")", x.caller(c, what), callers[c][what]);
            }
            CHECK.due("new: caller(" + c + ", 4)", x.caller(c, 4), 0);
            CHECK.due("new: caller(" + c + ", 5)", x.caller(c, 5), 0);
            CHECK.due("new: caller(" + c + ", 6)", x.caller(c, 6), Check.NONE);
        }
        CHECK.due("new: fault()", x.fault(), Check.NONE);
        CHECK.due("new: wipe()", x.wipe(), 0);
        CHECK.due("new: lay()", x.lay(), Check.NO);
        CHECK.due("new: undo()", x.undo(), Check.NO);
        CHECK.due("new: back()", x.back(), Check.NO);
        CHECK.due("new: count(0)", x.count(0), 7);
    }

    private static void constants() {
        CHECK.due("BAD", NumberEleven.BAD, -1);
        CHECK.due("NO", NumberEleven.NO, -2);
        CHECK.due("FULL", NumberEleven.FULL, -3);
        CHECK.due("NONE", NumberEleven.NONE, -4);
    }

    private static void write() {
        NumberEleven x = new NumberEleven();
        CHECK.due("write(32)", x.write(32), 1);
        CHECK.due("write(126)", x.write(126), 2);
        CHECK.due("write(31)", x.write(31), Check.BAD);
        CHECK.due("write(127)", x.write(127), Check.BAD);
        CHECK.due("write(0)", x.write(0), Check.BAD);
        CHECK.due("write(65536 + 99)", x.write(65536 + 99), Check.BAD);
        for (int wild : Check.WILD) {
            CHECK.due("write(" + wild + ")", x.write(wild), Check.BAD);
        }
        CHECK.due("count(12)", x.count(12), 2);
        CHECK.due("write('c')", x.write('c'), 3);
    }

    private static void writeIsFull() {
        NumberEleven x = new NumberEleven();
        for (int i = 1; i <= 200; i++) {
            CHECK.due("write " + i, x.write('r'), i);
        }
        CHECK.due("write the 201st", x.write('r'), Check.FULL);
        CHECK.due("write a bad one", x.write(10), Check.BAD);
        CHECK.due("count(12)", x.count(12), 200);
        CHECK.due("wipe()", x.wipe(), 200);
        CHECK.due("write after wipe", x.write('r'), 1);
    }

    private static void wipe() {
        NumberEleven x = new NumberEleven();
        Check.write(x, "zz");
        CHECK.due("wipe()", x.wipe(), 2);
        CHECK.due("wipe() again", x.wipe(), 0);
        CHECK.due("count(12)", x.count(12), 0);
        CHECK.due("fault() of nothing", x.fault(), Check.NONE);
        Check.write(x, "r1;");
        CHECK.due("fault() of what came then", x.fault(), Check.NONE);
        CHECK.due("count(12)", x.count(12), 3);
    }

    private static void faultOf(String text, int want) {
        NumberEleven x = new NumberEleven();
        Check.write(x, text);
        CHECK.due("fault() of " + text, x.fault(), want);
        CHECK.due("count(12) behind fault() of " + text, x.count(12), text.length());
    }

    private static void fault() {
        String[] right = {"", "c0,0,1,0;", "c3,40,30,60;", "c03,00,01,09;", "s1,1;", "s4,20;", "s04,01;", "r0;",
            "r2;", "r02;", "r0;r1;r2;", "s1,1;s2,2;", "c1,1,1,1;c2,2,2,2;"};
        for (String text : right) {
            faultOf(text, Check.NONE);
        }
        String[] wrong = {"c4,0,1,0;", "c0,41,1,0;", "c0,0,0,0;", "c0,0,31,0;", "c0,0,1,61;", "s0,1;", "s5,1;",
            "s1,0;", "s1,21;", "r3;", "c", "c0", "c0,", "c0,0", "c0,0,1,0", "c0,0,1;", "c0,0,1,0,", "c0,0,1,0,0;",
            "c000,0,1,0;", "c0,0,001,0;", "s1;", "s1,1,1;", "s1,1", "s,;", "r", "r1", "r;", "r1,1;", "r001;", "r1,",
            "C0,0,1,0;", "x1;", ";", ",", " ", "1", "r 1;", "r1 ;", "r-1;", "c0;0;1;0;", "c0,,1,0;", "r1:", "r/;", "s1,;", "s1,:;",
            "s,1;", "c0,0,1,;", "c0,0,:,0;", "c:,0,1,0;", "s1,1:;", "s1,/9;", "c,0,1,0;"};
        for (String text : wrong) {
            faultOf(text, 0);
        }
    }

    private static void faultAtFirstBadItem() {
        faultOf("r1;r3;", 3);
        faultOf("r1;r3;x", 3);
        faultOf("r1;;", 3);
        faultOf("r1; r1;", 3);
        faultOf("c0,0,1,0;s1,2;r0", 14);
        faultOf("c0,0,1,0;s5,2;r9;", 9);
        String eight = "c0,0,1,0;".repeat(8);
        faultOf(eight, Check.NONE);
        faultOf(eight + "r1;", Check.NONE);
        faultOf(eight + "c0,0,1,0;", 72);
        faultOf(eight + "r1;c0,0,1,0;r9;", 75);
    }

    private static void faultBehindOtherTexts() {
        NumberEleven x = new NumberEleven();
        Check.write(x, "r1;");
        x.wipe();
        Check.write(x, "r1");
        CHECK.due("what was wiped does not end it", x.fault(), 0);
        x.wipe();
        Check.write(x, "c0,0,1,0;".repeat(8));
        CHECK.due("eight", x.fault(), Check.NONE);
        CHECK.due("eight once more", x.fault(), Check.NONE);
        faultOf("r1;".repeat(66) + "r1", 198);
        faultOf("r1;".repeat(66) + "r;", 198);
        faultOf("r1;".repeat(65) + "c0,0,", 195);
        faultOf("r1;".repeat(65) + "s4,20", 195);
        faultOf("r1;".repeat(66) + "rr", 198);
        faultOf("r1;".repeat(65) + "s4,1;", Check.NONE);
    }

    private static void lay() {
        NumberEleven x = Check.laid("c3,40,30,60;s2,7;r1;c0,1,2,3;s3,20;r2;");
        CHECK.due("count(0)", x.count(0), 2);
        CHECK.due("count(6): the last one counts", x.count(6), 3);
        CHECK.due("count(7): the last one counts", x.count(7), 20);
        CHECK.due("count(8): the last one counts", x.count(8), 2);
        CHECK.due("count(12): the text stays", x.count(12), 38);
        int[][] callers = {{3, 40, 30, 60}, {0, 1, 2, 3}};
        for (int c = 0; c < 2; c++) {
            for (int what = 0; what < 4; what++) {
                CHECK.due("laid: caller(" + c + ", " + what + ")", x.caller(c, what), callers[c][what]);
            }
        }
        CHECK.due("lay() once more", x.lay(), 2);
        CHECK.due("eight", Check.laid("c0,0,1,0;".repeat(8)).count(0), 8);
    }

    private static void layOfDefaults() {
        NumberEleven x = Check.laid("c0,0,1,0;");
        CHECK.due("count(0)", x.count(0), 1);
        CHECK.due("count(6) without s", x.count(6), 1);
        CHECK.due("count(7) without s", x.count(7), 5);
        CHECK.due("count(8) without r", x.count(8), 0);
        x = Check.laid("c0,0,1,0;s4,20;r2;");
        x.wipe();
        Check.write(x, "c0,0,1,0;");
        x.lay();
        CHECK.due("count(6) without s, laid anew", x.count(6), 1);
        CHECK.due("count(7) without s, laid anew", x.count(7), 5);
        CHECK.due("count(8) without r, laid anew", x.count(8), 0);
    }

    private static void layForgetsAll() {
        NumberEleven x = new NumberEleven();
        Check.write(x, "c0,0,1,0;c0,9,1,0;c0,9,1,0;");
        x.pass(3);
        x.staff(1);
        x.rule(2);
        x.keep();
        x.seen(0, 1, 1);
        CHECK.due("lay()", x.lay(), 3);
        int[] counts = {3, 0, 0, 0, 0, 0, 1, 5, 0, 0, 0, 0, 27};
        for (int what = 0; what < counts.length; what++) {
            CHECK.due("laid: count(" + what + ")", x.count(what), counts[what]);
        }
        CHECK.due("undo()", x.undo(), Check.NO);
        CHECK.due("back()", x.back(), Check.NO);
        CHECK.due("forget()", x.forget(), 0);
        for (int c = 0; c < 3; c++) {
            CHECK.due("laid: caller(" + c + ", 4)", x.caller(c, 4), 0);
            CHECK.due("laid: caller(" + c + ", 5)", x.caller(c, 5), 0);
        }
        CHECK.due("caller(3, 4)", x.caller(3, 4), Check.BAD);
        recalledIsIdleAsAllWhenLaid();
    }

    private static void recalledIsIdleAsAllWhenLaid() {
        NumberEleven x = Check.laid("c0,0,1,0;c0,0,1,0;");
        x.pass(1);
        x.recall(1);
        x.wipe();
        Check.write(x, "c0,0,1,0;c0,5,1,0;");
        CHECK.due("lay()", x.lay(), 2);
        CHECK.due("who called again before calls in its minute", x.behind(5, 1), 0);
    }

    private static void layRefused() {
        NumberEleven x = new NumberEleven();
        x.pass(3);
        x.keep();
        x.seen(0, 1, 1);
        CHECK.due("lay() of nothing", x.lay(), Check.NO);
        Check.write(x, "s2,3;r1;");
        CHECK.due("lay() without a caller", x.lay(), Check.NO);
        CHECK.due("fault()", x.fault(), Check.NONE);
        Check.write(x, "c0,0,1,0;x");
        CHECK.due("lay() with a fault", x.lay(), Check.NO);
        int[] counts = {7, 3, 4, 1, 0, 0, 1, 4, 0, 1, 1, 1, 18};
        for (int what = 0; what < counts.length; what++) {
            CHECK.due("not laid: count(" + what + ")", x.count(what), counts[what]);
        }
    }

    private static void caller() {
        NumberEleven x = Check.laid("c0,0,9,5;c0,0,9,6;c0,1,2,7;s1,3;");
        x.pass(1);
        CHECK.due("SERVED", x.caller(0, 4), 2);
        CHECK.due("WAITS", x.caller(1, 4), 1);
        CHECK.due("IDLE", x.caller(2, 4), 0);
        CHECK.due("WAITED of who was taken at once", x.caller(0, 5), 0);
        CHECK.due("WAITED a minute", x.caller(1, 5), 1);
        x.pass(3);
        CHECK.due("THROUGH", x.caller(0, 4), 3);
        CHECK.due("SERVED then", x.caller(1, 4), 2);
        CHECK.due("GAVE UP", x.caller(2, 4), 4);
        CHECK.due("WAITED till taken", x.caller(1, 5), 3);
        CHECK.due("WAITED till it gave up", x.caller(2, 5), 2);
        x.recall(2);
        CHECK.due("IDLE again", x.caller(2, 4), 0);
        CHECK.due("WAITED last", x.caller(2, 5), 2);
        x.pass(1);
        CHECK.due("WAITED anew", x.caller(2, 5), 1);
        for (int what = 0; what < 7; what++) {
            CHECK.due("caller(3, " + what + ")", x.caller(3, what), Check.BAD);
            for (int wild : Check.WILD) {
                CHECK.due("caller(" + wild + ", " + what + ")", x.caller(wild, what), Check.BAD);
                CHECK.due("caller(0, " + wild + ")", x.caller(0, wild), Check.BAD);
            }
        }
        CHECK.due("caller(0, 7)", x.caller(0, 7), Check.BAD);
    }

    private static void callerBears() {
        NumberEleven x = Check.laid("c0,0,9,1;c0,0,8,1;c1,0,7,1;c2,0,6,1;c3,0,5,1;c1,0,4,1;c3,0,1,1;c1,1,3,1;s1,20;");
        for (int c = 0; c < 8; c++) {
            CHECK.due("bears, IDLE: " + c, x.caller(c, 6), Check.NONE);
        }
        x.pass(1);
        int[] bears = {Check.NONE, 8, Check.NONE, 12, 2, 4, Check.NONE, Check.NONE};
        for (int c = 0; c < 8; c++) {
            CHECK.due("bears behind a minute: " + c, x.caller(c, 6), bears[c]);
        }
        x.hang(3);
        CHECK.due("bears with one fewer ahead", x.caller(4, 6), 3);
        x.hang(4);
        CHECK.due("TOLD with two ahead", x.caller(5, 6), 4);
        x.hang(1);
        CHECK.due("TOLD with one ahead", x.caller(5, 6), Check.NONE);
        CHECK.due("who gave up", x.caller(1, 6), Check.NONE);
        x = Check.laid("c0,0,9,1;c0,0,9,1;c0,0,9,1;c3,1,2,1;s1,20;r1;");
        x.pass(2);
        CHECK.due("NERVOUS with none ahead", x.caller(3, 6), 2);
        x.rule(0);
        CHECK.due("NERVOUS, 1 at least", x.caller(3, 6), 1);
        x = Check.laid("c0,0,9,1;c0,0,9,1;c1,1,2,1;c1,0,3,1;s1,20;r1;");
        x.pass(2);
        CHECK.due("who is first by number is last", x.caller(0, 6), 9);
        CHECK.due("TOLD with none ahead", x.caller(2, 6), Check.NONE);
        x.rule(0);
        CHECK.due("TOLD with caller 0 ahead, too", x.caller(2, 6), 2);
    }
}
