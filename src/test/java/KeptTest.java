/** Promises 29 to 31: keep, back, count. */
public final class KeptTest {
    private static final Check CHECK = new Check("KeptTest");

    public static void main(String[] args) {
        keep();
        back();
        backGivesAllBack();
        count();
        CHECK.end();
    }

    private static void keep() {
        NumberEleven x = new NumberEleven();
        CHECK.due("keep()", x.keep(), 1);
        CHECK.due("keep()", x.keep(), 2);
        CHECK.due("keep() a third", x.keep(), Check.FULL);
        CHECK.due("count(11)", x.count(11), 2);
        CHECK.due("no undoing of it", x.undo(), Check.NO);
    }

    private static void back() {
        NumberEleven x = new NumberEleven();
        CHECK.due("back() of nothing", x.back(), Check.NO);
        x.pass(1);
        x.keep();
        x.pass(2);
        x.keep();
        x.pass(4);
        CHECK.due("back()", x.back(), 1);
        CHECK.due("count(1)", x.count(1), 3);
        CHECK.due("nothing is UNDONE then", x.undo(), Check.NO);
        x.pass(8);
        CHECK.due("keep() anew", x.keep(), 2);
        x.pass(16);
        CHECK.due("back()", x.back(), 1);
        CHECK.due("count(1)", x.count(1), 11);
        CHECK.due("back()", x.back(), 0);
        CHECK.due("count(1)", x.count(1), 1);
        CHECK.due("back() of nothing", x.back(), Check.NO);
        CHECK.due("count(1)", x.count(1), 1);
    }

    private static void backGivesAllBack() {
        NumberEleven x = Check.laid("c0,0,9,1;c0,0,9,1;c0,0,2,1;s2,3;r2;");
        x.pass(2);
        x.recall(2);
        x.keep();
        x.seen(0, 1, 1);
        Check.write(x, "ab");
        x.staff(1);
        x.rule(1);
        x.pass(1);
        x.hang(2);
        CHECK.due("undo() before back()", x.count(10), 5);
        CHECK.due("back()", x.back(), 0);
        int[] counts = {3, 2, 0, 2, 0, 0, 2, 3, 2, 1, 0, 0, 35 + 2};
        for (int what = 0; what < counts.length; what++) {
            CHECK.due("back: count(" + what + ")", x.count(what), counts[what]);
        }
        CHECK.due("it is IDLE", x.caller(2, 4), 0);
        CHECK.due("it WAITED last", x.caller(2, 5), 2);
        x.pass(1);
        CHECK.due("who called again comes", x.caller(2, 4), 1);
        CHECK.due("it WAITED", x.caller(2, 5), 1);
    }

    private static void count() {
        NumberEleven x = Check.laid("c0,0,9,1;c0,0,9,1;c0,0,9,1;c0,0,1,1;c0,40,1,1;c0,0,9,1;s2,3;r1;");
        CHECK.due("count(12)", x.count(12), 5 * 9 + 10 + 5 + 3);
        x.pass(4);
        x.hang(0);
        x.staff(1);
        x.rule(2);
        x.seen(0, 1, 1);
        x.keep();
        int[] counts = {6, 4, 0, 2, 2, 1, 3, 3, 2, 1, 4, 1, 63};
        for (int what = 0; what < counts.length; what++) {
            CHECK.due("count(" + what + ")", x.count(what), counts[what]);
        }
        CHECK.due("count(13)", x.count(13), Check.BAD);
        for (int wild : Check.WILD) {
            CHECK.due("count(" + wild + ")", x.count(wild), Check.BAD);
        }
    }
}
