/** Promises 13 to 22: behind, taken, left, number, again, best, needed, lost, helps, longest. */
public final class ComesTest {
    private static final Check CHECK = new Check("ComesTest");

    public static void main(String[] args) {
        behind();
        takenAndLeft();
        takenAtTheEnd();
        leftByKinds();
        takenByRules();
        beyondTheLast();
        number();
        again();
        againNone();
        againAtTheEdges();
        best();
        needed();
        lost();
        helps();
        longest();
        eightCallers();
        callerZero();
        nothingChanges();
        CHECK.end();
    }

    private static void behind() {
        NumberEleven x = Check.laid("c0,1,5,7;c0,1,2,9;s1,3;");
        int[] first = {0, 0, 2, 2, 2, 3};
        int[] second = {0, 0, 1, 4, 4, 4};
        for (int n = 0; n < 6; n++) {
            CHECK.due("behind(" + n + ", 0)", x.behind(n, 0), first[n]);
            CHECK.due("behind(" + n + ", 1)", x.behind(n, 1), second[n]);
        }
        CHECK.due("behind(60, 0)", x.behind(60, 0), 3);
        CHECK.due("behind(61, 0)", x.behind(61, 0), Check.BAD);
        CHECK.due("behind(-1, 0)", x.behind(-1, 0), Check.BAD);
        CHECK.due("behind(0, 2)", x.behind(0, 2), Check.BAD);
        for (int wild : Check.WILD) {
            CHECK.due("behind(" + wild + ", 0)", x.behind(wild, 0), Check.BAD);
            CHECK.due("behind(0, " + wild + ")", x.behind(0, wild), Check.BAD);
        }
        x.pass(2);
        CHECK.due("behind(0, 0)", x.behind(0, 0), 2);
        CHECK.due("behind(1, 1)", x.behind(1, 1), 4);
    }

    private static void takenAndLeft() {
        NumberEleven x = Check.laid("c0,0,5,7;c0,0,5,9;c0,0,3,9;s1,3;");
        CHECK.due("taken(0)", x.taken(0), 1);
        CHECK.due("taken(1)", x.taken(1), 4);
        CHECK.due("taken(2)", x.taken(2), Check.NONE);
        CHECK.due("left(0)", x.left(0), 4);
        CHECK.due("left(1)", x.left(1), 7);
        CHECK.due("left(2)", x.left(2), 3);
        x.pass(4);
        CHECK.due("taken(0), THROUGH", x.taken(0), 0);
        CHECK.due("taken(1), SERVED", x.taken(1), 0);
        CHECK.due("taken(2), GAVE UP", x.taken(2), Check.NONE);
        CHECK.due("left(0), THROUGH", x.left(0), 0);
        CHECK.due("left(1), SERVED", x.left(1), 3);
        CHECK.due("left(2), GAVE UP", x.left(2), 0);
        x.recall(2);
        CHECK.due("taken(2), who calls again", x.taken(2), 3);
        CHECK.due("left(2), who calls again", x.left(2), 6);
        CHECK.due("taken(3)", x.taken(3), Check.BAD);
        CHECK.due("left(3)", x.left(3), Check.BAD);
        for (int wild : Check.WILD) {
            CHECK.due("taken(" + wild + ")", x.taken(wild), Check.BAD);
            CHECK.due("left(" + wild + ")", x.left(wild), Check.BAD);
        }
    }

    private static void takenAtTheEnd() {
        String cookings = "c0,0,9,1;c2,0,30,1;c2,0,30,1;c2,%d,30,1;s1,%d;";
        NumberEleven x = Check.laid(String.format(cookings, 1, 20));
        CHECK.due("taken(3) in minute 60", x.taken(3), Check.NONE);
        x.pass(1);
        CHECK.due("taken(3) behind 60", x.taken(3), 60);
        CHECK.due("left(3) too late", x.left(3), Check.NONE);
        CHECK.due("left(2) behind 60", x.left(2), 60);
        x = Check.laid("c0,40,9,1;s1,20;");
        CHECK.due("left(0) of the last one", x.left(0), Check.NONE);
        x.pass(1);
        CHECK.due("left(0) behind 60", x.left(0), 60);
    }

    private static void leftByKinds() {
        String plain = "c0,0,9,1;";
        CHECK.due("PLAIN", Check.laid(plain + "c0,0,3,1;s1,20;").left(1), 3);
        CHECK.due("TOLD, none ahead", Check.laid(plain + "c1,0,3,1;s1,20;").left(1), 41);
        CHECK.due("TOLD, one ahead", Check.laid(plain + plain + "c1,0,1,1;s1,20;").taken(2), 21);
        CHECK.due("TOLD, two ahead", Check.laid(plain + plain + plain + "c1,0,3,1;s1,20;").left(3), 3);
        CHECK.due("TOLD, two ahead at once", Check.laid(plain + "c0,0,3,1;c0,0,3,1;c1,0,3,1;s1,20;").left(3), 3);
        CHECK.due("TOLD, two ahead too early", Check.laid(plain + "c0,0,2,1;c0,0,3,1;c1,0,3,1;s1,20;").left(3), 41);
        CHECK.due("COOKING", Check.laid(plain + "c2,0,3,1;s1,20;").left(1), 6);
        CHECK.due("COOKING is taken", Check.laid(plain + "c2,0,3,1;s1,5;").taken(1), 6);
        CHECK.due("NERVOUS, none ahead", Check.laid(plain + "c3,0,3,1;s1,20;").left(1), 3);
        CHECK.due("NERVOUS, one ahead", Check.laid(plain + plain + "c3,0,3,1;s1,20;").left(2), 2);
        CHECK.due("NERVOUS, at least a minute", Check.laid(plain + plain + plain + "c3,0,1,1;s1,20;").left(3), 1);
        CHECK.due("NERVOUS by the rule", Check.laid(plain + plain + "c3,0,3,2;s1,20;r2;").taken(2), 1);
        CHECK.due("NERVOUS by the rule", Check.laid("c0,0,9,3;c0,1,9,1;c3,1,3,2;s1,20;r2;").left(2), 4);
    }

    private static void takenByRules() {
        NumberEleven x = Check.laid("c0,0,9,1;c0,1,9,1;c0,2,9,1;s1,3;r1;");
        CHECK.due("last come: taken(2)", x.taken(2), 4);
        CHECK.due("last come: taken(1)", x.taken(1), 7);
        CHECK.due("last come of a minute", Check.laid("c0,0,9,1;c0,0,9,1;s1,3;r1;").taken(1), 1);
        x = Check.laid("c0,0,9,1;c0,1,9,5;c0,2,9,5;c0,2,9,6;s1,3;r2;");
        CHECK.due("most worth: taken(3)", x.taken(3), 4);
        CHECK.due("most worth: taken(1)", x.taken(1), 7);
        CHECK.due("most worth: taken(2)", x.taken(2), 10);
    }

    private static void beyondTheLast() {
        NumberEleven x = Check.laid("c0,0,9,4;s1,3;");
        for (int i = 0; i < 24; i++) {
            x.pass(40);
        }
        x.pass(39);
        x.recall(0);
        CHECK.due("behind(1, 0)", x.behind(1, 0), 2);
        CHECK.due("behind(60, 0)", x.behind(60, 0), 3);
        CHECK.due("left(0)", x.left(0), 4);
        CHECK.due("best(1)", x.best(1), 4);
        CHECK.due("longest(1)", x.longest(1), 0);
        CHECK.due("lost()", x.lost(), 0);
        CHECK.due("count(1)", x.count(1), 999);
    }

    private static void number() {
        NumberEleven x = Check.laid("c0,0,9,1;c0,0,9,1;c0,0,9,1;c0,0,1,1;c0,3,1,1;s1,3;");
        CHECK.due("number, IDLE", x.number(0), Check.NO);
        x.pass(1);
        CHECK.due("number, SERVED", x.number(0), Check.NO);
        CHECK.due("number(1)", x.number(1), 0);
        CHECK.due("number(2)", x.number(2), 1);
        CHECK.due("number, GAVE UP", x.number(3), Check.NO);
        CHECK.due("number, IDLE", x.number(4), Check.NO);
        x.rule(1);
        CHECK.due("number(1)", x.number(1), 1);
        CHECK.due("number(5)", x.number(5), Check.BAD);
        for (int wild : Check.WILD) {
            CHECK.due("number(" + wild + ")", x.number(wild), Check.BAD);
        }
    }

    private static void again() {
        NumberEleven x = Check.laid("c0,0,9,1;c0,0,2,1;s1,5;");
        CHECK.due("again, IDLE", x.again(1, 0), Check.NO);
        x.pass(1);
        CHECK.due("again(1, 0)", x.again(1, 0), 3);
        CHECK.due("again(1, 1)", x.again(1, 1), 5);
        CHECK.due("again, SERVED", x.again(0, 0), Check.NO);
        CHECK.due("again(0, 2)", x.again(0, 2), Check.BAD);
        CHECK.due("again(2, 0)", x.again(2, 0), Check.BAD);
        for (int wild : Check.WILD) {
            CHECK.due("again(" + wild + ", 0)", x.again(wild, 0), Check.BAD);
            CHECK.due("again(1, " + wild + ")", x.again(1, wild), Check.BAD);
        }
        x.pass(1);
        CHECK.due("again, GAVE UP", x.again(1, 0), Check.NO);
        x = Check.laid("c0,0,9,1;c0,0,9,1;s1,3;");
        x.pass(1);
        CHECK.due("of several the lowest", x.again(1, 0), 0);
        CHECK.due("as soon by each", x.again(1, 1), 3);
    }

    private static void againNone() {
        NumberEleven x = Check.laid("c0,0,9,1;c2,0,30,1;c2,0,30,1;c2,0,30,1;c0,0,2,1;s1,20;");
        x.pass(1);
        CHECK.due("again(4, 0)", x.again(4, 0), Check.NONE);
        CHECK.due("again(4, 1)", x.again(4, 1), Check.NONE);
        CHECK.due("again(4, 2)", x.again(4, 2), Check.BAD);
        x = Check.laid("c0,0,9,1;c0,0,30,1;c0,1,3,1;c0,9,1,1;s1,20;");
        x.pass(2);
        CHECK.due("the longest pause is too short", x.again(2, 0), Check.NONE);
        x = Check.laid("c0,0,9,1;c0,0,1,1;c0,1,3,1;c0,9,1,1;s1,20;");
        x.pass(2);
        CHECK.due("16 minutes more", x.again(2, 0), 16);
        CHECK.due("behind 19", x.again(2, 1), 19);
    }

    private static void againAtTheEdges() {
        NumberEleven x = Check.laid("c0,0,9,1;c0,0,30,1;c0,18,2,1;s1,20;");
        x.pass(19);
        CHECK.due("20 minutes more", x.again(2, 0), 20);
        CHECK.due("behind 22", x.again(2, 1), 22);
        x = Check.laid("c0,0,9,1;c0,0,30,1;c0,17,2,1;s1,20;");
        x.pass(18);
        CHECK.due("21 would be too many", x.again(2, 0), Check.NONE);
        x = Check.laid("c0,0,9,1;c2,0,30,1;c2,0,30,1;c2,1,30,1;c2,1,30,1;s1,20;");
        x.pass(2);
        CHECK.due("taken beyond 60", x.again(4, 1), Check.NONE);
        x = Check.laid("c0,0,9,1;c0,0,2,1;c3,0,3,1;s1,2;");
        x.pass(1);
        CHECK.due("a NERVOUS one bears it longer when it hung up", x.again(1, 0), 2);
        CHECK.due("it is taken behind that one", x.again(1, 1), 4);
    }

    private static void best() {
        NumberEleven x = Check.laid("c0,0,9,10;c0,0,1,20;s1,20;");
        CHECK.due("best(0)", x.best(0), 1);
        CHECK.due("best(1)", x.best(1), 20);
        CHECK.due("best(2)", x.best(2), Check.BAD);
        for (int wild : Check.WILD) {
            CHECK.due("best(" + wild + ")", x.best(wild), Check.BAD);
        }
        x.pass(1);
        CHECK.due("who is SERVED counts no more", x.best(1), 0);
        CHECK.due("of several the lowest", x.best(0), 0);
        x = Check.laid("c0,0,9,10;c0,0,1,20;c0,0,1,15;s1,20;");
        CHECK.due("most worth", x.best(0), 2);
        CHECK.due("most worth", x.best(1), 20);
        x = Check.laid("c0,0,9,10;c0,0,9,7;c0,0,9,5;c0,40,9,8;s1,3;r2;");
        CHECK.due("all are taken", x.best(1), 30);
        CHECK.due("all are taken by each", x.best(0), 0);
        CHECK.due("the rule stays", x.count(8), 2);
    }

    private static void needed() {
        CHECK.due("needed: 1", Check.laid("c0,0,9,1;c0,0,4,1;s4,3;").needed(), 1);
        CHECK.due("needed: 2", Check.laid("c0,0,9,1;c0,0,3,1;s1,3;").needed(), 2);
        String[] most = {"c0,0,1,1;".repeat(4) + "s1,20;", "c0,0,1,1;".repeat(5) + "s1,20;"};
        CHECK.due("needed: 4", Check.laid(most[0]).needed(), 4);
        CHECK.due("needed: NONE", Check.laid(most[1]).needed(), Check.NONE);
        NumberEleven x = Check.laid(most[1]);
        x.pass(1);
        CHECK.due("those who gave up before don't count", x.needed(), 1);
        CHECK.due("count(6)", x.count(6), 1);
    }

    private static void lost() {
        NumberEleven x = Check.laid("c0,0,9,1;c0,0,3,1;c0,0,2,1;c0,0,9,1;s1,3;");
        CHECK.due("lost()", x.lost(), 2);
        x.pass(2);
        CHECK.due("lost() one fewer", x.lost(), 1);
        x.pass(1);
        CHECK.due("lost() none", x.lost(), 0);
        x.recall(2);
        CHECK.due("lost() of who calls again", x.lost(), 1);
    }

    private static void helps() {
        NumberEleven x = Check.laid("c0,0,9,1;c0,1,9,1;c0,0,9,1;c0,0,4,1;s1,3;");
        CHECK.due("helps(0) with none who waits", x.helps(0), Check.NONE);
        CHECK.due("helps(1) with none who waits", x.helps(1), Check.NONE);
        x.pass(2);
        CHECK.due("helps(0)", x.helps(0), 2);
        CHECK.due("helps(1)", x.helps(1), 0);
        CHECK.due("helps(2)", x.helps(2), Check.BAD);
        for (int wild : Check.WILD) {
            CHECK.due("helps(" + wild + ")", x.helps(wild), Check.BAD);
        }
        x = Check.laid("c0,0,9,1;c0,0,3,1;c0,0,9,1;c0,0,6,1;s1,3;");
        x.pass(1);
        CHECK.due("of several the lowest", x.helps(0), 1);
        CHECK.due("one more gives up by each", x.helps(1), 1);
    }

    private static void longest() {
        NumberEleven x = Check.laid("c0,0,9,1;c0,0,9,1;c0,1,9,1;c0,9,9,1;s1,4;");
        CHECK.due("longest(0)", x.longest(0), 2);
        CHECK.due("longest(1)", x.longest(1), 7);
        CHECK.due("longest(2)", x.longest(2), Check.BAD);
        for (int wild : Check.WILD) {
            CHECK.due("longest(" + wild + ")", x.longest(wild), Check.BAD);
        }
        x.pass(9);
        CHECK.due("who is SERVED counts no more", x.longest(0), 3);
        CHECK.due("who is SERVED counts no more", x.longest(1), 3);
        x.pass(5);
        CHECK.due("none", x.longest(0), Check.NONE);
        CHECK.due("none", x.longest(1), Check.NONE);
        x = Check.laid("c0,0,9,1;c0,0,2,1;c0,0,2,1;s1,4;");
        CHECK.due("of several the lowest", x.longest(0), 1);
        CHECK.due("of several as much", x.longest(1), 2);
    }

    private static void eightCallers() {
        NumberEleven x = Check.laid("c0,0,9,1;".repeat(7) + "c0,0,2,7;s1,3;");
        CHECK.due("lost()", x.lost(), 5);
        CHECK.due("needed()", x.needed(), Check.NONE);
        CHECK.due("best(0)", x.best(0), 1);
        CHECK.due("best(1)", x.best(1), 9);
        CHECK.due("longest(0)", x.longest(0), 3);
        CHECK.due("longest(1)", x.longest(1), 9);
        x.pass(1);
        CHECK.due("helps(0)", x.helps(0), 1);
        CHECK.due("helps(1)", x.helps(1), 4);
        CHECK.due("number(7)", x.number(7), 6);
        CHECK.due("taken(3)", x.taken(3), Check.NONE);
        CHECK.due("left(7)", x.left(7), 1);
        CHECK.due("again(7, 1)", x.again(7, 1), 9);
        CHECK.due("again(7, 0)", x.again(7, 0), 7);
        CHECK.due("likely(7, 10, 0)", x.likely(7, 10, 0), 0);
        CHECK.due("bears(7, 0)", x.bears(7, 0), 30);
        CHECK.due("kinds(7)", x.kinds(7), 15);
        CHECK.due("caller(7, 6)", x.caller(7, 6), 2);
        CHECK.due("caller(8, 6)", x.caller(8, 6), Check.BAD);
        CHECK.due("hang(7)", x.hang(7), 1);
        CHECK.due("recall(7)", x.recall(7), 0);
        CHECK.due("behind(1, 7)", x.behind(1, 7), 1);
    }

    private static void callerZero() {
        NumberEleven x = Check.laid("c0,1,9,1;c0,0,9,1;c0,2,3,1;s1,4;");
        x.pass(3);
        CHECK.due("caller 0 is ahead", x.number(2), 1);
        CHECK.due("helps(0) by caller 0", x.helps(0), 0);
        CHECK.due("helps(1) by caller 0", x.helps(1), 0);
    }

    private static void nothingChanges() {
        NumberEleven x = new NumberEleven();
        x.pass(3);
        int[] before = allCounts(x);
        int[] beforeCallers = allCallers(x);
        x.behind(60, 0);
        x.taken(4);
        x.left(4);
        x.again(1, 0);
        x.best(0);
        x.needed();
        x.lost();
        x.helps(0);
        x.longest(0);
        x.bears(1, 0);
        x.kinds(1);
        x.likely(1, 5, 0);
        x.day(3, 60, 0);
        int[] after = allCounts(x);
        int[] afterCallers = allCallers(x);
        for (int i = 0; i < before.length; i++) {
            CHECK.due("unchanged: count(" + i + ")", after[i], before[i]);
        }
        for (int i = 0; i < beforeCallers.length; i++) {
            CHECK.due("unchanged: caller " + i / 7 + ", " + i % 7, afterCallers[i], beforeCallers[i]);
        }
    }

    private static int[] allCounts(NumberEleven x) {
        int[] counts = new int[13];
        for (int what = 0; what < 13; what++) {
            counts[what] = x.count(what);
        }
        return counts;
    }

    private static int[] allCallers(NumberEleven x) {
        int[] answers = new int[49];
        for (int i = 0; i < 49; i++) {
            answers[i] = x.caller(i / 7, i % 7);
        }
        return answers;
    }
}
