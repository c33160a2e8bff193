/** Promises 7 to 12: pass, hang, recall, staff, rule, undo; and how a minute goes by. */
public final class ActsTest {
    private static final Check CHECK = new Check("ActsTest");

    public static void main(String[] args) {
        pass();
        whoIsThrough();
        orderOfComing();
        atOnce();
        hang();
        recall();
        staff();
        rule();
        undo();
        undoGivesAllBack();
        undoOfRefused();
        CHECK.end();
    }

    private static void states(String when, NumberEleven x, int... want) {
        for (int c = 0; c < want.length; c++) {
            CHECK.due(when + ": caller(" + c + ", 4)", x.caller(c, 4), want[c]);
        }
    }

    private static void pass() {
        NumberEleven x = new NumberEleven();
        CHECK.due("pass(0)", x.pass(0), Check.BAD);
        CHECK.due("pass(41)", x.pass(41), Check.BAD);
        for (int wild : Check.WILD) {
            CHECK.due("pass(" + wild + ")", x.pass(wild), Check.BAD);
        }
        CHECK.due("count(1)", x.count(1), 0);
        CHECK.due("pass(1)", x.pass(1), 1);
        CHECK.due("pass(40)", x.pass(40), 41);
        for (int minute = 81; minute < 999; minute += 40) {
            CHECK.due("pass(40)", x.pass(40), minute);
        }
        CHECK.due("pass(39)", x.pass(39), Check.NO);
        CHECK.due("pass(38)", x.pass(38), 999);
        CHECK.due("pass(1)", x.pass(1), Check.NO);
        CHECK.due("pass(41) at the end", x.pass(41), Check.BAD);
        CHECK.due("count(1)", x.count(1), 999);
        CHECK.due("undo()", x.undo(), 7);
        CHECK.due("count(1)", x.count(1), 961);
    }

    private static void whoIsThrough() {
        NumberEleven x = Check.laid("c0,0,9,1;c0,0,9,1;c0,0,2,1;s1,2;");
        x.pass(1);
        states("minute 1", x, 2, 1, 1);
        x.pass(1);
        states("minute 2", x, 2, 1, 4);
        x.pass(1);
        states("minute 3: one is through and the next one taken", x, 3, 2, 4);
        x.pass(2);
        states("minute 5", x, 3, 3, 4);
        x = Check.laid("c0,0,9,1;c0,0,9,1;s1,1;");
        x.pass(2);
        states("a minute each", x, 3, 2);
        x = Check.laid("c0,0,1,1;c0,0,1,1;c0,0,1,1;c0,0,1,1;c0,0,1,1;s4,2;");
        x.pass(1);
        states("four serve", x, 2, 2, 2, 2, 4);
    }

    private static void orderOfComing() {
        NumberEleven x = Check.laid("c0,0,9,1;c0,0,3,1;c0,4,30,1;c0,0,2,1;s1,20;");
        x.pass(4);
        states("minute 4", x, 2, 4, 0, 4);
        x.recall(3);
        x.recall(1);
        x.pass(1);
        CHECK.due("who calls by the text comes first", x.number(2), 0);
        CHECK.due("then the lowest who calls again", x.number(1), 1);
        CHECK.due("then the next", x.number(3), 2);
        x.rule(1);
        CHECK.due("last come", x.number(3), 0);
        CHECK.due("last come", x.number(1), 1);
        CHECK.due("last come", x.number(2), 2);
        CHECK.due("a question in between", x.lost(), 2);
        x.hang(1);
        x.recall(1);
        x.pass(1);
        CHECK.due("it came last of all then", x.number(1), 0);
    }

    private static void atOnce() {
        NumberEleven x = Check.laid("c0,0,9,1;c0,0,1,1;c0,0,1,1;c1,0,1,1;c3,0,4,1;s1,20;");
        x.pass(1);
        states("all who give up do so at once", x, 2, 4, 4, 4, 4);
        x = Check.laid("c0,0,9,1;c0,0,2,1;c0,0,2,1;c3,0,4,1;s1,20;");
        x.pass(2);
        states("those who give up are still ahead", x, 2, 4, 4, 4);
        x = Check.laid("c0,0,9,1;c0,0,9,1;c3,0,3,1;s1,20;");
        x.pass(1);
        states("one bears by who is ahead", x, 2, 1, 1);
        x.pass(1);
        states("or longer", x, 2, 1, 4);
    }

    private static void hang() {
        NumberEleven x = Check.laid("c0,0,9,1;c0,0,9,1;c0,5,9,1;c0,0,1,1;s1,3;");
        CHECK.due("hang, IDLE", x.hang(0), Check.NO);
        x.pass(2);
        CHECK.due("hang, SERVED", x.hang(0), Check.NO);
        CHECK.due("hang, GAVE UP", x.hang(3), Check.NO);
        CHECK.due("hang, WAITS", x.hang(1), 2);
        CHECK.due("hang again", x.hang(1), Check.NO);
        states("hung up", x, 2, 4, 0, 4);
        CHECK.due("WAITED stays", x.caller(1, 5), 2);
        x.pass(3);
        CHECK.due("hang, THROUGH", x.hang(0), Check.NO);
        CHECK.due("hang(4)", x.hang(4), Check.BAD);
        for (int wild : Check.WILD) {
            CHECK.due("hang(" + wild + ")", x.hang(wild), Check.BAD);
        }
        CHECK.due("count(10)", x.count(10), 3);
    }

    private static void recall() {
        NumberEleven x = Check.laid("c0,0,9,1;c0,0,9,1;c0,5,9,1;c0,0,1,1;s1,3;");
        CHECK.due("recall, IDLE", x.recall(0), Check.NO);
        x.pass(1);
        CHECK.due("recall, SERVED", x.recall(0), Check.NO);
        CHECK.due("recall, WAITS", x.recall(1), Check.NO);
        CHECK.due("recall, GAVE UP", x.recall(3), 0);
        CHECK.due("recall again", x.recall(3), Check.NO);
        states("called again", x, 2, 1, 0, 0);
        x.pass(3);
        states("it came anew and gave up", x, 3, 2, 0, 4);
        CHECK.due("recall, THROUGH", x.recall(0), 1);
        states("through no more", x, 0, 2, 0, 4);
        x.pass(1);
        states("it waits", x, 1, 2, 0, 4);
        CHECK.due("recall(4)", x.recall(4), Check.BAD);
        for (int wild : Check.WILD) {
            CHECK.due("recall(" + wild + ")", x.recall(wild), Check.BAD);
        }
        CHECK.due("count(10)", x.count(10), 5);
    }

    private static void staff() {
        NumberEleven x = Check.laid("c0,0,9,1;c0,0,9,1;c0,0,9,1;s2,3;");
        x.pass(1);
        CHECK.due("staff(0)", x.staff(0), 1);
        CHECK.due("staff(0) of one", x.staff(0), Check.NO);
        x.pass(1);
        states("who is served stays so", x, 2, 2, 1);
        x.pass(2);
        states("one serves from then on", x, 3, 3, 2);
        CHECK.due("staff(1)", x.staff(1), 2);
        CHECK.due("staff(1)", x.staff(1), 3);
        CHECK.due("staff(1)", x.staff(1), 4);
        CHECK.due("staff(1) of four", x.staff(1), Check.NO);
        CHECK.due("count(6)", x.count(6), 4);
        CHECK.due("staff(2)", x.staff(2), Check.BAD);
        for (int wild : Check.WILD) {
            CHECK.due("staff(" + wild + ")", x.staff(wild), Check.BAD);
        }
        x = Check.laid("c0,0,9,1;c0,0,9,1;c0,0,9,1;s1,9;");
        x.pass(1);
        x.staff(1);
        x.pass(1);
        states("one more serves", x, 2, 2, 1);
    }

    private static void rule() {
        NumberEleven x = Check.laid("c0,0,9,1;c0,1,9,5;c0,2,9,5;c0,2,9,6;c0,3,9,1;s1,4;");
        CHECK.due("rule(0)", x.rule(0), Check.NO);
        CHECK.due("rule(3)", x.rule(3), Check.BAD);
        for (int wild : Check.WILD) {
            CHECK.due("rule(" + wild + ")", x.rule(wild), Check.BAD);
        }
        CHECK.due("count(10)", x.count(10), 0);
        x.pass(4);
        CHECK.due("first come", x.number(1), 0);
        CHECK.due("first come", x.number(4), 3);
        CHECK.due("rule(1)", x.rule(1), 0);
        CHECK.due("last come", x.number(1), 3);
        CHECK.due("last come", x.number(3), 1);
        CHECK.due("rule(1) again", x.rule(1), Check.NO);
        CHECK.due("rule(2)", x.rule(2), 1);
        CHECK.due("most worth", x.number(3), 0);
        CHECK.due("of as much worth the first come", x.number(1), 1);
        CHECK.due("of as much worth the last come", x.number(2), 2);
        CHECK.due("least worth", x.number(4), 3);
        CHECK.due("count(8)", x.count(8), 2);
        x.pass(1);
        states("most worth is taken", x, 3, 1, 1, 2, 1);
        CHECK.due("rule(0)", x.rule(0), 2);
    }

    private static void undo() {
        NumberEleven x = new NumberEleven();
        CHECK.due("undo() of nothing", x.undo(), Check.NO);
        for (int i = 1; i <= 9; i++) {
            x.pass(i);
            CHECK.due("count(10)", x.count(10), Math.min(8, i));
        }
        int minute = 45;
        for (int i = 9; i > 1; i--) {
            minute -= i;
            CHECK.due("undo()", x.undo(), i - 2);
            CHECK.due("all minutes of one call at once", x.count(1), minute);
        }
        CHECK.due("the ninth", x.undo(), Check.NO);
        CHECK.due("count(1)", x.count(1), 1);
        x.pass(1);
        CHECK.due("undo()", x.undo(), 0);
    }

    private static void undoGivesAllBack() {
        NumberEleven x = Check.laid("c0,0,9,1;c0,0,9,1;c0,0,2,1;s2,3;r2;");
        x.pass(2);
        states("minute 2", x, 2, 2, 4);
        x.recall(2);
        x.staff(1);
        x.rule(0);
        x.pass(1);
        x.hang(2);
        states("served by the third", x, 2, 2, 2);
        x.seen(0, 3, 1);
        Check.write(x, "abc");
        x.keep();
        CHECK.due("undo() of pass", x.undo(), 4);
        states("undone: minutes", x, 2, 2, 0);
        CHECK.due("undo() of rule", x.undo(), 3);
        CHECK.due("count(8)", x.count(8), 2);
        CHECK.due("undo() of staff", x.undo(), 2);
        CHECK.due("count(6)", x.count(6), 2);
        CHECK.due("undo() of recall", x.undo(), 1);
        states("undone: call again", x, 2, 2, 4);
        CHECK.due("it does not come", x.behind(5, 2), 4);
        CHECK.due("SEEN stays", x.count(9), 1);
        CHECK.due("KEPT stays", x.count(11), 1);
        CHECK.due("THE TEXT stays", x.count(12), 35 + 3);
        CHECK.due("undo() of pass", x.undo(), 0);
        states("undone: all", x, 0, 0, 0);
    }

    private static void undoOfRefused() {
        NumberEleven x = new NumberEleven();
        x.pass(3);
        x.hang(0);
        x.hang(9);
        x.recall(1);
        x.rule(0);
        x.rule(7);
        x.staff(0);
        x.staff(7);
        x.pass(0);
        x.lost();
        x.day(5, 60, 0);
        x.likely(1, 5, 0);
        CHECK.due("only what was done can be undone", x.count(10), 1);
        CHECK.due("nothing changed", x.count(1), 3);
        CHECK.due("hang(4)", x.hang(4), 1);
        CHECK.due("undo()", x.undo(), 1);
        CHECK.due("undone: hang", x.caller(4, 4), 1);
    }
}
