/** Promises 27 and 28: likely, day. */
public final class ChancesTest {
    private static final Check CHECK = new Check("ChancesTest");

    public static void main(String[] args) {
        likely();
        likelyOfTwo();
        likelyOfMany();
        dayByHand();
        daysByDraws();
        dayIsBad();
        CHECK.end();
    }

    private static void chance(NumberEleven x, int c, int tenths, int above, int below) {
        CHECK.due("likely(" + c + ", " + tenths + ", 0)", x.likely(c, tenths, 0), above);
        CHECK.due("likely(" + c + ", " + tenths + ", 1)", x.likely(c, tenths, 1), below);
    }

    private static void likely() {
        NumberEleven x = Check.laid("c0,0,9,1;c0,0,30,1;c0,0,4,1;s1,3;");
        chance(x, 2, 5, 0, 1);
        x.pass(1);
        chance(x, 2, 0, 0, 1);
        chance(x, 2, 3, 3, 10);
        chance(x, 2, 5, 1, 2);
        chance(x, 2, 8, 4, 5);
        chance(x, 2, 10, 1, 1);
        chance(x, 1, 5, 1, 1);
        chance(x, 0, 5, 1, 1);
        CHECK.due("likely(2, 11, 0)", x.likely(2, 11, 0), Check.BAD);
        CHECK.due("likely(2, 5, 2)", x.likely(2, 5, 2), Check.BAD);
        CHECK.due("likely(3, 5, 0)", x.likely(3, 5, 0), Check.BAD);
        for (int wild : Check.WILD) {
            CHECK.due("likely(" + wild + ", 5, 0)", x.likely(wild, 5, 0), Check.BAD);
            CHECK.due("likely(2, " + wild + ", 0)", x.likely(2, wild, 0), Check.BAD);
            CHECK.due("likely(2, 5, " + wild + ")", x.likely(2, 5, wild), Check.BAD);
        }
        CHECK.due("nobody hung up", x.count(2), 2);
        x.hang(2);
        chance(x, 2, 5, 0, 1);
    }

    private static void likelyOfTwo() {
        NumberEleven x = Check.laid("c0,0,9,1;c0,0,30,1;c0,0,30,1;c0,0,4,1;s1,3;");
        x.pass(1);
        chance(x, 3, 4, 4, 25);
        chance(x, 3, 1, 1, 100);
        x = Check.laid("c0,0,9,1;c0,0,30,1;c0,0,30,1;c0,0,7,1;s1,3;");
        x.pass(1);
        chance(x, 3, 4, 16, 25);
        chance(x, 3, 9, 99, 100);
    }

    private static void likelyOfMany() {
        NumberEleven x = Check.laid("c0,0,20,1;" + "c0,0,30,1;".repeat(7) + "s1,20;r1;");
        x.pass(1);
        chance(x, 0, 1, 0, 1);
        x = Check.laid("c0,0,22,1;" + "c0,0,30,1;".repeat(7) + "s1,20;r1;");
        x.pass(1);
        chance(x, 0, 1, 1, 1000000);
        chance(x, 0, 7, 117649, 1000000);
        x = Check.laid("c0,1,30,1;c0,0,9,1;c0,1,4,1;s1,4;");
        x.pass(2);
        chance(x, 2, 3, 3, 10);
        x = Check.laid("c0,0,30,1;".repeat(7) + "c0,0,9,1;s1,3;r1;");
        x.pass(1);
        chance(x, 0, 3, 1, 1);
        chance(x, 7, 3, 1, 1);
    }

    private static void dayByHand() {
        // z = 0: DRAW is 0 (0 HANGS UP), 20743 (1 HANGS UP), 5149 (1 CALLS AGAIN) for two callers
        NumberEleven x = Check.laid("c0,0,30,7;c0,0,30,9;s1,2;");
        int[][] due = {{0, 0, 0}, {0, 1, 0}, {1, 0, 7}};
        for (int n = 1; n <= 3; n++) {
            for (int what = 0; what < 3; what++) {
                CHECK.due("day(0, " + n + ", " + what + ")", x.day(0, n, what), due[n - 1][what]);
            }
        }
        CHECK.due("nothing changes", x.count(1), 0);
    }

    /** The object's own acts, done by the same draws, must lead to the same day. */
    private static void daysByDraws() {
        String[] texts = {"c0,0,6,10;c1,0,4,25;c2,1,3,8;c3,2,9,40;c0,2,5,12;c1,6,2,30;c0,9,3,5;s1,4;r0;",
            "c0,0,6,10;c1,0,4,25;c2,1,3,8;s2,3;r2;", "c3,0,9,1;c3,0,9,2;c3,1,9,4;c1,2,3,8;c0,3,9,16;s1,7;r1;",
            "c0,0,9,1;c0,0,9,2;c1,0,5,4;c2,0,9,8;c0,1,9,16;c3,1,9,32;c1,2,4,60;c0,2,9,3;s2,6;r2;"};
        int[] days = {0, 1, 77, 4711, 9999};
        for (String text : texts) {
            for (int z : days) {
                NumberEleven x = Check.laid(text);
                x.pass(2);
                NumberEleven y = Check.laid(text);
                y.pass(2);
                for (int i = 0; i < 60; i++) {
                    actByDraw(y, z, i);
                    y.pass(1);
                    String call = text + " day(" + z + ", " + (i + 1) + ", ";
                    CHECK.due(call + "0)", x.day(z, i + 1, 0), y.count(4));
                    CHECK.due(call + "1)", x.day(z, i + 1, 1), y.count(5));
                    CHECK.due(call + "2)", x.day(z, i + 1, 2), worthThrough(y));
                }
            }
        }
    }

    private static void actByDraw(NumberEleven y, int z, int minute) {
        long root = 7919L * z + 6151L * minute + 1L;
        long draw = Math.floorMod(root * root, 65521L) / 2L;
        int who = (int) (draw % y.count(0));
        int act = (int) (draw / 8 % 6);
        if (act == 0) {
            y.hang(who);
        } else if (act == 1) {
            y.recall(who);
        } else if (act == 2) {
            y.staff(1);
        } else if (act == 3) {
            y.staff(0);
        }
    }

    private static int worthThrough(NumberEleven y) {
        int worth = 0;
        for (int c = 0; c < y.count(0); c++) {
            worth += y.caller(c, 4) == 3 ? y.caller(c, 3) : 0;
        }
        return worth;
    }

    private static void dayIsBad() {
        NumberEleven x = new NumberEleven();
        CHECK.due("day(-1, 1, 0)", x.day(-1, 1, 0), Check.BAD);
        CHECK.due("day(10000, 1, 0)", x.day(10000, 1, 0), Check.BAD);
        CHECK.due("day(0, 0, 0)", x.day(0, 0, 0), Check.BAD);
        CHECK.due("day(0, 61, 0)", x.day(0, 61, 0), Check.BAD);
        CHECK.due("day(0, 1, 3)", x.day(0, 1, 3), Check.BAD);
        for (int wild : Check.WILD) {
            CHECK.due("day(" + wild + ", 1, 0)", x.day(wild, 1, 0), Check.BAD);
            CHECK.due("day(0, " + wild + ", 0)", x.day(0, wild, 0), Check.BAD);
            CHECK.due("day(0, 1, " + wild + ")", x.day(0, 1, wild), Check.BAD);
        }
    }
}
