/** Promises 23 to 26: seen, forget, bears, kinds. */
public final class SeenTest {
    private static final Check CHECK = new Check("SeenTest");

    public static void main(String[] args) {
        seen();
        forget();
        bears();
        bearsByHowAllStands();
        byTheCallersLaid();
        kinds();
        CHECK.end();
    }

    private static void seen() {
        NumberEleven x = new NumberEleven();
        CHECK.due("seen(0, 0, 1)", x.seen(0, 0, 1), Check.BAD);
        CHECK.due("seen(0, 41, 1)", x.seen(0, 41, 1), Check.BAD);
        CHECK.due("seen(0, 1, 2)", x.seen(0, 1, 2), Check.BAD);
        CHECK.due("seen(7, 1, 1)", x.seen(7, 1, 1), Check.BAD);
        for (int wild : Check.WILD) {
            CHECK.due("seen(" + wild + ", 1, 1)", x.seen(wild, 1, 1), Check.BAD);
            CHECK.due("seen(0, " + wild + ", 1)", x.seen(0, wild, 1), Check.BAD);
            CHECK.due("seen(0, 1, " + wild + ")", x.seen(0, 1, wild), Check.BAD);
        }
        CHECK.due("seen(6, 40, 0)", x.seen(6, 40, 0), 1);
        CHECK.due("seen(6, 40, 0): once more", x.seen(6, 40, 0), 2);
        for (int i = 3; i <= 6; i++) {
            CHECK.due("seen " + i, x.seen(i, 1, 0), i);
        }
        CHECK.due("the seventh", x.seen(0, 1, 0), Check.FULL);
        CHECK.due("a bad seventh", x.seen(0, 0, 0), Check.BAD);
        CHECK.due("count(9)", x.count(9), 6);
        CHECK.due("no undoing of it", x.undo(), Check.NO);
    }

    private static void forget() {
        NumberEleven x = new NumberEleven();
        CHECK.due("forget() of nothing", x.forget(), 0);
        x.seen(0, 1, 1);
        x.seen(1, 1, 1);
        CHECK.due("forget()", x.forget(), 2);
        CHECK.due("count(9)", x.count(9), 0);
        CHECK.due("bears(0, 0)", x.bears(0, 0), 30);
        CHECK.due("seen anew", x.seen(0, 1, 1), 1);
        CHECK.due("bears(0, 0)", x.bears(0, 0), 0);
    }

    private static void bears() {
        NumberEleven x = Check.laid("c0,0,9,1;c0,0,9,1;c2,0,9,1;s1,20;");
        CHECK.due("nothing SEEN: how many", x.bears(1, 0), 30);
        CHECK.due("nothing SEEN: the least", x.bears(1, 1), 1);
        x.seen(1, 12, 1);
        CHECK.due("gave up by 12", x.bears(1, 0), 12);
        x.seen(1, 4, 0);
        CHECK.due("gave up in 5 to 12", x.bears(1, 0), 8);
        CHECK.due("the least", x.bears(1, 1), 5);
        x.seen(2, 7, 0);
        CHECK.due("COOKING twice as long", x.bears(2, 1), 4);
        CHECK.due("COOKING twice as long", x.bears(2, 0), 27);
        CHECK.due("of another nothing is SEEN", x.bears(0, 0), 30);
        x.seen(1, 3, 1);
        CHECK.due("never so", x.bears(1, 0), 0);
        CHECK.due("never so: the least", x.bears(1, 1), Check.NONE);
        CHECK.due("bears(1, 2)", x.bears(1, 2), Check.BAD);
        CHECK.due("bears(3, 0)", x.bears(3, 0), Check.BAD);
        for (int wild : Check.WILD) {
            CHECK.due("bears(" + wild + ", 0)", x.bears(wild, 0), Check.BAD);
            CHECK.due("bears(1, " + wild + ")", x.bears(1, wild), Check.BAD);
        }
        CHECK.due("it bears as before", x.caller(1, 2), 9);
        CHECK.due("it leaves as before", x.left(1), 9);
    }

    private static void bearsByHowAllStands() {
        NumberEleven x = Check.laid("c0,0,9,1;c0,0,9,1;s1,20;");
        x.seen(1, 5, 1);
        CHECK.due("from minute 0", x.bears(1, 0), 5);
        x.pass(2);
        CHECK.due("from minute 2", x.bears(1, 0), 7);
        x.hang(1);
        CHECK.due("as it gave up already", x.bears(1, 0), 30);
        x.undo();
        x.staff(1);
        CHECK.due("as it is served", x.bears(1, 0), 0);
    }

    /** Neither a text that was only read nor an earlier question takes the place of the callers that are laid. */
    private static void byTheCallersLaid() {
        NumberEleven x = Check.laid("c0,0,9,1;c0,0,4,1;c3,0,5,1;s1,20;");
        x.seen(2, 4, 1);
        x.seen(2, 3, 0);
        String[] asked = {"at first", "behind a text that was read", "behind bears", "behind kinds"};
        for (int i = 0; i < asked.length; i++) {
            if (i == 1) {
                Check.write(x, "c1,9,9,9;c1,9,9,9;");
                x.fault();
            } else if (i == 2) {
                x.bears(1, 0);
            } else if (i == 3) {
                x.kinds(1);
            }
            CHECK.due("bears " + asked[i], x.bears(2, 1), 5);
            CHECK.due("bears " + asked[i], x.bears(2, 0), 1);
            x.wipe();
            Check.write(x, "c1,9,9,9;c1,9,9,9;");
            x.fault();
            CHECK.due("kinds " + asked[i], x.kinds(2), 8);
        }
        NumberEleven y = new NumberEleven();
        y.seen(4, 7, 1);
        y.seen(4, 6, 0);
        CHECK.due("bears, as new", y.bears(4, 1), 5);
        CHECK.due("kinds, as new", y.kinds(4), 3);
    }

    private static void kinds() {
        NumberEleven x = Check.laid("c0,0,9,1;c0,0,9,1;c0,0,9,1;c0,0,9,1;c0,0,6,1;s1,20;");
        CHECK.due("nothing SEEN", x.kinds(4), 15);
        x.seen(4, 6, 1);
        CHECK.due("gave up by 6: all but COOKING", x.kinds(4), 11);
        x.seen(4, 5, 0);
        CHECK.due("not by 5: not NERVOUS", x.kinds(4), 3);
        x.seen(4, 3, 1);
        CHECK.due("none", x.kinds(4), 0);
        CHECK.due("of another nothing is SEEN", x.kinds(3), 15);
        x.forget();
        x.seen(4, 3, 1);
        CHECK.due("NERVOUS", x.kinds(4), 8);
        x.forget();
        x.seen(4, 6, 0);
        x.seen(4, 12, 1);
        CHECK.due("COOKING", x.kinds(4), 4);
        x.hang(1);
        x.seen(1, 9, 0);
        CHECK.due("TOLD, COOKING", x.kinds(1), 6);
        x.seen(1, 18, 0);
        CHECK.due("TOLD", x.kinds(1), 2);
        CHECK.due("kinds(5)", x.kinds(5), Check.BAD);
        for (int wild : Check.WILD) {
            CHECK.due("kinds(" + wild + ")", x.kinds(wild), Check.BAD);
        }
        CHECK.due("its kind is as before", x.caller(4, 0), 0);
        CHECK.due("it leaves as before", x.left(4), 6);
    }
}
