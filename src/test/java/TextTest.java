/** Promises 1, 6, 7 and 8: the tape, the fund that is read from it, and its faults. */
public final class TextTest {
    private TextTest() {
    }

    public static void main(String[] args) {
        newOne();
        feeds();
        reads();
        faults();
        replaces();
        Check.end("TextTest");
    }

    private static void newOne() {
        MatchFund x = new MatchFund();
        for (int what = 0; what < 7; what++) {
            Check.due("count(" + what + ") of a new one", x.count(what), 0);
        }
        Check.due("no fund", x.stand(0), MatchFund.STATE);
        Check.due("no fault", x.fault(), 0);
        Check.due("no trace", x.trace(0), MatchFund.NONE);
    }

    private static void feeds() {
        MatchFund x = new MatchFund();
        Check.due("feed(0)", x.feed(0), 1);
        Check.due("feed(255)", x.feed(255), 2);
        Check.due("feed(256)", x.feed(256), MatchFund.BAD);
        Check.due("feed(-1)", x.feed(-1), MatchFund.BAD);
        for (int i = 3; i <= 130; i++) {
            Check.due("byte " + i, x.feed('a'), i);
        }
        Check.due("one too many", x.feed('a'), MatchFund.FULL);
        Check.due("BAD ahead of FULL", x.feed(256), MatchFund.BAD);
        Check.due("count(6)", x.count(6), 130);
        Check.due("fund()", x.fund(), -1000100);
        Check.due("the tape is empty then", x.count(6), 0);
    }

    private static void reads() {
        MatchFund x = new MatchFund();
        Check.feedAll(x, "m07,09;o;s;h;f;c;o;g9,5,99;g00,0,01;");
        Check.due("fund()", x.fund(), 6);
        Check.due("count(6)", x.count(6), 0);
        Check.due("pot, ten coins each", x.count(3), 70);
        Check.due("gifts", x.count(2), 2);
        int[] kinds = {1, 2, 3, 4, 5, 1};
        for (int p = 0; p < 6; p++) {
            Check.due("kind(" + p + ")", x.kind(p), kinds[p]);
        }
        Check.due("giver of 0", x.gift(0, 0), 9);
        Check.due("project of 0", x.gift(0, 1), 5);
        Check.due("coins of 0", x.gift(0, 2), 99);
        Check.due("giver of 1", x.gift(1, 0), 0);
        Check.due("no fault yet", x.fault(), 0);
        MatchFund long1 = new MatchFund();
        String text = "m99,99;o;" + "g0,0,1;".repeat(17);
        Check.due("128 bytes", Check.feedAll(long1, text), 128);
        Check.due("fund()", long1.fund(), 1);
        Check.due("17 gifts", long1.count(2), 17);
        Check.due("pot", long1.count(3), 990);
    }

    private static void fault(String text, int place, int number) {
        MatchFund x = Check.told("m3,1;f;g1,0,4;");
        x.give(2, 0, 5);
        Check.feedAll(x, text);
        Check.due("fund() of '" + text + "'", x.fund(), -1000100 - place);
        Check.due("fault() of '" + text + "'", x.fault(), number);
        Check.due("the tape is empty after '" + text + "'", x.count(6), 0);
        Check.due("the fund stays after '" + text + "'", x.count(4), 9);
        Check.due("its acts stay after '" + text + "'", x.count(5), 1);
    }

    private static void faults() {
        fault("", 0, 1);
        fault("x", 0, 1);
        fault("M0,1;o;", 0, 1);
        fault(" m0,1;o;", 0, 1);
        fault("m", 1, 1);
        fault("mm", 1, 1);
        fault("m,", 1, 1);
        fault("m123,1;o;", 1, 1);
        fault("m12345,1;o;", 1, 1);
        fault("m0;", 2, 1);
        fault("m0,", 3, 1);
        fault("m0,0;o;", 3, 2);
        fault("m0,00;o;", 3, 2);
        fault("m0,000;o;", 3, 1);
        fault("m0,1,", 4, 1);
        fault("m0,1;", 5, 1);
        fault("m0,1;g0,0,1;", 5, 1);
        fault("m0,1;m", 5, 1);
        fault("m0,1;" + (char) 200, 5, 1);
        fault("m0,1;o", 6, 1);
        fault("m0,1;o,", 6, 1);
        fault("m0,1;oo;", 6, 1);
        fault("m0,1;o;12", 7, 1);
        fault("m0,1;o;o;o;o;o;o;o;", 17, 3);
        fault("m0,1;o;o;o;o;o;o;x;", 17, 1);
        fault("m0,1;o;o;o;o;o;oo;", 16, 1);
        fault("m0,1;o;g10,0,1;", 8, 2);
        fault("m0,1;o;g100,0,1;", 8, 1);
        fault("m0,1;o;g,0,1;", 8, 1);
        fault("m0,1;o;g0;0,1;", 9, 1);
        fault("m0,1;o;g0,1,1;", 10, 2);
        fault("m0,1;o;s;g0,2,0;", 12, 2);
        fault("m0,1;o;g0,0,0;", 12, 2);
        fault("m0,1;o;g0,0,100;", 12, 1);
        fault("m0,1;o;g0,0,1,", 13, 1);
        fault("m0,1;o;g0,0,1", 13, 1);
        fault("m0,1;o;g0,0,1;o;", 14, 1);
        fault("m0,1;o;g0,0,1;g", 15, 1);
        fault("m0,1;o;g0,0,1; ", 14, 1);
        fault("m0,1;o;g0,0,1;" + (char) 0, 14, 1);
    }

    private static void replaces() {
        MatchFund x = Check.told("m3,1;f;g1,0,4;");
        x.one(1, 2);
        x.image(0);
        Check.feedAll(x, "m");
        x.fund();
        Check.due("fault()", x.fault(), 1);
        Check.feedAll(x, "m5,1;f;f;");
        Check.due("fund()", x.fund(), 2);
        Check.due("each giver is one of its own", x.nameOf(1), 1);
        Check.due("no act can be undone", x.undo(), MatchFund.STATE);
        Check.due("no gifts", x.count(2), 0);
        Check.due("pot", x.count(3), 50);
        Check.due("the latest fault is told yet", x.fault(), 1);
        Check.due("the image stays", x.restore(0), 1);
        Check.due("its pot", x.count(3), 30);
        Check.due("its names", x.nameOf(1), 2);
    }
}
