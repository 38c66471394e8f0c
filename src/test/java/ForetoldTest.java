/** Promises 23 to 33: what is foretold, mostly of flat projects, whose claims are plain to see. */
public final class ForetoldTest {
    private static final int NONE = MatchFund.NONE, BAD = MatchFund.BAD, STATE = MatchFund.STATE, FULL = MatchFund.FULL;
    private static final int[] WRONG = {-1, 6, Integer.MIN_VALUE, Integer.MAX_VALUE};

    private ForetoldTest() {
    }

    public static void main(String[] args) {
        paidIf();
        best();
        least();
        missed();
        ring();
        halves();
        sets();
        byTurns();
        whoPots();
        whoKindsAndCoins();
        whoRefuses();
        likely();
        drawn();
        changesNothing();
        Check.end("ForetoldTest");
    }

    private static MatchFund withGifts(String text, int gifts) {
        MatchFund x = Check.told(text);
        for (int g = x.count(2); g < gifts; g++) {
            x.give(0, 0, 1);
        }
        return x;
    }

    private static void paidIf() {
        MatchFund x = Check.told("m2,1;f;f;g0,0,10;g1,1,10;");
        // 20 and 10 by 20: 13 and 6, and 1 to the first
        Check.due("paidIf(0, 0, 10, 0)", x.paidIf(0, 0, 10, 0), 14);
        Check.due("paidIf(0, 0, 10, 1)", x.paidIf(0, 0, 10, 1), 6);
        Check.due("paidIf(0, 0, 0, 1)", x.paidIf(0, 0, 0, 1), 10);
        x.become(0, 5);
        x.pot(999);
        Check.due("another giver raises the cap", x.paidIf(2, 0, 3, 0), 10);
        x.one(2, 0);
        Check.due("one in the same name does not", x.paidIf(2, 0, 3, 0), 5);
        for (int w : WRONG) {
            Check.due("of " + w, x.paidIf(0, 0, 1, w), BAD);
            Check.due("project " + w, x.paidIf(0, w, 1, 0), BAD);
        }
        Check.due("giver 10", x.paidIf(10, 0, 1, 0), BAD);
        Check.due("giver -1", x.paidIf(-1, 0, 1, 0), BAD);
        Check.due("coins 100", x.paidIf(0, 0, 100, 0), BAD);
        Check.due("coins -1", x.paidIf(0, 0, -1, 0), BAD);
        MatchFund full = withGifts("m2,1;f;", 20);
        Check.due("20 gifts", full.paidIf(0, 0, 1, 0), FULL);
        Check.due("20 gifts, nothing more", full.paidIf(0, 0, 0, 0), 20);
        Check.due("BAD ahead of FULL", full.paidIf(0, 0, 1, 1), BAD);
        Check.due("19 gifts", withGifts("m2,1;f;", 19).paidIf(0, 0, 1, 0), 20);
    }

    private static void best() {
        MatchFund x = Check.told("m99,1;c;f;f;g0,0,5;");
        Check.due("which", x.best(0, 7, 0), 1);
        Check.due("by how much", x.best(0, 7, 1), 7);
        Check.due("of several the first", x.best(1, 5, 0), 0);
        // 173 * 223: overlap 3, 3.09; with a coin more 200 * 223: overlap 4, 2.97
        MatchFund less = Check.told("m99,2;o;g0,0,3;g1,0,5;");
        Check.due("less than 0", less.best(0, 1, 1), -1);
        Check.due("which all the same", less.best(0, 1, 0), 0);
        Check.due("best(10, 1, 0)", x.best(10, 1, 0), BAD);
        Check.due("best(-1, 1, 0)", x.best(-1, 1, 0), BAD);
        Check.due("best(0, 0, 0)", x.best(0, 0, 0), BAD);
        Check.due("best(0, 100, 0)", x.best(0, 100, 0), BAD);
        Check.due("best(0, 1, 2)", x.best(0, 1, 2), BAD);
        Check.due("best(0, 1, -1)", x.best(0, 1, -1), BAD);
        Check.due("no fund, ahead of BAD", new MatchFund().best(-1, 1, 0), STATE);
        Check.due("20 gifts", withGifts("m2,1;f;", 20).best(0, 1, 0), FULL);
        Check.due("20 gifts, BAD first", withGifts("m2,1;f;", 20).best(0, 0, 0), BAD);
    }

    private static void least() {
        MatchFund x = Check.told("m0,1;f;c;g0,0,10;");
        Check.due("least(0, 0, 15)", x.least(0, 0, 15), 5);
        Check.due("least(0, 0, 9): it is that already", x.least(0, 0, 9), 1);
        Check.due("least(0, 0, 109)", x.least(0, 0, 109), 99);
        Check.due("least(0, 0, 110)", x.least(0, 0, 110), NONE);
        Check.due("least(1, 1, 5)", x.least(1, 1, 5), 5);
        Check.due("least(1, 1, 6)", x.least(1, 1, 6), NONE);
        Check.due("least(1, 1, 9999)", x.least(1, 1, 9999), NONE);
        Check.due("goal 0", x.least(1, 1, 0), BAD);
        Check.due("goal 10000", x.least(1, 1, 10000), BAD);
        Check.due("giver 10", x.least(10, 1, 1), BAD);
        Check.due("giver -1", x.least(-1, 1, 1), BAD);
        Check.due("project 2", x.least(1, 2, 1), BAD);
        Check.due("project -1", x.least(1, -1, 1), BAD);
        Check.due("20 gifts", withGifts("m2,1;f;", 20).least(0, 0, 1), FULL);
        Check.due("20 gifts, BAD first", withGifts("m2,1;f;", 20).least(0, 0, 0), BAD);
        // a coin more and the claim sinks from 3 to 2, two more and it is 3 again:
        // 223 * 223: overlap 4, 3.3
        MatchFund sinks = Check.told("m99,2;o;g0,0,3;g1,0,5;");
        Check.due("a claim may sink", sinks.least(0, 0, 3), 2);
    }

    private static void missed() {
        MatchFund x = Check.told("m99,1;f;f;f;g0,0,7;g1,0,12;g2,1,12;g3,1,12;");
        Check.due("who", x.missed(0, 0), 1);
        Check.due("how much", x.missed(0, 1), 7);
        Check.due("of several the first", x.missed(1, 0), 2);
        Check.due("how much", x.missed(1, 1), 12);
        Check.due("any giver of a project that none gives to", x.missed(2, 0), 0);
        Check.due("how much", x.missed(2, 1), 0);
        x.one(0, 3);
        Check.due("those in its name, too", x.missed(0, 0), 1);
        Check.due("how much", x.missed(0, 1), 7);
        x.one(1, 3);
        Check.due("in one name", x.missed(0, 0), 3);
        Check.due("nothing is left", x.missed(0, 1), 0);
        // who gives elsewhere is no rival then: all of the pot goes to it
        MatchFund tight = Check.told("m1,1;f;f;g0,0,10;g1,1,10;");
        Check.due("without 0 nothing", tight.missed(0, 0), 0);
        Check.due("without 1 nothing", tight.missed(1, 0), 1);
        MatchFund none = Check.told("m1,1;f;");
        Check.due("there is none", none.missed(0, 0), NONE);
        Check.due("there is none", none.missed(0, 1), NONE);
        Check.due("missed(3, 0)", x.missed(3, 0), BAD);
        Check.due("missed(-1, 0)", x.missed(-1, 0), BAD);
        Check.due("missed(0, 2)", x.missed(0, 2), BAD);
        Check.due("missed(0, -1)", x.missed(0, -1), BAD);
    }

    private static void ring() {
        MatchFund x = Check.told("m9,1;f;f;g5,0,4;g3,0,4;g8,1,4;g9,1,4;g3,1,1;");
        // 3 and 5, 8 and 9 overlap by 4; 3 and 8, 3 and 9 by 2
        Check.due("the lesser", x.ring(0), 3);
        Check.due("the greater", x.ring(1), 5);
        Check.due("how much", x.ring(2), 4);
        x.give(9, 0, 1);
        // 9 and 3: 200 * 100 and 100 * 200
        Check.due("of several the first two", x.ring(1), 5);
        x.give(9, 0, 3);
        // 9 and 3: 200 * 200 and 100 * 200
        Check.due("the lesser", x.ring(0), 3);
        Check.due("the greater", x.ring(1), 9);
        Check.due("how much", x.ring(2), 6);
        Check.due("ring(3)", x.ring(3), BAD);
        Check.due("ring(-1)", x.ring(-1), BAD);
        Check.due("no fund, ahead of BAD", new MatchFund().ring(3), STATE);
        MatchFund none = Check.told("m9,1;f;f;g5,0,4;g3,1,4;");
        for (int what = 0; what < 3; what++) {
            Check.due("no two have any", none.ring(what), NONE);
        }
    }

    private static void halves() {
        MatchFund x = Check.told("m99,1;f;c;");
        // k and 10 - k, but 5 at most
        Check.due("how many", x.halves(0, 10, 0, 1, 0), 5);
        Check.due("how much", x.halves(0, 10, 0, 1, 1), 10);
        Check.due("the other way", x.halves(0, 10, 1, 0, 0), 0);
        Check.due("how much", x.halves(0, 10, 1, 0, 1), 10);
        Check.due("the same: of one alone", x.halves(0, 10, 0, 0, 1), 10);
        Check.due("the same: the fewest", x.halves(0, 10, 0, 0, 0), 0);
        Check.due("40", x.halves(0, 40, 0, 1, 0), 35);
        x.give(3, 1, 1);
        x.one(0, 3);
        Check.due("in the name of one who gave", x.halves(0, 10, 0, 1, 0), 6);
        Check.due("n = 0", x.halves(0, 0, 0, 1, 0), BAD);
        Check.due("n = 41", x.halves(0, 41, 0, 1, 0), BAD);
        Check.due("giver 10", x.halves(10, 1, 0, 1, 0), BAD);
        Check.due("giver -1", x.halves(-1, 1, 0, 1, 0), BAD);
        Check.due("a 2", x.halves(0, 1, 2, 1, 0), BAD);
        Check.due("b -1", x.halves(0, 1, 0, -1, 0), BAD);
        Check.due("what 2", x.halves(0, 1, 0, 1, 2), BAD);
        Check.due("what -1", x.halves(0, 1, 0, 1, -1), BAD);
        Check.due("18 gifts", withGifts("m9,1;f;", 18).halves(0, 2, 0, 0, 1), 20);
        Check.due("19 gifts", withGifts("m9,1;f;", 19).halves(0, 2, 0, 0, 1), FULL);
        Check.due("19 gifts, BAD first", withGifts("m9,1;f;", 19).halves(0, 0, 0, 0, 1), BAD);
    }

    private static void sets() {
        MatchFund x = Check.told("m99,1;f;f;f;g0,0,5;g0,1,5;g0,2,10;");
        int[][] due = {{0, 1, 0, 0}, {5, 2, 0, 3}, {10, 2, 0, 7}, {15, 2, 4, 7}, {20, 1, 7, 7}, {7, 0, 0, 0}, {999, 0, 0, 0}};
        for (int[] d : due) {
            for (int what = 0; what < 3; what++) {
                Check.due("sets(" + d[0] + ", " + what + ")", x.sets(d[0], what), d[what + 1]);
            }
        }
        Check.due("sets(1000, 0)", x.sets(1000, 0), BAD);
        Check.due("sets(-1, 0)", x.sets(-1, 0), BAD);
        Check.due("sets(0, 3)", x.sets(0, 3), BAD);
        Check.due("sets(0, -1)", x.sets(0, -1), BAD);
        Check.due("no fund, ahead of BAD", new MatchFund().sets(-1, 0), STATE);
    }

    private static void byTurns() {
        MatchFund x = Check.told("m99,1;f;o;f;g0,0,9;g0,2,2;");
        int[] due = {7, 12, 7, 12, 7};
        for (int n = 0; n <= 4; n++) {
            Check.due("byTurns(0, 1, " + n + ", 5)", x.byTurns(0, 1, n, 5), due[n]);
        }
        Check.due("one project", Check.told("m9,1;f;g0,0,5;").byTurns(0, 1, 3, 9), 0);
        // to a capped one, which 5 has filled, nothing more can be brought; b lowers by the last
        MatchFund capped = Check.told("m99,1;c;f;g0,0,5;g0,1,3;");
        Check.due("nothing is better for a", capped.byTurns(0, 1, 1, 9), 2);
        Check.due("b gives to the last", capped.byTurns(0, 1, 2, 9), -7);
        Check.due("b's gifts raise the cap", capped.byTurns(1, 0, 1, 9), 7);
        Check.due("a is b", x.byTurns(1, 1, 1, 1), BAD);
        Check.due("a 10", x.byTurns(10, 1, 1, 1), BAD);
        Check.due("b -1", x.byTurns(1, -1, 1, 1), BAD);
        Check.due("n 5", x.byTurns(0, 1, 5, 1), BAD);
        Check.due("n -1", x.byTurns(0, 1, -1, 1), BAD);
        Check.due("v 0", x.byTurns(0, 1, 1, 0), BAD);
        Check.due("v 21", x.byTurns(0, 1, 1, 21), BAD);
        Check.due("no fund, ahead of BAD", new MatchFund().byTurns(1, 1, 1, 1), STATE);
        Check.due("16 gifts", withGifts("m9,1;f;", 16).byTurns(0, 1, 4, 1), 0);
        Check.due("17 gifts, even of none", withGifts("m9,1;f;", 17).byTurns(0, 1, 0, 1), FULL);
        Check.due("17 gifts, BAD first", withGifts("m9,1;f;", 17).byTurns(0, 0, 0, 1), BAD);
    }

    private static void told(MatchFund x, int row, int from, int... paid) {
        for (int i = 0; i < paid.length; i++) {
            x.set(row, from + i, paid[i]);
        }
    }

    private static void whoPots() {
        MatchFund x = Check.told("m5,1;f;f;g0,0,10;g0,1,20;");
        x.row(3, 2, 9);
        told(x, 3, 2, 10, 20);
        Check.due("pots of 30 and more", x.who(-9, 0, 3, 2), 970);
        Check.due("the least", x.who(99, 1, 3, 2), 30);
        told(x, 3, 2, 3, 6);
        Check.due("one pot", x.who(0, 0, 3, 2), 1);
        Check.due("the least", x.who(0, 1, 3, 2), 9);
        told(x, 3, 2, 6, 3);
        Check.due("no pot", x.who(0, 0, 3, 2), 0);
        Check.due("the least", x.who(0, 1, 3, 2), NONE);
        told(x, 3, 2, 0, 0);
        Check.due("pot 0", x.who(0, 1, 3, 2), 0);
        told(x, 3, 2, -1, 20);
        Check.due("below 0", x.who(0, 0, 3, 2), 0);
    }

    private static void whoKindsAndCoins() {
        MatchFund x = Check.told("m5,1;f;f;g0,0,3;g0,1,20;g1,1,30;");
        x.row(0, 1, 2);
        told(x, 0, 0, 3, 47);
        // 3 by 53 of 50: 2, and what is over; flat and capped claim the same
        Check.due("kinds of 0", x.who(0, 2, 0, 0), 1 << 4 | 1 << 5);
        // a square one claims 994 * 994 / 10000 - 50 = 48: 2 and 47 of 50, and what is over
        Check.due("kinds of 1", x.who(1, 2, 0, 0), 1 << 2 | 1 << 4);
        x.pot(999);
        told(x, 0, 0, 3, 50);
        Check.due("coins of gift 0", x.who(0, 3, 0, 0), 1);
        Check.due("the least", x.who(0, 4, 0, 0), 3);
        Check.due("the least of gift 2", x.who(2, 4, 0, 0), 30);
        told(x, 0, 0, 3, 129);
        Check.due("the least of gift 2", x.who(2, 4, 0, 0), NONE);
        Check.due("how many", x.who(2, 3, 0, 0), 0);
        told(x, 0, 0, 3, 119);
        Check.due("the most that there is", x.who(2, 4, 0, 0), 99);
        x.become(0, 5);
        told(x, 0, 0, 5, 50);
        Check.due("5 and more", x.who(0, 3, 0, 0), 95);
        Check.due("5", x.who(0, 4, 0, 0), 5);
    }

    private static void whoRefuses() {
        MatchFund x = Check.told("m5,1;f;f;g0,0,3;g0,1,20;g1,1,30;");
        x.row(0, 1, 3);
        Check.due("which 5", x.who(0, 5, 0, 0), BAD);
        Check.due("which -1", x.who(0, -1, 0, 0), BAD);
        Check.due("row 8", x.who(0, 0, 8, 0), BAD);
        Check.due("row -1", x.who(0, 0, -1, 0), BAD);
        Check.due("project 2", x.who(2, 2, 0, 0), BAD);
        Check.due("project -1", x.who(-1, 2, 0, 0), BAD);
        for (int which = 3; which < 5; which++) {
            Check.due("gift 3", x.who(3, which, 0, 0), BAD);
            Check.due("gift -1", x.who(-1, which, 0, 0), BAD);
        }
        Check.due("a row that is missing", x.who(0, 0, 1, 0), -1000011);
        Check.due("BAD ahead of NULL", x.who(9, 2, 1, 0), BAD);
        Check.due("from 1", x.who(0, 0, 0, 1), 1);
        Check.due("from 2: too few items", x.who(0, 0, 0, 2), -1000012);
        Check.due("from -1", x.who(0, 0, 0, -1), -1000012);
        Check.due("from the greatest int", x.who(0, 0, 0, Integer.MAX_VALUE), -1000012);
        Check.due("no fund, ahead of BAD", new MatchFund().who(0, 9, 9, 0), STATE);
    }

    private static void fraction(MatchFund x, int project, int v, int p, long above, long below) {
        String call = "likely(" + project + ", " + v + ", " + p + ", ";
        Check.due(call + "0)", x.likely(project, v, p, 0), above);
        Check.due(call + "1)", x.likely(project, v, p, 1), below);
    }

    private static void likely() {
        MatchFund x = Check.told("m99,1;f;f;g0,0,7;g1,0,7;g2,1,3;");
        fraction(x, 0, 5, 2, 24, 25);
        fraction(x, 0, 8, 2, 16, 25);
        fraction(x, 0, 15, 2, 0, 1);
        fraction(x, 0, 0, 2, 1, 1);
        fraction(x, 1, 1, 5, 1, 2);
        fraction(x, 0, 14, 0, 1, 1);
        fraction(x, 0, 1, 10, 0, 1);
        fraction(x, 0, 9999, 3, 0, 1);
        x.one(1, 0);
        fraction(x, 0, 1, 2, 4, 5);
        // with a tight pot, 1 is paid more if 0 is taken back
        MatchFund tight = Check.told("m1,1;f;f;g0,0,10;g1,1,10;");
        fraction(tight, 1, 10, 4, 6, 25);
        MatchFund ten = Check.told("m99,1;f;");
        for (int g = 0; g < 10; g++) {
            ten.give(g, 0, 1);
        }
        fraction(ten, 0, 10, 1, 3486784401L, 10000000000L);
        fraction(ten, 0, 10, 5, 1, 1024);
        fraction(ten, 0, 1, 5, 1023, 1024);
        fraction(Check.told("m0,1;f;"), 0, 1, 3, 0, 1);
        Check.due("project 2", x.likely(2, 0, 0, 0), BAD);
        Check.due("project -1", x.likely(-1, 0, 0, 0), BAD);
        Check.due("v -1", x.likely(0, -1, 0, 0), BAD);
        Check.due("v 10000", x.likely(0, 10000, 0, 0), BAD);
        Check.due("p 11", x.likely(0, 0, 11, 0), BAD);
        Check.due("p -1", x.likely(0, 0, -1, 0), BAD);
        Check.due("what 2", x.likely(0, 0, 0, 2), BAD);
        Check.due("what -1", x.likely(0, 0, 0, -1), BAD);
    }

    private static void drawn() {
        MatchFund x = Check.told("m10,1;f;g0,0,7;");
        // X 16807: 5 coins from giver 5; X 282475249: 60 coins
        int[][] due = {{0, 0, 93}, {1, 5, 95}, {2, 65, 40}};
        for (int[] d : due) {
            Check.due("drawn(" + d[0] + ", 1, 0)", x.drawn(d[0], 1, 0), d[1]);
            Check.due("drawn(" + d[0] + ", 1, 1)", x.drawn(d[0], 1, 1), d[2]);
        }
        // 16807 leaves 1 by 2: gift 1 of 2, project 32 by 2; gift 0 stays
        MatchFund two = Check.told("m10,1;f;f;g0,0,7;g0,1,9;");
        Check.due("two gifts, PAID", two.drawn(1, 1, 0), 12);
        // giver 5 is in the name of 0, whose cap is one
        MatchFund named = Check.told("m10,1;c;g0,0,7;g0,0,9;");
        Check.due("two names", named.drawn(1, 1, 0), 10);
        named.one(5, 0);
        Check.due("one name", named.drawn(1, 1, 0), 5);
        MatchFund none = Check.told("m10,1;f;");
        Check.due("no gifts, PAID", none.drawn(60, 999999, 0), 0);
        Check.due("no gifts, REST", none.drawn(60, 999999, 1), 100);
        Check.due("n 61", x.drawn(61, 1, 0), BAD);
        Check.due("n -1", x.drawn(-1, 1, 0), BAD);
        Check.due("seed 0", x.drawn(1, 0, 0), BAD);
        Check.due("seed 1000000", x.drawn(1, 1000000, 0), BAD);
        Check.due("what 2", x.drawn(1, 1, 2), BAD);
        Check.due("what -1", x.drawn(1, 1, -1), BAD);
        Check.due("no fund, ahead of BAD", new MatchFund().drawn(-1, 1, 0), STATE);
    }

    private static void changesNothing() {
        MatchFund x = Check.told("m5,3;o;s;f;g0,0,3;g1,0,20;g1,1,30;g0,1,4;g2,2,8;");
        x.row(0, 1, 3);
        int[] before = reading(x);
        x.paidIf(3, 0, 9, 1);
        x.best(3, 9, 0);
        x.least(3, 0, 50);
        x.missed(0, 0);
        x.ring(0);
        x.halves(3, 9, 0, 1, 0);
        x.sets(5, 0);
        x.byTurns(3, 4, 4, 5);
        for (int which = 0; which < 5; which++) {
            x.who(1, which, 0, 0);
        }
        x.likely(0, 3, 4, 0);
        x.drawn(60, 77, 0);
        int[] after = reading(x);
        for (int i = 0; i < before.length; i++) {
            Check.due("reading " + i, after[i], before[i]);
        }
    }

    private static int[] reading(MatchFund x) {
        int[] all = new int[9 + 15 + 7];
        int n = 0;
        for (int p = 0; p < 3; p++) {
            for (int what = 0; what < 3; what++) {
                all[n++] = x.project(p, what);
            }
        }
        for (int g = 0; g < 5; g++) {
            for (int what = 0; what < 3; what++) {
                all[n++] = x.gift(g, what);
            }
        }
        for (int what = 0; what < 7; what++) {
            all[n++] = x.count(what);
        }
        return all;
    }
}
