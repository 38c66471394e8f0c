/** Promises 23 to 33: what is FORETOLD, at the ends of its numbers, where there is none, and where there are several. */
public final class ForetoldBoundsTest {
    private static final int NONE = MatchFund.NONE, BAD = MatchFund.BAD, FULL = MatchFund.FULL;
    private static final int LEAST = Integer.MIN_VALUE, MOST = Integer.MAX_VALUE;

    private ForetoldBoundsTest() {
    }

    public static void main(String[] args) {
        paidIfNothing();
        paidIfAtTheBounds();
        bestOfSeveral();
        bestAtTheBounds();
        leastAtTheBounds();
        leastOfTheGreatest();
        missedOfNone();
        missedOfSeveral();
        ringOfSeveral();
        ringAtTheBounds();
        halvesAtTheBounds();
        halvesOfSeveral();
        setsAtTheBounds();
        turnsAtTheBounds();
        turnsOfTwoGivers();
        turnsOfNone();
        roomForWhatIsForetold();
        Check.end("ForetoldBoundsTest");
    }

    private static MatchFund withGifts(String text, int gifts) {
        MatchFund x = Check.told(text);
        for (int g = x.count(2); g < gifts; g++) {
            x.give(0, 0, 1);
        }
        return x;
    }

    /** "v COINS more (0 to 99; 0: nothing)": not even a further giver. */
    private static void paidIfNothing() {
        MatchFund x = Check.told("m99,1;c;f;g0,0,20;");
        Check.due("nothing of a new giver", x.paidIf(1, 0, 0, 0), 5);
        Check.due("1 of a new giver", x.paidIf(1, 0, 1, 0), 10);
        Check.due("nothing of the same", x.paidIf(0, 0, 0, 0), 5);
        Check.due("1 of the same", x.paidIf(0, 0, 1, 0), 5);
        Check.due("nothing to another", x.paidIf(9, 1, 0, 1), 0);
        MatchFund full = withGifts("m99,1;c;f;g0,0,20;", 20);
        Check.due("nothing, with 20 gifts", full.paidIf(1, 1, 0, 0), 5);
        Check.due("1, with 20 gifts", full.paidIf(1, 1, 1, 0), FULL);
        Check.due("99, with 20 gifts", full.paidIf(1, 1, 99, 0), FULL);
        Check.due("BAD ahead of FULL", full.paidIf(1, 1, 100, 0), BAD);
        Check.due("BAD, of nothing, too", full.paidIf(1, 2, 0, 0), BAD);
    }

    private static void paidIfAtTheBounds() {
        MatchFund x = Check.told("m99,1;f;f;f;f;f;f;g3,5,7;");
        Check.due("99 to the last", x.paidIf(9, 5, 99, 5), 106);
        Check.due("99 to the first", x.paidIf(0, 0, 99, 0), 99);
        Check.due("99 to the first, of the last", x.paidIf(0, 0, 99, 5), 7);
        Check.due("100", x.paidIf(0, 0, 100, 0), BAD);
        Check.due("-1", x.paidIf(0, 0, -1, 0), BAD);
        x.pot(99);
        Check.due("just the pot", x.paidIf(3, 5, 92, 5), 99);
        // 99 of 106 and 7 of 106: 92.46 and 6.5, and 1 to the first
        Check.due("beyond the pot, the first", x.paidIf(0, 0, 99, 0), 93);
        Check.due("beyond the pot, the last", x.paidIf(0, 0, 99, 5), 6);
        Check.due("beyond the pot, of one that claims none", x.paidIf(0, 0, 99, 1), 0);
        MatchFund nineteen = Check.told("m99,1;s;");
        for (int g = 0; g < 19; g++) {
            nineteen.give(g % 10, 0, 99);
        }
        // the greatest that there is: 17816, of which the pot pays 990
        Check.due("the twentieth", nineteen.paidIf(9, 0, 99, 0), 990);
    }

    /** "so that PAID of that is raised most, of several the first: which; by how much (it may be less than 0)" */
    private static void bestOfSeveral() {
        best("all alike", "m99,1;f;f;f;f;f;f;", 3, 0, 3);
        best("the last", "m99,1;c;c;c;c;c;f;", 6, 5, 6);
        best("the first", "m99,1;f;c;c;c;c;c;", 6, 0, 6);
        best("two in the middle", "m99,1;c;o;f;f;c;o;", 6, 2, 6);
        best("nothing is raised", "m0,1;f;f;", 6, 0, 0);
        // two coins more and a claim of 3.09 is 2.97: see ForetoldTest
        best("less than 0", "m99,2;o;g0,0,3;g1,0,5;", 1, 0, -1);
        best("0 is more than less than 0", "m99,2;o;o;g0,0,3;g1,0,5;", 1, 1, 0);
        best("both less than 0", "m99,2;o;o;g0,0,3;g1,0,5;g0,1,3;g2,1,5;", 1, 0, -1);
        // 5 to the capped one; 10 to the flat one, if the first try is taken back again
        best("each tried by itself", "m1,1;c;f;", 10, 1, 10);
        best("each tried by itself, of three", "m1,1;o;c;f;", 10, 2, 10);
        // 28 and 2 by 20: the first gets 19, by 1 more; 18 and 12 by 20: the other gets 8, by 6 more
        best("what is raised, not what is paid", "m2,1;f;f;g5,0,18;g5,1,2;", 10, 1, 6);
    }

    private static void best(String when, String text, int v, int which, int by) {
        MatchFund x = Check.told(text);
        Check.due("best, " + when, x.best(0, v, 0), which);
        Check.due("best by, " + when, x.best(0, v, 1), by);
        if (!text.contains("g")) {
            Check.due("best of another, " + when, x.best(9, v, 0), which);
            Check.due("best by of another, " + when, x.best(9, v, 1), by);
        }
    }

    private static void bestAtTheBounds() {
        MatchFund x = withGifts("m99,1;f;", 19);
        for (int giver = 0; giver < 10; giver += 9) {
            Check.due("1", x.best(giver, 1, 1), 1);
            Check.due("99", x.best(giver, 99, 1), 99);
        }
        Check.due("0", x.best(0, 0, 1), BAD);
        Check.due("100", x.best(0, 100, 1), BAD);
        Check.due("what 2", x.best(0, 1, 2), BAD);
        x.give(0, 0, 1);
        Check.due("20 gifts", x.best(0, 1, 0), FULL);
        Check.due("20 gifts", x.best(0, 99, 1), FULL);
        Check.due("BAD ahead of FULL", x.best(0, 100, 1), BAD);
        MatchFund named = Check.told("m99,1;c;f;g0,0,9;");
        Check.due("one of its own name raises the cap", named.best(1, 5, 0), 0);
        named.one(1, 0);
        Check.due("one in another's does not", named.best(1, 5, 0), 1);
    }

    /** "a goal (1 to 9999): the fewest COINS (1 to 99) more by which its CLAIM is the goal or more; NONE" */
    private static void leastAtTheBounds() {
        MatchFund x = Check.told("m0,1;f;c;o;");
        int[][] flat = {{1, 1}, {2, 2}, {98, 98}, {99, 99}, {100, NONE}, {9999, NONE}};
        for (int[] d : flat) {
            Check.due("flat, goal " + d[0], x.least(0, 0, d[0]), d[1]);
        }
        int[][] capped = {{1, 1}, {5, 5}, {6, NONE}, {9999, NONE}};
        for (int[] d : capped) {
            Check.due("capped, goal " + d[0], x.least(9, 1, d[0]), d[1]);
        }
        Check.due("open, one alone", x.least(0, 2, 1), NONE);
        Check.due("goal 0", x.least(0, 0, 0), BAD);
        Check.due("goal -1", x.least(0, 0, -1), BAD);
        Check.due("goal 10000", x.least(0, 0, 10000), BAD);
        x.give(0, 0, 50);
        Check.due("what it claims already takes 1", x.least(0, 0, 50), 1);
        Check.due("the least goal", x.least(0, 0, 1), 1);
        Check.due("one more", x.least(0, 0, 52), 2);
        Check.due("99 more", x.least(0, 0, 149), 99);
        Check.due("100 more", x.least(0, 0, 150), NONE);
        x.give(1, 1, 20);
        Check.due("another giver's cap", x.least(0, 1, 10), 1);
        x.one(0, 1);
        Check.due("the same name's", x.least(0, 1, 10), NONE);
        MatchFund full = withGifts("m0,1;f;", 20);
        Check.due("20 gifts", full.least(0, 0, 1), FULL);
        Check.due("20 gifts, a goal that is met", full.least(0, 0, 20), FULL);
        Check.due("BAD ahead of FULL", full.least(0, 0, 0), BAD);
        Check.due("19 gifts", withGifts("m0,1;f;", 19).least(0, 0, 20), 1);
    }

    private static void leastOfTheGreatest() {
        MatchFund x = Check.told("m0,1;s;");
        for (int g = 0; g < 18; g++) {
            x.give(g % 9, 0, 60);
        }
        // nine roots of 1095; by 48 coins 10547 squared by 10,000 less 1128 is 9995, by 49 it is 10011
        Check.due("goal 9995", x.least(9, 0, 9995), 48);
        Check.due("goal 9996", x.least(9, 0, 9996), 49);
        Check.due("goal 9999", x.least(9, 0, 9999), 49);
    }

    /** "NONE: there is none": no GIVER of its own NAME of whom a SUM is above 0. */
    private static void missedOfNone() {
        MatchFund x = Check.told("m9,1;f;f;");
        for (int what = 0; what < 2; what++) {
            Check.due("no gifts", x.missed(0, what), NONE);
            Check.due("no gifts, of the last", x.missed(1, what), NONE);
        }
        x.give(9, 1, 1);
        Check.due("to anything", x.missed(0, 0), 9);
        Check.due("how much", x.missed(0, 1), 0);
        Check.due("to it", x.missed(1, 0), 9);
        Check.due("how much", x.missed(1, 1), 0);
        x.one(9, 8);
        Check.due("in another's name", x.missed(1, 0), 8);
        x.back(0);
        Check.due("taken back", x.missed(1, 0), NONE);
        Check.due("taken back", x.missed(1, 1), NONE);
        Check.due("project 2", x.missed(2, 0), BAD);
        Check.due("what 2", x.missed(0, 2), BAD);
        Check.due("what -1", x.missed(0, -1), BAD);
    }

    /** "without whose GIFTS (and those in its NAME) PAID of it is least, of several the first" */
    private static void missedOfSeveral() {
        MatchFund x = Check.told("m99,1;f;f;g1,0,5;g2,0,5;g9,1,5;g0,1,2;");
        Check.due("of two alike the first", x.missed(0, 0), 1);
        Check.due("how much", x.missed(0, 1), 5);
        Check.due("the last giver", x.missed(1, 0), 9);
        Check.due("how much", x.missed(1, 1), 2);
        x.one(2, 9);
        Check.due("9, with what 2 gave, is like 1", x.missed(0, 0), 1);
        x.give(2, 0, 1);
        Check.due("9, with what 2 gave", x.missed(0, 0), 9);
        Check.due("how much", x.missed(0, 1), 5);
        // a rival who leaves raises what is paid, so it is not the greatest giver of all who is missed most
        MatchFund tight = Check.told("m2,1;f;f;g1,0,15;g2,1,15;g3,1,5;");
        // 15 and 20 of 20: 8.57 and 11.4, and 1 to the first
        Check.due("paid of 0", tight.project(0, 1), 9);
        Check.due("who is missed of 1", tight.missed(1, 0), 2);
        Check.due("how much", tight.missed(1, 1), 5);
        Check.due("who is missed of 0", tight.missed(0, 0), 1);
        MatchFund all = Check.told("m0,1;f;g4,0,9;g5,0,9;");
        Check.due("an empty pot", all.missed(0, 0), 4);
        Check.due("an empty pot", all.missed(0, 1), 0);
    }

    /** "of several the first two (by the lesser, then the greater)" */
    private static void ringOfSeveral() {
        ring("m9,1;f;f;g0,0,4;g5,0,4;g1,1,4;g2,1,4;", 0, 5, 4);
        ring("m9,1;f;g0,0,4;g5,0,4;g3,0,4;", 0, 3, 4);
        // root(5) is 223: 223 * 223 = 49729 is 4, no more than that of the first two
        ring("m9,1;f;f;g0,0,4;g1,0,4;g8,1,5;g9,1,5;", 0, 1, 4);
        ring("m9,1;f;f;g0,0,4;g1,0,4;g8,1,6;g9,1,6;", 8, 9, 5);
        ring("m9,1;f;f;g7,0,4;g8,0,4;g8,1,4;g9,1,4;", 7, 8, 4);
        ring("m9,1;f;f;g8,0,4;g9,0,4;g1,1,3;g9,1,3;", 8, 9, 4);
    }

    private static void ring(String text, int lesser, int greater, int much) {
        MatchFund x = Check.told(text);
        Check.due("the lesser of " + text, x.ring(0), lesser);
        Check.due("the greater of " + text, x.ring(1), greater);
        Check.due("how much, of " + text, x.ring(2), much);
    }

    /** "NONE: no two have any" */
    private static void ringAtTheBounds() {
        MatchFund x = Check.told("m9,1;f;f;g0,0,1;");
        ringOfNone("one giver", x);
        x.give(9, 1, 99);
        ringOfNone("two, apart", x);
        x.give(9, 0, 1);
        Check.due("the lesser", x.ring(0), 0);
        Check.due("the greater", x.ring(1), 9);
        Check.due("the least that there is", x.ring(2), 1);
        x.one(0, 9);
        ringOfNone("two of one name", x);
        ringOfNone("no gifts", Check.told("m9,1;f;"));
        Check.due("what 3", x.ring(3), BAD);
        Check.due("what -1", x.ring(-1), BAD);
        MatchFund one = Check.told("m9,1;f;g0,0,1;g1,0,1;");
        Check.due("0 and 1", one.ring(0) * 10 + one.ring(1), 1);
    }

    private static void ringOfNone(String when, MatchFund x) {
        for (int what = 0; what < 3; what++) {
            Check.due("ring(" + what + "), " + when, x.ring(what), NONE);
        }
    }

    /** "n COINS (1 to 40), PROJECTS a and b" */
    private static void halvesAtTheBounds() {
        MatchFund x = Check.told("m99,1;f;o;c;");
        int[] sums = {1, 2, 39, 40};
        for (int n : sums) {
            Check.due("all to a, of " + n, x.halves(0, n, 0, 1, 0), n);
            Check.due("how much, of " + n, x.halves(0, n, 0, 1, 1), n);
            Check.due("all to b, of " + n, x.halves(9, n, 1, 0, 0), 0);
            Check.due("how much, of " + n, x.halves(9, n, 1, 0, 1), n);
        }
        Check.due("n 0", x.halves(0, 0, 0, 1, 0), BAD);
        Check.due("n 41", x.halves(0, 41, 0, 1, 0), BAD);
        Check.due("a 3", x.halves(0, 1, 3, 1, 0), BAD);
        Check.due("b 3", x.halves(0, 1, 0, 3, 0), BAD);
        Check.due("what 2", x.halves(0, 1, 0, 1, 2), BAD);
        Check.due("all but 5", x.halves(0, 40, 0, 2, 0), 35);
        Check.due("5 alone", x.halves(0, 40, 2, 1, 0), 5);
        Check.due("how much", x.halves(0, 40, 2, 1, 1), 5);
        MatchFund full = withGifts("m99,1;f;f;", 19);
        Check.due("19 gifts", full.halves(0, 1, 0, 1, 0), FULL);
        Check.due("19 gifts, to one alone", full.halves(0, 1, 0, 0, 0), FULL);
        Check.due("BAD ahead of FULL", full.halves(0, 0, 0, 1, 0), BAD);
        full.back(0);
        Check.due("18 gifts", full.halves(0, 40, 0, 1, 1), 58);
    }

    /** "so that PAID of both together (of one alone, if they are the same) is most, of several the fewest" */
    private static void halvesOfSeveral() {
        MatchFund x = Check.told("m99,1;f;f;c;g5,1,3;");
        Check.due("any will do: none", x.halves(0, 40, 0, 1, 0), 0);
        Check.due("both together", x.halves(0, 40, 0, 1, 1), 43);
        Check.due("the same: none", x.halves(0, 40, 1, 1, 0), 0);
        Check.due("the same: of one alone", x.halves(0, 40, 1, 1, 1), 43);
        // 5 or more to the flat one, the others to the capped one, all make 10
        Check.due("the fewest", x.halves(0, 10, 0, 2, 0), 5);
        Check.due("the fewest, the other way", x.halves(0, 10, 2, 0, 0), 0);
        // who has given to the capped one raises nothing there; another's first coin raises its cap from 5 to 10
        MatchFund capped = Check.told("m99,1;c;f;g0,0,9;");
        Check.due("the same giver", capped.halves(0, 10, 0, 1, 0), 0);
        Check.due("the same giver, how much", capped.halves(0, 10, 0, 1, 1), 15);
        Check.due("another giver", capped.halves(1, 10, 0, 1, 0), 1);
        Check.due("another giver, how much", capped.halves(1, 10, 0, 1, 1), 19);
        Check.due("another giver, the other way", capped.halves(1, 10, 1, 0, 0), 9);
        Check.due("another giver, the other way", capped.halves(1, 10, 1, 0, 1), 19);
        x.pot(0);
        Check.due("nothing is paid", x.halves(0, 40, 2, 0, 0), 0);
        Check.due("nothing is paid", x.halves(0, 40, 2, 0, 1), 0);
        x.pot(10);
        // the 3 of project 1 alone keep the two from all of the pot: 40 by 43 of 10 is 9.3
        Check.due("a tight pot, how much", x.halves(0, 40, 0, 2, 1), 10);
    }

    /** "sets of PROJECTS that are PAID v together (0 to 999): how many; in all of these (none: 0); in any" */
    private static void setsAtTheBounds() {
        sets(Check.told("m9,1;f;f;f;f;f;f;"), 0, 64, 0, 63);
        sets(Check.told("m9,1;f;f;f;f;f;f;"), 1, 0, 0, 0);
        sets(Check.told("m9,1;f;"), 0, 2, 0, 1);
        MatchFund one = Check.told("m9,1;f;f;f;g0,1,5;");
        sets(one, 0, 4, 0, 5);
        sets(one, 5, 4, 2, 7);
        sets(one, 4, 0, 0, 0);
        sets(one, 6, 0, 0, 0);
        MatchFund six = Check.told("m99,1;f;f;f;f;f;f;g0,0,1;g0,1,2;g0,2,4;g0,3,8;g0,4,16;g0,5,32;");
        for (int v = 0; v < 64; v++) {
            sets(six, v, 1, v, v);
        }
        sets(six, 64, 0, 0, 0);
        // 594 and 495 of 999: 544.9 and 454.09, and 1 to the first
        MatchFund great = Check.told("m0,1;f;f;" + "g0,0,99;".repeat(6) + "g0,1,99;".repeat(5));
        great.pot(999);
        sets(great, 999, 1, 3, 3);
        sets(great, 998, 0, 0, 0);
        sets(great, 545, 1, 1, 1);
        sets(great, 454, 1, 2, 2);
        sets(great, 0, 1, 0, 0);
        Check.due("v 1000", great.sets(1000, 0), BAD);
        Check.due("v -1", great.sets(-1, 0), BAD);
        Check.due("what 3", great.sets(0, 3), BAD);
        Check.due("what -1", great.sets(0, -1), BAD);
    }

    private static void sets(MatchFund x, int v, int many, int inAll, int inAny) {
        Check.due("sets(" + v + ", 0)", x.sets(v, 0), many);
        Check.due("sets(" + v + ", 1)", x.sets(v, 1), inAll);
        Check.due("sets(" + v + ", 2)", x.sets(v, 2), inAny);
    }

    private static void turns(String when, MatchFund x, int v, int... due) {
        for (int n = 0; n < due.length; n++) {
            Check.due(n + " turns by " + v + ", " + when, x.byTurns(0, 1, n, v), due[n]);
        }
    }

    /** "n in all (0 to 4), by v COINS (1 to 20)" */
    private static void turnsAtTheBounds() {
        MatchFund flat = Check.told("m99,1;f;o;f;g0,0,9;g0,2,2;");
        turns("flat", flat, 1, 7, 8, 7, 8, 7);
        turns("flat", flat, 20, 7, 27, 7, 27, 7);
        // the first is filled by 5 of a, the last by nothing: each turn tells
        turns("a cap", Check.told("m99,1;c;f;"), 3, 0, 3, 0, 2, -1);
        turns("a cap", Check.told("m99,1;c;f;"), 20, 0, 5, -15, -15, -35);
        turns("the other cap", Check.told("m99,1;f;c;"), 3, 0, 3, 0, 3, 1);
        Check.due("n -1", flat.byTurns(0, 1, -1, 1), BAD);
        Check.due("n 5", flat.byTurns(0, 1, 5, 1), BAD);
        Check.due("v 0", flat.byTurns(0, 1, 1, 0), BAD);
        Check.due("v 21", flat.byTurns(0, 1, 1, 21), BAD);
        Check.due("0 and 9", flat.byTurns(0, 9, 2, 20), 7);
        Check.due("9 and 0", flat.byTurns(9, 0, 2, 20), 7);
        MatchFund named = Check.told("m99,1;c;f;g0,0,5;g0,1,3;");
        Check.due("another's gift raises the cap", named.byTurns(1, 0, 1, 9), 7);
        named.one(1, 0);
        Check.due("one in its name does not", named.byTurns(1, 0, 1, 9), 2);
        Check.due("two of one name", named.byTurns(0, 1, 2, 9), -7);
    }

    /** Whose turn it is tells by the caps: a second gift of one who has given 5 raises nothing. */
    private static void turnsOfTwoGivers() {
        int[] fresh = {-5, 0, -5, -5, -5};
        int[] filled = {0, 0, -5, -5, -5};
        MatchFund x = Check.told("m99,1;c;c;g0,1,5;");
        MatchFund y = Check.told("m99,1;c;c;g2,0,5;g0,1,5;");
        for (int n = 0; n <= 4; n++) {
            Check.due("a has given nothing, " + n, x.byTurns(2, 3, n, 5), fresh[n]);
            Check.due("a does nothing, " + n, y.byTurns(2, 3, n, 5), filled[n]);
        }
        MatchFund named = Check.told("m99,1;f;c;g0,1,5;");
        Check.due("b raises the cap of the last", named.byTurns(2, 1, 2, 3), 3 - 8);
        Check.due("b is the one who filled it", named.byTurns(2, 0, 2, 3), 3 - 5);
        named.one(1, 0);
        Check.due("b gives in that one's name", named.byTurns(2, 1, 2, 3), 3 - 5);
    }

    /** To do nothing is a turn, too; of one project the first is the last. */
    private static void turnsOfNone() {
        turns("one project", Check.told("m99,1;f;g0,0,50;"), 20, 0, 0, 0, 0, 0);
        turns("an empty pot", Check.told("m0,1;f;f;g0,0,50;"), 20, 0, 0, 0, 0, 0);
        // open ones claim nothing of one alone; a's coin beside b's would, so b gives none where a gave
        turns("open ones", Check.told("m99,9;o;o;"), 1, 0, 0, 0, 0, 0);
        // a has lowered a claim by a coin more (3.09 to 2.97): better none at all
        turns("a claim that sinks", Check.told("m99,2;o;f;g0,0,3;g1,0,5;"), 1, 3, 3);
    }

    /** What would be given has to find room among 20, whether or not so much is given. */
    private static void roomForWhatIsForetold() {
        MatchFund x = withGifts("m99,1;f;f;", 16);
        Check.due("16 gifts", x.byTurns(0, 1, 4, 1), 16);
        x.give(0, 0, 1);
        for (int n = 0; n <= 4; n++) {
            Check.due("17 gifts", x.byTurns(0, 1, n, 1), FULL);
        }
        Check.due("BAD ahead of FULL", x.byTurns(0, 1, 5, 1), BAD);
        Check.due("halves by 17", x.halves(0, 1, 0, 1, 1), 18);
        x.give(0, 0, 1);
        Check.due("halves by 18", x.halves(0, 1, 0, 1, 1), 19);
        x.give(0, 0, 1);
        Check.due("halves by 19", x.halves(0, 1, 0, 1, 1), FULL);
        Check.due("best by 19", x.best(0, 1, 1), 1);
        Check.due("least by 19", x.least(0, 0, 1), 1);
        Check.due("paidIf by 19", x.paidIf(0, 0, 1, 0), 20);
        x.give(0, 0, 1);
        Check.due("best by 20", x.best(0, 1, 1), FULL);
        Check.due("least by 20", x.least(0, 0, 1), FULL);
        Check.due("paidIf by 20", x.paidIf(0, 0, 1, 0), FULL);
        Check.due("missed by 20", x.missed(0, 0), 0);
        Check.due("drawn by 20", x.drawn(0, 1, 1), 970);
        Check.due("likely by 20", x.likely(0, 20, 0, 0), 1);
        Check.due("sets by 20", x.sets(20, 0), 2);
        Check.due("wild numbers", x.byTurns(LEAST, MOST, MOST, LEAST), BAD);
    }
}
