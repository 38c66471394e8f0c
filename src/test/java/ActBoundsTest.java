/** Promises 9 to 16, 34, 35 and 40, and what the document says of ACTS, NAMES and IMAGES, at their bounds. */
public final class ActBoundsTest {
    private static final int BAD = MatchFund.BAD, STATE = MatchFund.STATE, FULL = MatchFund.FULL;

    private ActBoundsTest() {
    }

    public static void main(String[] args) {
        givesAtTheBounds();
        twentyGifts();
        backAtTheEnds();
        backOfAll();
        potsAtTheBounds();
        kindsAtTheBounds();
        oneAndItsStates();
        allInItsName();
        allTenAreOne();
        whoGaveIt();
        undoOfNone();
        acts24();
        actsOfAllSorts();
        actsGoRound();
        refusedIsNoAct();
        imagesAtTheBounds();
        imagesApart();
        imagesOfAnotherFund();
        countsAtTheBounds();
        Check.end("ActBoundsTest");
    }

    private static void gift(MatchFund x, int g, int giver, int project, int coins) {
        Check.due("giver of " + g, x.gift(g, 0), giver);
        Check.due("project of " + g, x.gift(g, 1), project);
        Check.due("coins of " + g, x.gift(g, 2), coins);
    }

    /** give: "BAD: GIVER, PROJECT, COINS", each at its ends; "it comes last". */
    private static void givesAtTheBounds() {
        MatchFund x = Check.told("m9,1;f;f;f;f;f;f;");
        int[][] fine = {{0, 0, 1}, {9, 0, 1}, {0, 5, 1}, {0, 0, 99}, {9, 5, 99}};
        for (int i = 0; i < fine.length; i++) {
            Check.due("give", x.give(fine[i][0], fine[i][1], fine[i][2]), i + 1);
            gift(x, i, fine[i][0], fine[i][1], fine[i][2]);
            Check.due("acts", x.count(5), i + 1);
        }
        int[][] wrong = {{-1, 0, 1}, {10, 0, 1}, {0, -1, 1}, {0, 6, 1}, {0, 0, 0}, {0, 0, 100}, {0, 0, -1}};
        for (int[] w : wrong) {
            Check.due("give", x.give(w[0], w[1], w[2]), BAD);
        }
        Check.due("five gifts", x.count(2), 5);
        MatchFund one = Check.told("m9,1;f;");
        Check.due("the only project", one.give(0, 0, 1), 1);
        Check.due("no second project", one.give(0, 1, 1), BAD);
    }

    private static MatchFund twenty() {
        MatchFund x = Check.told("m9,1;f;f;");
        for (int g = 0; g < 20; g++) {
            Check.due("gift " + g, x.give(g % 10, g % 2, g + 1), g + 1);
        }
        return x;
    }

    private static void twentyAsGiven(MatchFund x) {
        Check.due("twenty", x.count(2), 20);
        for (int g = 0; g < 20; g++) {
            gift(x, g, g % 10, g % 2, g + 1);
        }
    }

    /** "GIFTS 0 .. 19, 20 at most"; "FULL: 20". */
    private static void twentyGifts() {
        MatchFund x = twenty();
        twentyAsGiven(x);
        Check.due("gift 20", x.gift(20, 0), BAD);
        Check.due("the 21st", x.give(0, 0, 1), FULL);
        Check.due("BAD ahead of FULL", x.give(0, 2, 1), BAD);
        Check.due("no act", x.count(5), 20);
        Check.due("back", x.back(19), 20);
        Check.due("room again", x.give(7, 1, 77), 20);
        gift(x, 19, 7, 1, 77);
        Check.due("full again", x.give(0, 0, 1), FULL);
        Check.due("undo", x.undo(), 21);
        Check.due("undo", x.undo(), 20);
        twentyAsGiven(x);
        Check.due("full again", x.give(0, 0, 1), FULL);
        Check.due("all coins", x.count(4), 210);
    }

    /** back: "those behind it get lesser numbers", undone at the first, the last and a middle place of twenty. */
    private static void backAtTheEnds() {
        for (int at : new int[] {0, 1, 10, 18, 19}) {
            MatchFund x = twenty();
            Check.due("back(" + at + ")", x.back(at), at + 1);
            Check.due("nineteen", x.count(2), 19);
            for (int g = 0; g < 19; g++) {
                int was = g < at ? g : g + 1;
                gift(x, g, was % 10, was % 2, was + 1);
            }
            Check.due("no gift 19", x.gift(19, 0), BAD);
            Check.due("no gift 19", x.back(19), BAD);
            Check.due("undo", x.undo(), 20);
            twentyAsGiven(x);
        }
    }

    private static void backOfAll() {
        MatchFund x = Check.told("m9,1;f;f;g3,1,30;g4,0,40;g5,1,50;");
        Check.due("back(3)", x.back(3), BAD);
        Check.due("back(-1)", x.back(-1), BAD);
        Check.due("the first", x.back(0), 30);
        Check.due("the last", x.back(1), 50);
        Check.due("the only one", x.back(0), 40);
        Check.due("of none", x.back(0), BAD);
        Check.due("no gifts", x.count(2), 0);
        Check.due("no coins", x.count(4), 0);
        Check.due("undo", x.undo(), 2);
        gift(x, 0, 4, 0, 40);
        Check.due("undo", x.undo(), 1);
        gift(x, 0, 4, 0, 40);
        gift(x, 1, 5, 1, 50);
        Check.due("undo", x.undo(), 0);
        gift(x, 0, 3, 1, 30);
        gift(x, 1, 4, 0, 40);
        gift(x, 2, 5, 1, 50);
    }

    /** pot: "POT (0 to 999 coins) is another: what it was." */
    private static void potsAtTheBounds() {
        MatchFund x = Check.told("m99,1;f;");
        int[] pots = {0, 1, 998, 999, 999, 0};
        int was = 990;
        for (int i = 0; i < pots.length; i++) {
            Check.due("pot(" + pots[i] + ")", x.pot(pots[i]), was);
            Check.due("POT", x.count(3), pots[i]);
            Check.due("POT", x.stand(0), pots[i]);
            Check.due("acts", x.count(5), i + 1);
            was = pots[i];
        }
        Check.due("pot(-1)", x.pot(-1), BAD);
        Check.due("pot(1000)", x.pot(1000), BAD);
        Check.due("POT stays", x.count(3), 0);
        for (int i = pots.length - 1; i >= 0; i--) {
            Check.due("undo", x.undo(), i);
            Check.due("POT", x.count(3), i == 0 ? 990 : pots[i - 1]);
        }
    }

    /** become: "of another KIND (1 to 5): what it was. BAD; STATE: it is that." */
    private static void kindsAtTheBounds() {
        for (int from = 1; from <= 5; from++) {
            for (int to = 0; to <= 6; to++) {
                MatchFund x = Check.told("m9,1;c;" + "oshfc".charAt(from - 1) + ";o;");
                int due = to < 1 || to > 5 ? BAD : to == from ? STATE : from;
                boolean done = due == from;
                Check.due("become from " + from + " to " + to, x.become(1, to), due);
                Check.due("kind", x.kind(1), done ? to : from);
                Check.due("acts", x.count(5), done ? 1 : 0);
                Check.due("undo", x.undo(), done ? 0 : STATE);
                Check.due("kind", x.kind(1), from);
                Check.due("those beside it", x.kind(0) * 10 + x.kind(2), 51);
            }
        }
        MatchFund x = Check.told("m9,1;f;f;f;f;f;f;");
        Check.due("the first", x.become(0, 1), 4);
        Check.due("the last", x.become(5, 5), 4);
        Check.due("beyond", x.become(6, 1), BAD);
        Check.due("below", x.become(-1, 1), BAD);
        Check.due("BAD ahead of STATE", x.become(6, 4), BAD);
    }

    /** one: "BAD: a is b, too; STATE: no FUND (ahead of BAD); their NAMES are the same." */
    private static void oneAndItsStates() {
        MatchFund x = Check.told("m9,1;f;g1,0,10;g2,0,20;g3,0,30;");
        Check.due("one(1, 2)", x.one(1, 2), 2);
        Check.due("again", x.one(1, 2), STATE);
        Check.due("the other way", x.one(2, 1), STATE);
        Check.due("with itself: BAD, though the names are the same", x.one(2, 2), BAD);
        Check.due("one(3, 1): the NAME of 1", x.one(3, 1), 2);
        Check.due("both in another's", x.one(1, 3), STATE);
        Check.due("both in another's", x.one(3, 1), STATE);
        Check.due("acts", x.count(5), 2);
        Check.due("0 and 9", x.one(0, 9), 9);
        Check.due("the name of 0", x.nameOf(0), 9);
        Check.due("9 and 1", x.one(9, 1), 2);
        Check.due("the name of 0", x.nameOf(0), 2);
        Check.due("the name of 9", x.nameOf(9), 2);
        // an act undone makes two of them again
        Check.due("undo", x.undo(), 3);
        Check.due("the name of 0", x.nameOf(0), 9);
        Check.due("the name of 9", x.nameOf(9), 9);
        Check.due("undo", x.undo(), 2);
        Check.due("the name of 0", x.nameOf(0), 0);
        Check.due("one again", x.one(0, 9), 9);
    }

    /** "all in its NAME, too, are in that other one's NAME then", and only those go back. */
    private static void allInItsName() {
        MatchFund x = Check.told("m9,1;f;g0,0,1;g1,0,2;g2,0,4;g3,0,8;g4,0,16;");
        x.one(0, 1);
        x.one(2, 3);
        Check.due("two names of two", x.one(1, 3), 3);
        int[] due = {3, 3, 3, 3, 4};
        for (int g = 0; g < 5; g++) {
            Check.due("nameOf " + g, x.nameOf(g), due[g]);
            Check.due("sum of " + g, x.sum(g, 0), g == 3 ? 15 : g == 4 ? 16 : 0);
            Check.due("who gave it", x.gift(g, 0), g);
        }
        Check.due("undo", x.undo(), 2);
        int[] before = {1, 1, 3, 3, 4};
        int[] sums = {0, 3, 0, 12, 16};
        for (int g = 0; g < 5; g++) {
            Check.due("nameOf " + g, x.nameOf(g), before[g]);
            Check.due("sum of " + g, x.sum(g, 0), sums[g]);
        }
        // 0, who gives in the name of 1, is found to be one with 4: 1 is, too
        Check.due("one in another's name", x.one(0, 4), 4);
        Check.due("nameOf(0)", x.nameOf(0), 4);
        Check.due("nameOf(1)", x.nameOf(1), 4);
        // a gift of one in another's name counts in that name, and goes back with it
        x.give(0, 0, 32);
        Check.due("sum of 4", x.sum(4, 0), 51);
        x.undo();
        x.undo();
        Check.due("sum of 1", x.sum(1, 0), 3);
        Check.due("sum of 4", x.sum(4, 0), 16);
    }

    private static void allTenAreOne() {
        MatchFund x = Check.told("m9,1;f;g0,0,1;g9,0,2;");
        for (int g = 1; g < 10; g++) {
            Check.due("one(" + g + ", 0)", x.one(g, 0), 0);
        }
        for (int g = 0; g < 10; g++) {
            Check.due("nameOf " + g, x.nameOf(g), 0);
            Check.due("no two are left", x.one(g, (g + 1) % 10), STATE);
        }
        Check.due("sum of 0", x.sum(0, 0), 3);
        for (int g = 9; g > 0; g--) {
            Check.due("undo", x.undo(), g - 1);
            Check.due("nameOf " + g, x.nameOf(g), g);
            Check.due("nameOf " + (g - 1), x.nameOf(g - 1), 0);
        }
        Check.due("sum of 9", x.sum(9, 0), 2);
        // a chain: each into the next one's name, so all move each time
        for (int g = 0; g < 9; g++) {
            Check.due("chain", x.one(g, g + 1), g + 1);
            Check.due("the first goes along", x.nameOf(0), g + 1);
        }
        for (int g = 8; g >= 0; g--) {
            x.undo();
            Check.due("the first comes back", x.nameOf(0), g);
            Check.due("the name of " + (g + 1), x.nameOf(g + 1), g + 1);
        }
    }

    /** gift: "GIVER (who gave it)", not in whose NAME, when it is given, taken back, undone and kept in an image. */
    private static void whoGaveIt() {
        MatchFund x = Check.told("m9,1;f;f;g3,0,5;");
        x.one(3, 4);
        Check.due("in the name of 4", x.give(3, 1, 6), 2);
        gift(x, 0, 3, 0, 5);
        gift(x, 1, 3, 1, 6);
        Check.due("sum of 4", x.sum(4, 1), 6);
        for (int g = 0; g < 2; g++) {
            Check.due("back", x.back(g), 5 + g);
            Check.due("undo", x.undo(), 2);
            gift(x, g, 3, g, 5 + g);
        }
        x.image(0);
        x.restore(0);
        gift(x, 1, 3, 1, 6);
        Check.due("3 goes on to the name of 5", x.one(4, 5), 5);
        gift(x, 1, 3, 1, 6);
        Check.due("sum of 5", x.sum(5, 1), 6);
    }

    /** undo: "STATE: none." */
    private static void undoOfNone() {
        Check.due("of a new object", new MatchFund().undo(), STATE);
        MatchFund x = Check.told("m9,1;f;g0,0,1;");
        Check.due("of a text", x.undo(), STATE);
        Check.due("its gift stays", x.count(2), 1);
        x.image(0);
        Check.due("an image is no act", x.undo(), STATE);
        x.pot(5);
        Check.due("the only act", x.undo(), 0);
        Check.due("none is left", x.undo(), STATE);
        Check.due("what is undone cannot be undone", x.count(3), 90);
    }

    /** "24 at most are kept, of more the oldest is forgotten; the latest first". */
    private static void acts24() {
        for (int acts = 23; acts <= 26; acts++) {
            MatchFund x = Check.told("m50,1;f;");
            for (int v = 1; v <= acts; v++) {
                x.pot(v);
                Check.due("acts", x.count(5), Math.min(v, 24));
            }
            int kept = Math.min(acts, 24);
            for (int left = kept - 1; left >= 0; left--) {
                Check.due("undo", x.undo(), left);
                int v = acts - kept + left;
                Check.due("POT", x.count(3), v == 0 ? 500 : v);
            }
            Check.due("none is left", x.undo(), STATE);
            Check.due("POT", x.count(3), acts <= 24 ? 500 : acts - 24);
        }
    }

    /** Each sort of act as the oldest that is kept, and as the one that is just forgotten. */
    private static void actsOfAllSorts() {
        for (int sort = 0; sort < 5; sort++) {
            for (int more = 23; more <= 24; more++) {
                MatchFund x = Check.told("m9,1;f;o;g0,0,11;g1,1,22;");
                act(x, sort);
                for (int v = 0; v < more; v++) {
                    x.pot(100 + v);
                }
                for (int left = 23; left >= 0; left--) {
                    Check.due("undo", x.undo(), left);
                }
                Check.due("none is left", x.undo(), STATE);
                boolean forgotten = more == 24;
                Check.due("a gift given or taken back", x.count(2), forgotten ? sort == 0 ? 3 : sort == 1 ? 1 : 2 : 2);
                Check.due("POT", x.count(3), forgotten && sort == 2 ? 7 : 90);
                Check.due("KIND", x.kind(1), forgotten && sort == 3 ? 5 : 1);
                Check.due("NAME", x.nameOf(0), forgotten && sort == 4 ? 1 : 0);
                gift(x, 0, forgotten && sort == 1 ? 1 : 0, forgotten && sort == 1 ? 1 : 0, forgotten && sort == 1 ? 22 : 11);
            }
        }
    }

    private static void act(MatchFund x, int sort) {
        switch (sort) {
            case 0 -> x.give(2, 0, 33);
            case 1 -> x.back(0);
            case 2 -> x.pot(7);
            case 3 -> x.become(1, 5);
            default -> x.one(0, 1);
        }
    }

    /** Done and undone over and over, so that any round store of acts wraps more than once. */
    private static void actsGoRound() {
        MatchFund x = Check.told("m1,1;f;");
        int[] pots = new int[200];
        pots[0] = 10;
        int top = 0;
        int floor = 0;
        int[] done = {20, 10, 24, 5, 30};
        int[] undone = {7, 16, 3, 24, 24};
        for (int round = 0; round < done.length; round++) {
            for (int i = 0; i < done[round]; i++) {
                top++;
                pots[top] = 100 + top + round;
                x.pot(pots[top]);
                floor = Math.max(floor, top - 24);
            }
            for (int i = 0; i < undone[round]; i++) {
                boolean any = top > floor;
                top -= any ? 1 : 0;
                Check.due("undo", x.undo(), any ? top - floor : STATE);
                Check.due("POT", x.count(3), pots[top]);
            }
        }
        Check.due("acts", x.count(5), top - floor);
    }

    private static void refusedIsNoAct() {
        MatchFund x = twenty();
        int[] refused = {
            x.give(0, 0, 1), x.give(10, 0, 1), x.back(20), x.pot(1000), x.become(0, 4), x.become(0, 9), x.one(1, 1),
        };
        int[] due = {FULL, BAD, BAD, BAD, STATE, BAD, BAD};
        for (int i = 0; i < due.length; i++) {
            Check.due("refused", refused[i], due[i]);
        }
        Check.due("acts", x.count(5), 20);
        Check.due("undo", x.undo(), 19);
        Check.due("the twentieth is undone", x.count(4), 190);
        x.one(1, 2);
        Check.due("names that are the same", x.one(2, 1), STATE);
        Check.due("acts", x.count(5), 20);
    }

    /** image, restore: "An IMAGE (0, 1)"; "BAD; STATE". */
    private static void imagesAtTheBounds() {
        MatchFund x = new MatchFund();
        for (int k : new int[] {-1, 2, Integer.MIN_VALUE, Integer.MAX_VALUE}) {
            Check.due("image(" + k + ") without a fund: BAD first", x.image(k), BAD);
            Check.due("restore(" + k + ") of none: BAD first", x.restore(k), BAD);
        }
        for (int k = 0; k < 2; k++) {
            MatchFund y = new MatchFund();
            Check.due("no fund", y.image(k), STATE);
            Check.due("none was kept", y.restore(k), STATE);
            Check.feedAll(y, "m4,1;f;");
            y.fund();
            Check.due("none was kept", y.restore(k), STATE);
            Check.due("image", y.image(k), 1);
            Check.due("the other was not kept", y.restore(1 - k), STATE);
            Check.due("restore", y.restore(k), 1);
            Check.due("restore again", y.restore(k), 1);
        }
    }

    /** "The FUND is as an IMAGE kept it (no ACT can be undone then)" */
    private static void imagesApart() {
        MatchFund x = twenty();
        x.pot(999);
        x.become(0, 5);
        x.one(3, 4);
        x.image(1);
        Check.due("an image leaves the acts", x.count(5), 23);
        x.undo();
        x.undo();
        x.undo();
        x.back(0);
        x.image(0);
        for (int g = x.count(2); g > 0; g--) {
            x.back(0);
        }
        Check.due("restore(1)", x.restore(1), 1);
        Check.due("acts", x.count(5), 0);
        Check.due("undo", x.undo(), STATE);
        twentyAsGiven(x);
        Check.due("POT", x.count(3), 999);
        Check.due("KIND", x.kind(0), 5);
        Check.due("NAME", x.nameOf(3), 4);
        Check.due("full", x.give(0, 0, 1), FULL);
        Check.due("restore(0)", x.restore(0), 1);
        Check.due("nineteen", x.count(2), 19);
        Check.due("POT", x.count(3), 90);
        Check.due("KIND", x.kind(0), 4);
        Check.due("NAME", x.nameOf(3), 3);
        gift(x, 0, 1, 1, 2);
        x.back(0);
        Check.due("an act since then", x.undo(), 0);
    }

    /** Images keep the ease and the projects, too, and stay when another fund is read. */
    private static void imagesOfAnotherFund() {
        MatchFund x = Check.told("m9,99;o;o;c;g0,0,9;g1,0,9;g0,1,4;");
        int term = x.term(0, 1, 0);
        x.image(0);
        Check.feedAll(x, "m1,1;f;");
        x.fund();
        x.image(1);
        Check.due("restore(0)", x.restore(0), 1);
        Check.due("projects", x.count(1), 3);
        Check.due("gifts", x.count(2), 3);
        // 18 * 99 / (99 + 9)
        Check.due("EASE", x.term(0, 1, 0), term);
        Check.due("EASE", term, 16);
        Check.due("KIND", x.kind(2), 5);
        Check.due("restore(1)", x.restore(1), 1);
        Check.due("projects", x.count(1), 1);
        Check.due("gifts", x.count(2), 0);
        Check.due("no second project", x.kind(1), BAD);
        Check.due("POT", x.count(3), 10);
    }

    /** count: 0 to 6, and what they are at most. */
    private static void countsAtTheBounds() {
        MatchFund x = Check.told("m0,1;f;f;f;f;f;f;");
        for (int row = 0; row < 8; row++) {
            x.row(row, 0, 0);
        }
        for (int g = 0; g < 20; g++) {
            x.give(0, 0, 99);
        }
        for (int i = 0; i < 6; i++) {
            x.pot(999);
        }
        for (int i = 0; i < 131; i++) {
            x.feed(0);
        }
        int[] due = {8, 6, 20, 999, 1980, 24, 130};
        for (int what = 0; what < 7; what++) {
            Check.due("count(" + what + ")", x.count(what), due[what]);
        }
        for (int what : new int[] {-1, 7, Integer.MIN_VALUE, Integer.MAX_VALUE}) {
            Check.due("count(" + what + ")", x.count(what), BAD);
        }
        Check.due("a gift's what -1", x.gift(0, -1), BAD);
        Check.due("a gift's what 3", x.gift(0, 3), BAD);
        Check.due("nameOf(0)", x.nameOf(0), 0);
        Check.due("nameOf(9)", x.nameOf(9), 9);
        Check.due("nameOf(10)", x.nameOf(10), BAD);
        Check.due("nameOf(-1)", x.nameOf(-1), BAD);
    }
}
