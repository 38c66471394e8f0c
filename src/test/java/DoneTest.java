/** Promises 9 to 16, 34, 35 and 40: acts, undone again, gifts, names, images, counts. */
public final class DoneTest {
    private DoneTest() {
    }

    public static void main(String[] args) {
        gives();
        takesBack();
        pots();
        becomes();
        areOne();
        undoes();
        forgets();
        images();
        counts();
        Check.end("DoneTest");
    }

    private static void gives() {
        MatchFund x = Check.told("m9,1;f;c;");
        Check.due("give(0, 0, 1)", x.give(0, 0, 1), 1);
        Check.due("give(9, 1, 99)", x.give(9, 1, 99), 2);
        Check.due("give(10, 0, 1)", x.give(10, 0, 1), MatchFund.BAD);
        Check.due("give(-1, 0, 1)", x.give(-1, 0, 1), MatchFund.BAD);
        Check.due("give(0, 2, 1)", x.give(0, 2, 1), MatchFund.BAD);
        Check.due("give(0, -1, 1)", x.give(0, -1, 1), MatchFund.BAD);
        Check.due("give(0, 0, 0)", x.give(0, 0, 0), MatchFund.BAD);
        Check.due("give(0, 0, 100)", x.give(0, 0, 100), MatchFund.BAD);
        Check.due("it comes last", x.gift(1, 0), 9);
        Check.due("gift(1, 1)", x.gift(1, 1), 1);
        Check.due("gift(1, 2)", x.gift(1, 2), 99);
        Check.due("gift(1, 3)", x.gift(1, 3), MatchFund.BAD);
        Check.due("gift(1, -1)", x.gift(1, -1), MatchFund.BAD);
        Check.due("gift(2, 0)", x.gift(2, 0), MatchFund.BAD);
        Check.due("gift(-1, 0)", x.gift(-1, 0), MatchFund.BAD);
        for (int i = 3; i <= 20; i++) {
            Check.due("gift " + i, x.give(i % 10, 0, 1), i);
        }
        Check.due("a gift too many", x.give(0, 0, 1), MatchFund.FULL);
        Check.due("BAD ahead of FULL", x.give(0, 0, 0), MatchFund.BAD);
        Check.due("no fund", new MatchFund().give(0, 0, 1), MatchFund.BAD);
    }

    private static void takesBack() {
        MatchFund x = Check.told("m9,1;f;g1,0,11;g2,0,22;g3,0,33;");
        Check.due("back(1)", x.back(1), 22);
        Check.due("those behind get lesser numbers", x.gift(1, 2), 33);
        Check.due("back(2)", x.back(2), MatchFund.BAD);
        Check.due("back(-1)", x.back(-1), MatchFund.BAD);
        Check.due("count(2)", x.count(2), 2);
        Check.due("undo()", x.undo(), 0);
        Check.due("it is where it was", x.gift(1, 2), 22);
        Check.due("by whom", x.gift(1, 0), 2);
        Check.due("and so is the one behind", x.gift(2, 2), 33);
    }

    private static void pots() {
        MatchFund x = Check.told("m9,1;f;");
        Check.due("pot(999)", x.pot(999), 90);
        Check.due("pot(0)", x.pot(0), 999);
        Check.due("pot(0) again is an act, too", x.pot(0), 0);
        Check.due("count(5)", x.count(5), 3);
        Check.due("pot(1000)", x.pot(1000), MatchFund.BAD);
        Check.due("pot(-1)", x.pot(-1), MatchFund.BAD);
        Check.due("no fund, ahead of BAD", new MatchFund().pot(-1), MatchFund.STATE);
        x.undo();
        x.undo();
        Check.due("count(3)", x.count(3), 999);
    }

    private static void becomes() {
        MatchFund x = Check.told("m9,1;f;o;");
        Check.due("become(0, 5)", x.become(0, 5), 4);
        Check.due("become(0, 5) again", x.become(0, 5), MatchFund.STATE);
        Check.due("become(0, 0)", x.become(0, 0), MatchFund.BAD);
        Check.due("become(0, 6)", x.become(0, 6), MatchFund.BAD);
        Check.due("become(2, 1)", x.become(2, 1), MatchFund.BAD);
        Check.due("become(-1, 1)", x.become(-1, 1), MatchFund.BAD);
        Check.due("kind(0)", x.kind(0), 5);
        Check.due("kind(1)", x.kind(1), 1);
        Check.due("undo()", x.undo(), 0);
        Check.due("kind(0)", x.kind(0), 4);
    }

    private static void areOne() {
        MatchFund x = Check.told("m9,1;f;g1,0,10;g2,0,20;g3,0,30;");
        Check.due("one(1, 1)", x.one(1, 1), MatchFund.BAD);
        Check.due("one(10, 1)", x.one(10, 1), MatchFund.BAD);
        Check.due("one(1, -1)", x.one(1, -1), MatchFund.BAD);
        Check.due("no fund, ahead of BAD", new MatchFund().one(1, 1), MatchFund.STATE);
        Check.due("one(1, 2)", x.one(1, 2), 2);
        Check.due("nameOf(1)", x.nameOf(1), 2);
        Check.due("sum(1, 0)", x.sum(1, 0), 0);
        Check.due("sum(2, 0)", x.sum(2, 0), 30);
        Check.due("the same names", x.one(2, 1), MatchFund.STATE);
        Check.due("one(3, 1): the name of 1", x.one(3, 1), 2);
        Check.due("sum(2, 0)", x.sum(2, 0), 60);
        Check.due("one(1, 4): all in that name move", x.one(1, 4), 4);
        Check.due("nameOf(1)", x.nameOf(1), 4);
        Check.due("nameOf(2)", x.nameOf(2), 4);
        Check.due("nameOf(3)", x.nameOf(3), 4);
        Check.due("sum(4, 0)", x.sum(4, 0), 60);
        Check.due("who gave it stays", x.gift(0, 0), 1);
        Check.due("undo()", x.undo(), 2);
        Check.due("nameOf(2)", x.nameOf(2), 2);
        Check.due("nameOf(3)", x.nameOf(3), 2);
        Check.due("nameOf(4)", x.nameOf(4), 4);
        Check.due("undo()", x.undo(), 1);
        Check.due("nameOf(3)", x.nameOf(3), 3);
        Check.due("nameOf(1)", x.nameOf(1), 2);
        Check.due("nameOf(10)", x.nameOf(10), MatchFund.BAD);
        Check.due("nameOf(-1)", x.nameOf(-1), MatchFund.BAD);
        Check.due("no fund, ahead of BAD", new MatchFund().nameOf(-1), MatchFund.STATE);
    }

    private static void undoes() {
        MatchFund x = Check.told("m9,1;f;");
        Check.due("undo() of none", x.undo(), MatchFund.STATE);
        x.give(1, 0, 5);
        x.pot(7);
        x.become(0, 2);
        x.back(0);
        x.one(3, 4);
        Check.due("what is refused is no act", x.give(0, 0, 0), MatchFund.BAD);
        Check.due("count(5)", x.count(5), 5);
        Check.due("undo()", x.undo(), 4);
        Check.due("nameOf(3)", x.nameOf(3), 3);
        Check.due("undo()", x.undo(), 3);
        Check.due("count(4)", x.count(4), 5);
        Check.due("undo()", x.undo(), 2);
        Check.due("kind(0)", x.kind(0), 4);
        Check.due("undo()", x.undo(), 1);
        Check.due("count(3)", x.count(3), 90);
        Check.due("undo()", x.undo(), 0);
        Check.due("count(2)", x.count(2), 0);
        Check.due("undo()", x.undo(), MatchFund.STATE);
    }

    private static void forgets() {
        MatchFund x = Check.told("m0,1;f;");
        for (int v = 1; v <= 30; v++) {
            x.pot(v);
        }
        Check.due("24 are kept", x.count(5), 24);
        for (int left = 23; left >= 0; left--) {
            Check.due("undo()", x.undo(), left);
        }
        Check.due("the six oldest are forgotten", x.count(3), 6);
        Check.due("undo()", x.undo(), MatchFund.STATE);
        x.pot(50);
        Check.due("undo()", x.undo(), 0);
        Check.due("count(3)", x.count(3), 6);
    }

    private static void images() {
        MatchFund x = new MatchFund();
        Check.due("image(2)", x.image(2), MatchFund.BAD);
        Check.due("image(-1)", x.image(-1), MatchFund.BAD);
        Check.due("image(0), no fund", x.image(0), MatchFund.STATE);
        Check.due("restore(2)", x.restore(2), MatchFund.BAD);
        Check.due("restore(-1)", x.restore(-1), MatchFund.BAD);
        Check.due("restore(1), none", x.restore(1), MatchFund.STATE);
        Check.feedAll(x, "m9,3;f;c;g1,0,11;g2,1,22;");
        x.fund();
        Check.due("image(1)", x.image(1), 1);
        Check.due("restore(0), none", x.restore(0), MatchFund.STATE);
        x.pot(5);
        x.become(0, 2);
        x.give(3, 0, 4);
        x.one(1, 2);
        Check.due("image(0)", x.image(0), 1);
        Check.due("an image leaves the acts", x.count(5), 4);
        x.back(0);
        Check.due("restore(1)", x.restore(1), 1);
        Check.due("no act can be undone then", x.undo(), MatchFund.STATE);
        Check.due("pot", x.count(3), 90);
        Check.due("kind(0)", x.kind(0), 4);
        Check.due("gifts", x.count(2), 2);
        Check.due("nameOf(1)", x.nameOf(1), 1);
        x.give(5, 1, 50);
        Check.due("restore(0)", x.restore(0), 1);
        Check.due("gifts", x.count(2), 3);
        Check.due("nameOf(1)", x.nameOf(1), 2);
        Check.due("pot", x.count(3), 5);
        x.pot(6);
        Check.due("restore(0) again", x.restore(0), 1);
        Check.due("an image is not changed by later acts", x.count(3), 5);
        x.pot(8);
        x.image(0);
        x.restore(1);
        x.restore(0);
        Check.due("an image takes the place of the one before", x.count(3), 8);
    }

    private static void counts() {
        MatchFund x = Check.told("m9,1;f;o;g1,0,10;g2,0,20;g2,1,3;");
        x.row(4, 0, 1);
        x.pot(7);
        x.pot(8);
        x.feed('a');
        int[] due = {1, 2, 3, 8, 33, 2, 1};
        for (int what = 0; what < 7; what++) {
            Check.due("count(" + what + ")", x.count(what), due[what]);
        }
        Check.due("count(7)", x.count(7), MatchFund.BAD);
        Check.due("count(-1)", x.count(-1), MatchFund.BAD);
    }
}
