/** Promises 36 to 39: kinds, what a PROJECT is taken as, ASKS and THE TRACE, at their bounds. */
public final class AskedBoundsTest {
    private static final int NONE = MatchFund.NONE, BAD = MatchFund.BAD, KIND = -1000013;
    private static final int LEAST = Integer.MIN_VALUE, MOST = Integer.MAX_VALUE;

    private AskedBoundsTest() {
    }

    public static void main(String[] args) {
        kindsAtTheBounds();
        takenAs();
        asksOfNothing();
        asksOfTheGreatest();
        asksFollowTheKind();
        traceAtTheBounds();
        traceIsEmptyAhead();
        traceStays();
        Check.end("AskedBoundsTest");
    }

    /** kind: "as told (1 to 5)", or as it has become. */
    private static void kindsAtTheBounds() {
        MatchFund x = Check.told("m9,1;o;s;h;f;c;c;");
        int[] due = {1, 2, 3, 4, 5, 5};
        for (int p = 0; p < 6; p++) {
            Check.due("kind(" + p + ")", x.kind(p), due[p]);
        }
        for (int p : new int[] {-1, 6, LEAST, MOST}) {
            Check.due("kind(" + p + ")", x.kind(p), BAD);
            Check.due("as(" + p + ", 0)", x.as(p, 0), BAD);
            Check.due("ask(" + p + ", 0)", x.ask(p, 0), BAD);
        }
        MatchFund one = Check.told("m9,1;f;");
        Check.due("the only one", one.kind(0), 4);
        Check.due("no second one", one.kind(1), BAD);
    }

    /** as: "BAD; KIND: it is no such one", for each kind by which it was told or has become. */
    private static void takenAs() {
        String[] is = {"", "01", "012", "013", "04", "045"};
        for (int kind = 1; kind <= 5; kind++) {
            for (int from = 1; from <= 5; from++) {
                MatchFund x = Check.told("m9,1;f;" + "oshfc".charAt(from - 1) + ";");
                x.become(1, kind);
                for (int as = 0; as <= 5; as++) {
                    boolean fits = is[kind].indexOf('0' + as) >= 0;
                    Check.due("kind " + kind + " as " + as, x.as(1, as), fits ? 1 : KIND);
                    Check.due("status()", x.status(), fits ? 0 : 3);
                }
            }
        }
        MatchFund x = Check.told("m9,1;f;");
        x.as(0, 1);
        for (int as : new int[] {-1, 6, LEAST, MOST}) {
            Check.due("as(0, " + as + ")", x.as(0, as), BAD);
            Check.due("status() stays", x.status(), 3);
        }
    }

    private static void asked(MatchFund x, int project, int what, int answer, int... bodies) {
        String call = "ask(" + project + ", " + what + ")";
        Check.due(call, x.ask(project, what), answer);
        for (int i = 0; i < 18; i++) {
            Check.due(call + ", trace(" + i + ")", x.trace(i), i < bodies.length ? bodies[i] : NONE);
        }
    }

    /** A project to which none gives: all its SUMS are 0, and so is the number of its givers. */
    private static void asksOfNothing() {
        MatchFund x = Check.told("m9,1;o;s;h;f;c;");
        asked(x, 0, 0, 0, 11, 10, 21, 20);
        asked(x, 0, 1, 0, 21, 20);
        asked(x, 1, 0, -2, 12, 11, 10, 24, 21, 20);
        asked(x, 1, 1, 2, 24, 21, 20);
        asked(x, 2, 0, 2 - 1000, 11, 10, 22, 21, 20);
        asked(x, 2, 1, 2 - 1000, 22, 21, 20);
        asked(x, 3, 0, -100, 13, 10);
        asked(x, 3, 1, 103, 23, 20, 13, 10);
        asked(x, 4, 0, -200, 14, 13, 10);
        asked(x, 4, 1, 204, 23, 20, 14, 13, 10);
        for (int what : new int[] {-1, 2, LEAST, MOST}) {
            Check.due("ask(0, " + what + ")", x.ask(0, what), BAD);
        }
    }

    /** All that there can be goes to one project: 1980 coins of ten givers. */
    private static void asksOfTheGreatest() {
        MatchFund x = Check.told("m9,1;f;f;f;f;f;f;");
        for (int g = 0; g < 20; g++) {
            x.give(g % 10, 5, 99);
        }
        asked(x, 5, 0, 1880, 13, 10);
        asked(x, 5, 1, 5 - 1880, 23, 20, 13, 10);
        x.become(5, 5);
        asked(x, 5, 0, 3760, 14, 13, 10);
        asked(x, 5, 1, 5 - 3760, 23, 20, 14, 13, 10);
        x.become(5, 1);
        asked(x, 5, 0, 1980 + 15, 11, 10, 21, 20);
        asked(x, 5, 1, 15, 21, 20);
        x.become(5, 2);
        asked(x, 5, 0, -(1980 + 30), 12, 11, 10, 24, 21, 20);
        asked(x, 5, 1, 30, 24, 21, 20);
        x.become(5, 3);
        asked(x, 5, 0, 1980 + 15 - 1000, 11, 10, 22, 21, 20);
        asked(x, 5, 1, 15 - 1000, 22, 21, 20);
        x.one(0, 9);
        asked(x, 5, 1, 14 - 1000, 22, 21, 20);
        asked(x, 0, 0, -100, 13, 10);
    }

    /** The body is that of the kind that it is now, by an act, its undoing, an image or another text. */
    private static void asksFollowTheKind() {
        MatchFund x = Check.told("m9,1;o;g0,0,7;");
        asked(x, 0, 0, 8, 11, 10, 21, 20);
        x.image(0);
        x.become(0, 5);
        asked(x, 0, 0, 2 * (7 - 100), 14, 13, 10);
        x.undo();
        asked(x, 0, 1, 1, 21, 20);
        x.become(0, 2);
        asked(x, 0, 1, 2, 24, 21, 20);
        x.restore(0);
        asked(x, 0, 0, 8, 11, 10, 21, 20);
        Check.feedAll(x, "m9,1;f;g0,0,7;");
        x.fund();
        asked(x, 0, 0, -93, 13, 10);
    }

    /** trace: "Number i of THE TRACE; NONE." */
    private static void traceAtTheBounds() {
        MatchFund x = Check.told("m9,1;s;");
        int[] beyond = {-1, 6, 7, 15, 16, 17, LEAST, MOST};
        for (int i : beyond) {
            Check.due("no ask yet, trace(" + i + ")", x.trace(i), NONE);
        }
        Check.due("no ask yet, trace(0)", x.trace(0), NONE);
        x.ask(0, 0);
        Check.due("the first", x.trace(0), 12);
        Check.due("the last", x.trace(5), 20);
        for (int i : beyond) {
            Check.due("trace(" + i + ")", x.trace(i), NONE);
        }
    }

    /** ask: "THE TRACE is empty ahead of it", also of a shorter one. */
    private static void traceIsEmptyAhead() {
        MatchFund x = Check.told("m9,1;s;f;");
        for (int round = 0; round < 4; round++) {
            asked(x, 0, 0, 0, 12, 11, 10, 24, 21, 20);
            asked(x, 1, 0, -100, 13, 10);
        }
    }

    /** What is refused changes nothing, so a BAD ask leaves the trace, as do all calls that are no asks. */
    private static void traceStays() {
        MatchFund x = Check.told("m9,1;s;f;");
        x.ask(1, 0);
        Check.due("BAD", x.ask(2, 0), BAD);
        Check.due("BAD", x.ask(1, 2), BAD);
        x.give(0, 0, 9);
        x.become(1, 1);
        x.likely(0, 1, 5, 0);
        x.undo();
        x.image(0);
        x.restore(0);
        Check.feedAll(x, "m9,1;f;");
        x.fund();
        Check.due("trace(0)", x.trace(0), 13);
        Check.due("trace(1)", x.trace(1), 10);
        Check.due("trace(2)", x.trace(2), NONE);
    }
}
