/** Promises 36 to 39: kinds, what a project is taken as, asks and their trace. */
public final class AskedTest {
    private AskedTest() {
    }

    public static void main(String[] args) {
        MatchFund x = Check.told("m9,1;c;o;s;h;f;c;g0,1,10;g1,1,2;g0,2,7;g0,3,5;g1,3,5;g2,3,5;g0,4,30;g0,5,40;g1,5,1;");
        // project 1 open: 12 coins of 2; 2 square: 7 of 1; 3 half: 15 of 3; 4 flat: 30 of 1; 5 capped: 41 of 2
        asked(x, 1, 0, 12 + 3, 11, 10, 21, 20);
        asked(x, 1, 1, 3, 21, 20);
        asked(x, 2, 0, -(7 + 6), 12, 11, 10, 24, 21, 20);
        asked(x, 2, 1, 6, 24, 21, 20);
        asked(x, 3, 0, 15 + 6 - 1000, 11, 10, 22, 21, 20);
        asked(x, 3, 1, 6 - 1000, 22, 21, 20);
        asked(x, 4, 0, 30 - 100, 13, 10);
        asked(x, 4, 1, 4 + 70, 23, 20, 13, 10);
        asked(x, 5, 0, -118, 14, 13, 10);
        asked(x, 5, 1, 5 + 118, 23, 20, 14, 13, 10);
        asked(x, 0, 1, 200, 23, 20, 14, 13, 10);
        Check.due("ask(0, 2)", x.ask(0, 2), MatchFund.BAD);
        Check.due("ask(0, -1)", x.ask(0, -1), MatchFund.BAD);
        Check.due("ask(6, 0)", x.ask(6, 0), MatchFund.BAD);
        Check.due("ask(-1, 0)", x.ask(-1, 0), MatchFund.BAD);
        Check.due("what is refused leaves the trace", x.trace(0), 23);
        x.one(1, 0);
        Check.due("givers by their names", x.ask(1, 1), 2);
        kinds(x);
        Check.end("AskedTest");
    }

    private static void asked(MatchFund x, int project, int what, int answer, int... bodies) {
        String call = "ask(" + project + ", " + what + ")";
        Check.due(call, x.ask(project, what), answer);
        for (int i = 0; i < bodies.length; i++) {
            Check.due(call + ", trace(" + i + ")", x.trace(i), bodies[i]);
        }
        Check.due(call + ", behind the trace", x.trace(bodies.length), MatchFund.NONE);
        Check.due(call + ", trace(-1)", x.trace(-1), MatchFund.NONE);
        Check.due(call + ", trace(16)", x.trace(16), MatchFund.NONE);
    }

    private static void kinds(MatchFund x) {
        int[] told = {5, 1, 2, 3, 4, 5};
        String[] is = {"045", "01", "012", "013", "04", "045"};
        for (int p = 0; p < 6; p++) {
            Check.due("kind(" + p + ")", x.kind(p), told[p]);
            for (int kind = 0; kind < 6; kind++) {
                boolean fits = is[p].indexOf('0' + kind) >= 0;
                Check.due("as(" + p + ", " + kind + ")", x.as(p, kind), fits ? p : -1000013);
                Check.due("status()", x.status(), fits ? 0 : 3);
            }
        }
        Check.due("kind(6)", x.kind(6), MatchFund.BAD);
        Check.due("kind(-1)", x.kind(-1), MatchFund.BAD);
        Check.due("as(0, 6)", x.as(0, 6), MatchFund.BAD);
        Check.due("as(0, -1)", x.as(0, -1), MatchFund.BAD);
        Check.due("as(6, 0)", x.as(6, 0), MatchFund.BAD);
        Check.due("as(-1, 0)", x.as(-1, 0), MatchFund.BAD);
    }
}
