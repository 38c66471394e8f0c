/** Promises 17 to 22: roots, sums, overlaps, terms, claims and what is paid. */
public final class WorthTest {
    private WorthTest() {
    }

    public static void main(String[] args) {
        roots();
        sums();
        overlaps();
        claims();
        cutsDown();
        stands();
        Check.end("WorthTest");
    }

    private static void roots() {
        MatchFund x = new MatchFund();
        for (int v = 0; v <= 1980; v++) {
            // what an object answers beyond its 512th call is free
            x = v % 500 == 0 ? new MatchFund() : x;
            long root = x.root(v);
            boolean fits = root * root <= 10000L * v && (root + 1) * (root + 1) > 10000L * v;
            Check.due("root(" + v + ") = " + root, fits ? 1 : 0, 1);
        }
        Check.due("root(1981)", x.root(1981), MatchFund.BAD);
        Check.due("root(-1)", x.root(-1), MatchFund.BAD);
    }

    private static void sums() {
        MatchFund x = Check.told("m9,1;f;f;g1,0,10;g1,0,5;g1,1,7;g2,0,1;");
        Check.due("sum(1, 0)", x.sum(1, 0), 15);
        Check.due("sum(1, 1)", x.sum(1, 1), 7);
        Check.due("sum(2, 1)", x.sum(2, 1), 0);
        Check.due("sum(10, 0)", x.sum(10, 0), MatchFund.BAD);
        Check.due("sum(-1, 0)", x.sum(-1, 0), MatchFund.BAD);
        Check.due("sum(1, 2)", x.sum(1, 2), MatchFund.BAD);
        Check.due("sum(1, -1)", x.sum(1, -1), MatchFund.BAD);
        x.one(1, 2);
        Check.due("sum(1, 0) in another's name", x.sum(1, 0), 0);
        Check.due("sum(2, 0)", x.sum(2, 0), 16);
        Check.due("sum(2, 1)", x.sum(2, 1), 7);
    }

    private static void overlaps() {
        // roots 400 and 300, 200 and 200: (120000 + 40000) / 10000 = 16
        MatchFund x = Check.told("m99,9;o;o;g0,0,16;g1,0,9;g0,1,4;g1,1,4;g2,1,2;");
        Check.due("overlap(0, 1)", x.overlap(0, 1), 16);
        Check.due("overlap(1, 0)", x.overlap(1, 0), 16);
        // 200 * 141 / 10000 = 2.82
        Check.due("overlap(0, 2)", x.overlap(0, 2), 2);
        Check.due("overlap(0, 3)", x.overlap(0, 3), 0);
        Check.due("overlap(1, 1)", x.overlap(1, 1), MatchFund.BAD);
        Check.due("overlap(10, 1)", x.overlap(10, 1), MatchFund.BAD);
        Check.due("overlap(1, -1)", x.overlap(1, -1), MatchFund.BAD);
        Check.due("no fund, ahead of BAD", new MatchFund().overlap(1, 1), MatchFund.STATE);
        // 2 * 400 * 300 * 9 / (10000 * 25) = 8.64; 2 * 200 * 200 * 9 / 250000 = 2.88
        Check.due("term(0, 1, 0)", x.term(0, 1, 0), 8);
        Check.due("term(1, 0, 1)", x.term(1, 0, 1), 2);
        // 2 * 200 * 141 * 9 / (10000 * 11) = 4.6
        Check.due("term(0, 2, 1)", x.term(0, 2, 1), 4);
        Check.due("term(0, 2, 0)", x.term(0, 2, 0), 0);
        Check.due("term(1, 1, 0)", x.term(1, 1, 0), MatchFund.BAD);
        Check.due("term(1, 10, 0)", x.term(1, 10, 0), MatchFund.BAD);
        Check.due("term(-1, 1, 0)", x.term(-1, 1, 0), MatchFund.BAD);
        Check.due("term(0, 1, 2)", x.term(0, 1, 2), MatchFund.BAD);
        Check.due("term(0, 1, -1)", x.term(0, 1, -1), MatchFund.BAD);
        // the greatest product that there can be: two sums of 990
        MatchFund great = Check.told("m99,99;o;");
        for (int i = 0; i < 20; i++) {
            great.give(i % 2, 0, 99);
        }
        // root 3146, overlap 989, 2 * 3146 * 3146 * 99 / (10000 * 1088) = 180.1
        Check.due("overlap of the greatest", great.overlap(0, 1), 989);
        Check.due("term of the greatest", great.term(0, 1, 0), 180);
    }

    private static void claims() {
        MatchFund x = Check.told("m99,9;o;o;g0,0,16;g1,0,9;g0,1,4;g1,1,4;g2,1,2;");
        Check.due("open: its terms", x.project(0, 0), 8);
        // 2 and 4 and, of givers 1 and 2, likewise 4
        Check.due("open: all its terms", x.project(1, 0), 10);
        Check.due("givers of 0", x.project(0, 2), 3);
        Check.due("givers of 1", x.project(1, 2), 7);
        x.become(1, 3);
        Check.due("half", x.project(1, 0), 5);
        x.become(0, 2);
        Check.due("square: 700 * 700 / 10000 - 25", x.project(0, 0), 24);
        x.become(1, 4);
        Check.due("flat", x.project(1, 0), 10);
        x.become(1, 5);
        Check.due("capped: 10 is no more than 15", x.project(1, 0), 10);
        x.become(0, 5);
        Check.due("capped: 5 for each of two", x.project(0, 0), 10);
        x.one(2, 0);
        Check.due("in one name: 5 for each of two", x.project(1, 0), 10);
        Check.due("givers of 1", x.project(1, 2), 3);
        x.one(1, 0);
        Check.due("in one name: 5", x.project(1, 0), 5);
        Check.due("project(2, 0)", x.project(2, 0), MatchFund.BAD);
        Check.due("project(-1, 0)", x.project(-1, 0), MatchFund.BAD);
        Check.due("project(0, 3)", x.project(0, 3), MatchFund.BAD);
        Check.due("project(0, -1)", x.project(0, -1), MatchFund.BAD);
        MatchFund alone = Check.told("m9,9;s;o;g0,0,2;g0,1,50;");
        // 141 * 141 / 10000 = 1, less 2
        Check.due("square: 0 at least", alone.project(0, 0), 0);
        Check.due("open: one giver claims nothing", alone.project(1, 0), 0);
        MatchFund odd = Check.told("m9,9;h;g0,0,4;g1,0,4;");
        // overlap 4, 2 * 200 * 200 * 9 / (10000 * 13) = 5.5
        Check.due("half of 5, cut", odd.project(0, 0), 2);
    }

    private static void cutsDown() {
        MatchFund x = Check.told("m2,1;f;f;f;f;g0,1,10;g0,2,10;g0,3,10;");
        int[] paid = {0, 7, 7, 6};
        for (int p = 0; p < 4; p++) {
            Check.due("cut down to 20: " + p, x.project(p, 1), paid[p]);
        }
        Check.due("no rest", x.stand(3), 0);
        x.pot(30);
        for (int p = 1; p < 4; p++) {
            Check.due("just enough: " + p, x.project(p, 1), 10);
        }
        Check.due("nothing is left", x.stand(3), 0);
        x.pot(31);
        Check.due("paid", x.project(3, 1), 10);
        Check.due("rest", x.stand(3), 1);
        x.pot(2);
        Check.due("only what is over: 0", x.project(0, 1), 0);
        Check.due("only what is over: 1", x.project(1, 1), 1);
        Check.due("only what is over: 2", x.project(2, 1), 1);
        Check.due("only what is over: 3", x.project(3, 1), 0);
        x.pot(0);
        Check.due("no pot", x.project(1, 1), 0);
        Check.due("no rest", x.stand(3), 0);
    }

    private static void stands() {
        MatchFund x = Check.told("m2,1;f;f;g0,1,10;g0,0,30;");
        int[] due = {20, 40, 20, 0};
        for (int what = 0; what < 4; what++) {
            Check.due("stand(" + what + ")", x.stand(what), due[what]);
        }
        Check.due("stand(4)", x.stand(4), MatchFund.BAD);
        Check.due("stand(-1)", x.stand(-1), MatchFund.BAD);
        Check.due("no fund, ahead of BAD", new MatchFund().stand(4), MatchFund.STATE);
    }
}
