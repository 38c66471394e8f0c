/** Promises 17 to 22: ROOTS, SUMS, OVERLAPS, TERMS, CLAIMS and PAID, where they begin, end, are cut or are none. */
public final class WorthBoundsTest {
    private static final int BAD = MatchFund.BAD;

    private WorthBoundsTest() {
    }

    public static void main(String[] args) {
        rootsAtTheBounds();
        sumsAtTheBounds();
        overlapsAreCut();
        overlapsAtTheBounds();
        termsAreCut();
        termsOfANameAlone();
        openAndHalf();
        square();
        flatAndCapped();
        ofANameAlone();
        greatest();
        paidAroundThePot();
        whatIsOver();
        noClaims();
        potsAgainstOneClaim();
        giversAsBits();
        standsAtTheBounds();
        Check.end("WorthBoundsTest");
    }

    private static void claim(String text, int due) {
        Check.due("claim by " + text, Check.told(text).project(0, 0), due);
    }

    /** "the greatest number of which the square is no more than 10,000 times v"; "v (0 to 1980)". */
    private static void rootsAtTheBounds() {
        int[][] due = {
            {0, 0}, {1, 100}, {2, 141}, {3, 173}, {4, 200}, {5, 223}, {8, 282}, {9, 300}, {10, 316}, {99, 994},
            {100, 1000}, {101, 1004}, {1935, 4398}, {1936, 4400}, {1937, 4401}, {1979, 4448}, {1980, 4449},
        };
        MatchFund x = new MatchFund();
        for (int[] d : due) {
            Check.due("root(" + d[0] + ")", x.root(d[0]), d[1]);
        }
        // squares are met exactly, and one less falls below
        for (int n = 1; n <= 44; n++) {
            Check.due("root of " + n + " squared", x.root(n * n), 100 * n);
            Check.due("below " + n + " squared", x.root(n * n - 1) < 100 * n ? 1 : 0, 1);
        }
        for (int v : new int[] {-1, 1981, Integer.MIN_VALUE, Integer.MAX_VALUE}) {
            Check.due("root(" + v + ")", x.root(v), BAD);
        }
    }

    /** "COINS of all GIFTS to it in that NAME together (0 of a GIVER whose NAME is another's)" */
    private static void sumsAtTheBounds() {
        MatchFund x = Check.told("m9,1;f;f;f;f;f;f;");
        Check.due("no gift", x.sum(0, 0), 0);
        for (int g = 0; g < 20; g++) {
            x.give(9, 5, 99);
            Check.due("so many gifts", x.sum(9, 5), 99 * (g + 1));
        }
        Check.due("another giver", x.sum(8, 5), 0);
        Check.due("another project", x.sum(9, 4), 0);
        x.one(9, 0);
        Check.due("in another's name", x.sum(9, 5), 0);
        Check.due("in that name", x.sum(0, 5), 1980);
        Check.due("sum(10, 5)", x.sum(10, 5), BAD);
        Check.due("sum(9, 6)", x.sum(9, 6), BAD);
        Check.due("sum(-1, 5)", x.sum(-1, 5), BAD);
        Check.due("sum(9, -1)", x.sum(9, -1), BAD);
    }

    /** "for all PROJECTS the ROOTS of their two SUMS, times one another, together, by 10,000 (cut)" */
    private static void overlapsAreCut() {
        // 100 * 173 = 17300 in each project: cut once, of all together
        String[] gifts = {"g0,0,1;g1,0,3;", "g0,1,1;g1,1,3;", "g0,2,1;g1,2,3;", "g0,3,1;g1,3,3;"};
        int[] due = {1, 3, 5, 6};
        String text = "m9,1;o;s;h;c;";
        for (int p = 0; p < 4; p++) {
            text += gifts[p];
            Check.due("shared projects: " + (p + 1), Check.told(text).overlap(0, 1), due[p]);
        }
        // 141 * 141 = 19881
        Check.due("just below 2", Check.told("m9,1;f;g0,0,2;g1,0,2;").overlap(0, 1), 1);
        // 100 * 244 and 583 * 953 are 579999 together, one short of 58
        Check.due("1 short", Check.told("m9,1;f;f;g0,0,1;g1,0,6;g0,1,34;g1,1,91;").overlap(0, 1), 57);
        Check.due("4 exactly", Check.told("m9,1;f;g0,0,4;g1,0,4;").overlap(0, 1), 4);
    }

    private static void overlapsAtTheBounds() {
        MatchFund x = Check.told("m9,1;f;f;g0,0,1;g9,0,1;g5,1,99;");
        Check.due("the least that there is", x.overlap(0, 9), 1);
        Check.due("the other way", x.overlap(9, 0), 1);
        Check.due("no project in common", x.overlap(0, 5), 0);
        Check.due("one who gives nothing", x.overlap(0, 4), 0);
        Check.due("two who give nothing", x.overlap(3, 4), 0);
        x.one(9, 0);
        Check.due("two of one name", x.overlap(0, 9), 0);
        x.one(5, 3);
        x.give(0, 1, 99);
        Check.due("in another's name", x.overlap(0, 5), 0);
        // 994 * 994 = 988036
        Check.due("in that name", x.overlap(0, 3), 98);
        // one with 19 of the gifts: root(1881) = 4337, 4337 * 994 = 4310978
        MatchFund most = Check.told("m9,1;f;g1,0,99;");
        for (int i = 0; i < 19; i++) {
            most.give(0, 0, 99);
        }
        Check.due("19 gifts and 1", most.overlap(0, 1), 431);
        Check.due("of itself", most.overlap(0, 0), BAD);
    }

    /** "2 times ROOT, times ROOT, times EASE, by 10,000 times (EASE and OVERLAP) (cut)" */
    private static void termsAreCut() {
        // roots 200 and 300, overlap 6: 12 * EASE / (EASE + 6)
        int[][] due = {{1, 1}, {2, 3}, {5, 5}, {6, 6}, {7, 6}, {12, 8}, {98, 11}, {99, 11}};
        for (int[] d : due) {
            MatchFund x = Check.told("m9," + d[0] + ";o;o;g0,0,4;g1,0,9;g1,1,9;");
            Check.due("EASE " + d[0], x.term(0, 1, 0), d[1]);
            Check.due("the other way", x.term(1, 0, 0), d[1]);
            Check.due("a project of one alone", x.term(0, 1, 1), 0);
            Check.due("one who gives nothing", x.term(0, 2, 0), 0);
        }
        // one coin each: 2 * EASE / (EASE + 1) is 1 by 1, and below 2 by 99
        Check.due("EASE 1", Check.told("m9,1;o;g0,0,1;g1,0,1;").term(0, 1, 0), 1);
        Check.due("EASE 99", Check.told("m9,99;o;g0,0,1;g1,0,1;").term(0, 1, 0), 1);
        // what two share elsewhere lessens it: 2 * 99 / (1 + 1 + 98)
        Check.due("a ring", Check.told("m9,1;o;o;g0,0,99;g1,0,99;g0,1,1;g1,1,1;").term(0, 1, 1), 0);
        // the ROOTS, not the SUMS, and not the kind of the project
        Check.due("of a flat one", Check.told("m9,6;f;g0,0,4;g1,0,9;").term(0, 1, 0), 6);
    }

    /** A SUM is 0 of a GIVER whose NAME is another's, so there is no OVERLAP and no TERM with him. */
    private static void termsOfANameAlone() {
        MatchFund x = Check.told("m9,6;o;g0,0,4;g1,0,9;");
        Check.due("of their own", x.term(0, 1, 0), 6);
        x.one(0, 2);
        Check.due("of the other's name", x.term(2, 1, 0), 6);
        Check.due("of the one in it", x.term(0, 1, 0), 0);
        Check.due("the other way", x.term(1, 0, 0), 0);
        Check.due("of the two", x.term(0, 2, 0), 0);
        Check.due("overlap of the one in it", x.overlap(0, 1), 0);
        Check.due("overlap of the other", x.overlap(1, 2), 6);
    }

    /** Open: "all TERMS of two GIVERS (each two once), together"; half: "half of what an open one would claim (cut)". */
    private static void openAndHalf() {
        claim("m9,9;o;", 0);
        claim("m9,9;h;", 0);
        claim("m9,9;o;g0,0,99;", 0);
        claim("m9,9;h;g0,0,99;", 0);
        // of one giver two gifts are one SUM
        claim("m9,9;o;g0,0,50;g0,0,49;", 0);
        // terms of 1.98 each are cut ahead of adding: 1 of two, 3 of three, 6 of four
        claim("m9,99;o;g0,0,1;g1,0,1;", 1);
        claim("m9,99;o;g0,0,1;g1,0,1;g2,0,1;", 3);
        claim("m9,99;o;g0,0,1;g1,0,1;g2,0,1;g3,0,1;", 6);
        claim("m9,99;h;g0,0,1;g1,0,1;", 0);
        claim("m9,99;h;g0,0,1;g1,0,1;g2,0,1;", 1);
        claim("m9,99;h;g0,0,1;g1,0,1;g2,0,1;g3,0,1;", 3);
        // ten givers: 45 terms
        MatchFund ten = Check.told("m9,99;o;");
        for (int g = 0; g < 10; g++) {
            ten.give(g, 0, 1);
            Check.due("terms of " + (g + 1), ten.project(0, 0), (g + 1) * g / 2);
        }
    }

    /** "the square of the ROOTS of all its SUMS, together, by 10,000 (cut), less all its SUMS (0 at least)" */
    private static void square() {
        claim("m9,9;s;", 0);
        claim("m9,9;s;g0,0,4;", 0);
        // 141 * 141 = 19881, less 2: below 0
        claim("m9,9;s;g0,0,2;", 0);
        claim("m9,9;s;g0,0,99;", 0);
        // 200 * 200 by 10,000, less 2
        claim("m9,9;s;g0,0,1;g1,0,1;", 2);
        // 241 * 241 = 58081, less 3
        claim("m9,9;s;g0,0,1;g1,0,2;", 2);
        // 273 * 273 = 74529, less 4
        claim("m9,9;s;g0,0,1;g1,0,3;", 3);
        // of one giver two gifts are one SUM
        claim("m9,9;s;g0,0,1;g0,0,3;", 0);
        // 282 * 282 = 79524, just below 8: who gives elsewhere alone has a SUM, and a ROOT, of 0 here
        claim("m9,9;s;g0,0,2;g1,0,2;", 3);
        claim("m9,9;s;f;g0,0,2;g1,0,2;g2,1,9;g3,1,9;", 3);
        // the ease has no say
        claim("m9,1;s;g0,0,9;g1,0,16;", 24);
        claim("m9,99;s;g0,0,9;g1,0,16;", 24);
    }

    /** Flat: "all its SUMS"; capped: "the same, but 5 for each GIVER of whom a SUM is above 0, at most". */
    private static void flatAndCapped() {
        claim("m9,9;f;", 0);
        claim("m9,9;c;", 0);
        claim("m9,9;f;g0,0,1;", 1);
        claim("m9,9;c;g0,0,1;", 1);
        claim("m9,9;c;g0,0,4;", 4);
        claim("m9,9;c;g0,0,5;", 5);
        claim("m9,9;c;g0,0,6;", 5);
        claim("m9,9;c;g0,0,99;", 5);
        claim("m9,9;c;g0,0,5;g1,0,4;", 9);
        claim("m9,9;c;g0,0,5;g1,0,5;", 10);
        claim("m9,9;c;g0,0,6;g1,0,5;", 10);
        // of all together, not of each
        claim("m9,9;c;g0,0,9;g1,0,1;", 10);
        claim("m9,9;c;g0,0,8;g1,0,1;", 9);
        // who gives to another project alone does not count here
        claim("m9,9;c;c;g0,0,20;g1,1,20;", 5);
        claim("m9,9;f;f;g0,0,20;g1,1,30;", 20);
    }

    /** One who gives in another's name is no GIVER of his own in any claim. */
    private static void ofANameAlone() {
        String[] kinds = {"o", "s", "h", "f", "c"};
        int[] apart = {9, 18, 4, 18, 10};
        int[] together = {0, 0, 0, 18, 5};
        for (int k = 0; k < 5; k++) {
            MatchFund x = Check.told("m9,9;" + kinds[k] + ";g0,0,9;g1,0,9;");
            Check.due("apart, " + kinds[k], x.project(0, 0), apart[k]);
            x.one(0, 1);
            // root(18) is 424: 424 * 424 by 10,000 is 17, less 18
            Check.due("in one name, " + kinds[k], x.project(0, 0), together[k]);
            x.undo();
            Check.due("apart again, " + kinds[k], x.project(0, 0), apart[k]);
        }
    }

    /** The greatest claims that there can be are told, and shared, without a wrap-around. */
    private static void greatest() {
        int[] kinds = {1, 2, 3, 4, 5};
        // root(198) = 1407: 14070 squared by 10,000 is 19796, less 1980;
        // 45 terms of 2 * 1979649 * 99 / (10000 * (99 + 197)) = 132.4
        int[] due = {45 * 132, 17816, 45 * 66, 1980, 50};
        for (int k = 0; k < 5; k++) {
            MatchFund x = Check.told("m99,99;f;");
            for (int g = 0; g < 20; g++) {
                x.give(g % 10, 0, 99);
            }
            if (kinds[k] != 4) {
                x.become(0, kinds[k]);
            }
            x.pot(999);
            Check.due("kind " + kinds[k], x.project(0, 0), due[k]);
            Check.due("all claims", x.stand(1), due[k]);
            Check.due("paid", x.project(0, 1), Math.min(999, due[k]));
            Check.due("rest", x.stand(3), Math.max(0, 999 - due[k]));
        }
        MatchFund alone = Check.told("m99,99;s;");
        for (int g = 0; g < 20; g++) {
            alone.give(0, 0, 99);
        }
        // 4449 squared by 10,000 is 1979, less 1980
        Check.due("all from one", alone.project(0, 0), 0);
    }

    /** "if all CLAIMS together are no more than the POT, each its CLAIM, and the REST stays; else .. REST 0" */
    private static void paidAroundThePot() {
        int[][] due = {
            {0, 0, 0, 0, 0}, {1, 1, 0, 0, 0}, {2, 1, 1, 0, 0}, {3, 1, 1, 1, 0}, {28, 10, 9, 9, 0},
            {29, 10, 10, 9, 0}, {30, 10, 10, 10, 0}, {31, 10, 10, 10, 1}, {999, 10, 10, 10, 969},
        };
        MatchFund x = Check.told("m0,1;f;f;f;g0,0,10;g0,1,10;g0,2,10;");
        for (int[] d : due) {
            x.pot(d[0]);
            for (int p = 0; p < 3; p++) {
                Check.due("paid of " + p + " by " + d[0], x.project(p, 1), d[p + 1]);
            }
            Check.due("all claims by " + d[0], x.stand(1), 30);
            Check.due("all paid by " + d[0], x.stand(2), Math.min(30, d[0]));
            Check.due("rest by " + d[0], x.stand(3), d[4]);
        }
    }

    /** "what is over 1 each to the first ones that claim any": those that claim none get none. */
    private static void whatIsOver() {
        MatchFund x = Check.told("m0,1;f;f;f;f;f;f;g0,1,1;g0,3,1;g0,4,1;g0,5,1;");
        int[][] due = {{0, 0, 0, 0, 0, 0}, {0, 1, 0, 0, 0, 0}, {0, 1, 0, 1, 0, 0}, {0, 1, 0, 1, 1, 0}, {0, 1, 0, 1, 1, 1}};
        for (int pot = 0; pot < 5; pot++) {
            x.pot(pot);
            for (int p = 0; p < 6; p++) {
                Check.due("paid of " + p + " by " + pot, x.project(p, 1), due[pot][p]);
            }
        }
        // 1 * 98 / 99 = 0 and 98 * 98 / 99 = 97: the 1 that is over goes to the first, however little it claims
        MatchFund little = Check.told("m0,1;f;f;g0,0,1;g0,1,98;");
        little.pot(98);
        Check.due("the little one", little.project(0, 1), 1);
        Check.due("the great one", little.project(1, 1), 97);
        MatchFund last = Check.told("m0,1;f;f;g0,0,98;g0,1,1;");
        last.pot(98);
        Check.due("the great one first", last.project(0, 1), 98);
        Check.due("the little one last", last.project(1, 1), 0);
    }

    private static void noClaims() {
        MatchFund x = Check.told("m0,1;o;s;h;f;c;");
        for (int pot : new int[] {0, 1, 999}) {
            x.pot(pot);
            for (int p = 0; p < 5; p++) {
                Check.due("paid", x.project(p, 1), 0);
                Check.due("claim", x.project(p, 0), 0);
                Check.due("givers", x.project(p, 2), 0);
            }
            Check.due("rest", x.stand(3), pot);
            Check.due("paid", x.stand(2), 0);
        }
    }

    /** One project gets all of any pot below its claim. */
    private static void potsAgainstOneClaim() {
        MatchFund x = Check.told("m0,1;f;" + "g0,0,99;".repeat(10));
        for (int pot : new int[] {0, 1, 500, 988, 989, 990, 991, 998, 999}) {
            x.pot(pot);
            Check.due("paid by " + pot, x.project(0, 1), Math.min(pot, 990));
            Check.due("rest by " + pot, x.stand(3), Math.max(0, pot - 990));
        }
    }

    /** project, what 2: "GIVERS (bits) of whom a SUM to it is above 0" */
    private static void giversAsBits() {
        MatchFund x = Check.told("m9,1;f;f;");
        int bits = 0;
        for (int g = 9; g >= 0; g--) {
            x.give(g, 1, 1);
            bits |= 1 << g;
            Check.due("givers", x.project(1, 2), bits);
            Check.due("givers of the other", x.project(0, 2), 0);
        }
        x.one(0, 9);
        Check.due("one in another's name", x.project(1, 2), 1022);
        x.undo();
        for (int g = 0; g < 10; g++) {
            x.back(9 - g);
            bits &= ~(1 << g);
            Check.due("givers", x.project(1, 2), bits);
        }
        Check.due("what 3", x.project(1, 3), BAD);
        Check.due("what -1", x.project(1, -1), BAD);
        Check.due("project 2", x.project(2, 2), BAD);
    }

    private static void standsAtTheBounds() {
        MatchFund x = Check.told("m99,1;f;f;f;f;f;f;");
        x.pot(999);
        for (int g = 0; g < 20; g++) {
            x.give(g % 10, g % 6, 99);
        }
        int[] due = {999, 1980, 999, 0};
        for (int what = 0; what < 4; what++) {
            Check.due("stand(" + what + ")", x.stand(what), due[what]);
        }
        for (int what : new int[] {-1, 4, Integer.MIN_VALUE, Integer.MAX_VALUE}) {
            Check.due("stand(" + what + ")", x.stand(what), BAD);
        }
        // 396, 396, 297 .. by 1980 of 999: 199.8 and 149.85, and 1 each of the five that are over
        int[] paid = {200, 200, 150, 150, 150, 149};
        for (int p = 0; p < 6; p++) {
            Check.due("paid of " + p, x.project(p, 1), paid[p]);
        }
    }
}
