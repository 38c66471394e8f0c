/** Promises 31 to 33: what fits a row, how likely so much is paid, and years by draws, at their bounds. */
public final class GuessBoundsTest {
    private static final int NONE = MatchFund.NONE, BAD = MatchFund.BAD, NULL = -1000011, PLACE = -1000012;
    private static final int LEAST = Integer.MIN_VALUE, MOST = Integer.MAX_VALUE;

    private GuessBoundsTest() {
    }

    public static void main(String[] args) {
        potsAtTheBounds();
        potsOfSeveral();
        kindsAtTheBounds();
        coinsAtTheBounds();
        coinsOfASumOfSeveral();
        itemsOfARow();
        lanesOfARow();
        refusedInOrder();
        likelyAtTheBounds();
        likelyInLowestTerms();
        likelyByNames();
        drawnAtTheBounds();
        drawnGiversAndProjects();
        drawnOfNone();
        nothingChanges();
        Check.end("GuessBoundsTest");
    }

    private static void tell(MatchFund x, int... paid) {
        x.row(0, 2, paid.length);
        for (int i = 0; i < paid.length; i++) {
            x.set(0, i, paid[i]);
        }
    }

    private static void pots(MatchFund x, int many, int least) {
        Check.due("how many pots", x.who(0, 0, 0, 0), many);
        Check.due("the least pot", x.who(0, 1, 0, 0), least);
    }

    /** "POTS (0 to 999 coins) by which it is so: how many; the least; NONE" */
    private static void potsAtTheBounds() {
        MatchFund none = Check.told("m5,1;f;");
        tell(none, 0);
        pots(none, 1000, 0);
        tell(none, 1);
        pots(none, 0, NONE);
        MatchFund great = Check.told("m5,1;f;" + "g0,0,99;".repeat(11));
        int[] fits = {0, 1, 500, 998, 999};
        for (int v : fits) {
            tell(great, v);
            pots(great, 1, v);
        }
        int[] beyond = {1000, 1088, 1089, 1090, -1, LEAST, MOST};
        for (int v : beyond) {
            tell(great, v);
            pots(great, 0, NONE);
        }
        MatchFund most = Check.told("m5,1;f;" + "g0,0,99;".repeat(10));
        tell(most, 990);
        pots(most, 10, 990);
        tell(most, 989);
        pots(most, 1, 989);
        most.give(0, 0, 9);
        tell(most, 999);
        pots(most, 1, 999);
        tell(most, 998);
        pots(most, 1, 998);
    }

    private static void potsOfSeveral() {
        // 10 and 20: by 29 it is 9.67 and 19.3, and 1 to the first
        MatchFund x = Check.told("m5,1;f;f;g0,0,10;g0,1,20;");
        int[][] due = {{10, 20, 970, 30}, {10, 19, 1, 29}, {9, 20, 0, NONE}, {1, 0, 1, 1}, {0, 1, 0, NONE}, {0, 0, 1, 0}};
        for (int[] d : due) {
            tell(x, d[0], d[1]);
            pots(x, d[2], d[3]);
        }
        Check.due("the pot stays", x.count(3), 50);
        // x is not looked at by 0 and 1
        tell(x, 10, 20);
        for (int any : new int[] {-1, 6, 20, LEAST, MOST}) {
            Check.due("which 0, x " + any, x.who(any, 0, 0, 0), 970);
            Check.due("which 1, x " + any, x.who(any, 1, 0, 0), 30);
        }
    }

    /** "KINDS (bits 1 to 5) of a PROJECT by which it is so." */
    private static void kindsAtTheBounds() {
        MatchFund none = Check.told("m5,1;f;f;f;f;f;f;");
        tell(none, 0, 0, 0, 0, 0, 0);
        Check.due("all of the first", none.who(0, 2, 0, 0), 62);
        Check.due("all of the last", none.who(5, 2, 0, 0), 62);
        Check.due("of none such", none.who(6, 2, 0, 0), BAD);
        Check.due("of none such", none.who(-1, 2, 0, 0), BAD);
        tell(none, 0, 0, 0, 0, 0, 1);
        Check.due("none", none.who(5, 2, 0, 0), 0);
        // roots 400 and 500, overlap 20: open 2 * 20 * 9 / 29 = 12, half 6, square 81 - 41, flat 41, capped 10
        int[][] due = {{12, 2}, {40, 4}, {6, 8}, {41, 16}, {10, 32}, {13, 0}, {0, 0}};
        for (int from = 1; from <= 5; from++) {
            MatchFund x = Check.told("m99,9;f;" + "oshfc".charAt(from - 1) + ";g0,1,16;g1,1,25;g2,0,3;");
            for (int[] d : due) {
                tell(x, 3, d[0]);
                Check.due("kinds by " + d[0], x.who(1, 2, 0, 0), d[1]);
                tell(x, 4, d[0]);
                Check.due("kinds, the other is not so", x.who(1, 2, 0, 0), 0);
            }
            Check.due("the kind stays", x.kind(1), from);
        }
    }

    private static void coins(MatchFund x, int gift, int many, int least) {
        Check.due("how many coins of " + gift, x.who(gift, 3, 0, 0), many);
        Check.due("the least coins of " + gift, x.who(gift, 4, 0, 0), least);
    }

    /** "COINS (1 to 99) of a GIFT, likewise: how many; the least; NONE." */
    private static void coinsAtTheBounds() {
        MatchFund x = Check.told("m99,1;f;g0,0,50;");
        int[][] due = {{1, 1, 1}, {2, 1, 2}, {98, 1, 98}, {99, 1, 99}, {100, 0, NONE}, {0, 0, NONE}, {-1, 0, NONE}};
        for (int[] d : due) {
            tell(x, d[0]);
            coins(x, 0, d[1], d[2]);
        }
        Check.due("the gift stays", x.gift(0, 2), 50);
        Check.due("gift 1", x.who(1, 3, 0, 0), BAD);
        Check.due("gift 1", x.who(1, 4, 0, 0), BAD);
        Check.due("gift -1", x.who(-1, 3, 0, 0), BAD);
        x.pot(0);
        tell(x, 0);
        coins(x, 0, 99, 1);
        x.pot(99);
        tell(x, 99);
        coins(x, 0, 1, 99);
        x.pot(98);
        tell(x, 98);
        coins(x, 0, 2, 98);
        x.become(0, 5);
        tell(x, 5);
        coins(x, 0, 95, 5);
        tell(x, 4);
        coins(x, 0, 1, 4);
        tell(x, 6);
        coins(x, 0, 0, NONE);
        x.become(0, 1);
        tell(x, 0);
        coins(x, 0, 99, 1);
    }

    /** The other gifts of the same name to the same project stay as they are, the first and the last gift of 20, too. */
    private static void coinsOfASumOfSeveral() {
        MatchFund x = Check.told("m0,1;f;f;");
        for (int g = 0; g < 20; g++) {
            x.give(g % 3, g % 2, 9);
        }
        x.pot(999);
        x.one(0, 1);
        for (int g = 0; g < 20; g += 19) {
            int to = x.gift(g, 1);
            tell(x, to == 0 ? 81 + 1 : 90, to == 1 ? 81 + 1 : 90);
            coins(x, g, 1, 1);
            tell(x, to == 0 ? 81 + 99 : 90, to == 1 ? 81 + 99 : 90);
            coins(x, g, 1, 99);
            tell(x, to == 0 ? 81 : 90, to == 1 ? 81 : 90);
            coins(x, g, 0, NONE);
            tell(x, to == 0 ? 81 + 100 : 90, to == 1 ? 81 + 100 : 90);
            coins(x, g, 0, NONE);
            tell(x, to == 0 ? 81 + 99 : 91, to == 1 ? 81 + 99 : 91);
            coins(x, g, 0, NONE);
        }
        Check.due("no gift 20", x.who(20, 3, 0, 0), BAD);
        // two caps of 5 for 2 and so many more: 8 or more make 10; in one name there is one cap
        MatchFund capped = Check.told("m99,1;c;g0,0,2;g3,0,9;");
        tell(capped, 10);
        coins(capped, 1, 92, 8);
        capped.one(3, 0);
        coins(capped, 1, 0, NONE);
        tell(capped, 5);
        coins(capped, 1, 97, 3);
    }

    /** "as many ITEMS of a ROW from i on as there are PROJECTS"; "NULL; PLACE". */
    private static void itemsOfARow() {
        String text = "m99,1;";
        for (int projects = 1; projects <= 6; projects++) {
            text += "f;";
            MatchFund x = Check.told(text);
            x.row(1, 0, 40);
            x.row(2, 0, projects);
            x.row(3, 0, projects - 1);
            x.row(4, 0, 0);
            Check.due("the first", x.who(0, 0, 1, 0), 1000);
            Check.due("the last", x.who(0, 0, 1, 40 - projects), 1000);
            Check.due("beyond", x.who(0, 0, 1, 41 - projects), PLACE);
            Check.due("at the end", x.who(0, 0, 1, 40), PLACE);
            Check.due("below", x.who(0, 0, 1, -1), PLACE);
            Check.due("least", x.who(0, 0, 1, LEAST), PLACE);
            Check.due("most", x.who(0, 0, 1, MOST), PLACE);
            Check.due("most, but as many", x.who(0, 0, 1, MOST - projects), PLACE);
            Check.due("just as many", x.who(0, 0, 2, 0), 1000);
            Check.due("one fewer", x.who(0, 0, 3, 0), PLACE);
            Check.due("a row of none", x.who(0, 0, 4, 0), PLACE);
            Check.due("missing", x.who(0, 0, 5, 0), NULL);
        }
        // each project by its own item, from i on
        MatchFund x = Check.told("m99,1;f;f;f;g0,0,1;g0,1,2;g0,2,4;");
        tell(x, 9, 9, 1, 2, 4, 9);
        int[] due = {0, 0, 993, 0};
        for (int i = 0; i < 4; i++) {
            Check.due("from " + i, x.who(0, 0, 0, i), due[i]);
        }
    }

    /** An item is what it is in its lane: bytes cannot tell 128, nor shorts 32768. */
    private static void lanesOfARow() {
        MatchFund x = Check.told("m99,1;f;g0,0,99;g0,0,29;");
        int[] due = {0, 872, 872};
        for (int lane = 0; lane < 3; lane++) {
            x.row(lane, lane, 1);
            x.set(lane, 0, 128);
            Check.due("128 in lane " + lane, x.who(0, 0, lane, 0), due[lane]);
            x.set(lane, 0, 127);
            Check.due("127 in lane " + lane, x.who(0, 0, lane, 0), 1);
        }
        x.set(1, 0, 65536 + 128);
        Check.due("its lowest bits alone", x.who(0, 0, 1, 0), 872);
    }

    /** "BAD: which, x (by 2, 3, 4), ROW; STATE: no FUND (ahead of BAD); NULL; PLACE." */
    private static void refusedInOrder() {
        MatchFund x = Check.told("m99,1;f;g0,0,9;");
        x.row(0, 0, 1);
        Check.due("which 5", x.who(0, 5, 0, 0), BAD);
        Check.due("which -1", x.who(0, -1, 0, 0), BAD);
        Check.due("BAD which ahead of NULL", x.who(0, 5, 1, 0), BAD);
        Check.due("BAD which ahead of PLACE", x.who(0, 5, 0, 9), BAD);
        Check.due("BAD x ahead of NULL", x.who(1, 2, 1, 0), BAD);
        Check.due("BAD x ahead of PLACE", x.who(1, 3, 0, 9), BAD);
        Check.due("BAD row ahead of PLACE", x.who(0, 0, 8, 9), BAD);
        Check.due("NULL ahead of PLACE", x.who(0, 4, 7, -1), NULL);
        for (int which = 0; which < 5; which++) {
            Check.due("PLACE by " + which, x.who(0, which, 0, 1), PLACE);
            Check.due("status", x.status(), 2);
            Check.due("NULL by " + which, x.who(0, which, 1, 0), NULL);
            Check.due("status", x.status(), 1);
        }
        MatchFund none = new MatchFund();
        Check.due("STATE ahead of NULL", none.who(0, 0, 0, 0), MatchFund.STATE);
        Check.due("STATE ahead of BAD", none.who(-1, 9, 9, -1), MatchFund.STATE);
    }

    private static void likely(MatchFund x, int project, int v, int p, long above, long below) {
        String call = "likely(" + project + ", " + v + ", " + p + ", ";
        Check.due(call + "0)", x.likely(project, v, p, 0), above);
        Check.due(call + "1)", x.likely(project, v, p, 1), below);
    }

    /** "BACK by p of 10 (0 to 10)"; "v (0 to 9999) or more"; "0 is 0 by 1". */
    private static void likelyAtTheBounds() {
        MatchFund x = Check.told("m99,1;f;f;g0,0,7;");
        for (int p = 0; p <= 10; p++) {
            likely(x, 0, 0, p, 1, 1);
            likely(x, 1, 0, p, 1, 1);
            likely(x, 0, 8, p, 0, 1);
            likely(x, 1, 1, p, 0, 1);
        }
        int[][] stays = {{0, 1, 1}, {1, 9, 10}, {2, 4, 5}, {5, 1, 2}, {9, 1, 10}, {10, 0, 1}};
        for (int[] d : stays) {
            likely(x, 0, 1, d[0], d[1], d[2]);
            likely(x, 0, 7, d[0], d[1], d[2]);
        }
        likely(x, 0, 9999, 3, 0, 1);
        Check.due("v 10000", x.likely(0, 10000, 3, 0), BAD);
        Check.due("v -1", x.likely(0, -1, 3, 0), BAD);
        Check.due("p 11", x.likely(0, 0, 11, 0), BAD);
        Check.due("p -1", x.likely(0, 0, -1, 0), BAD);
        Check.due("what 2", x.likely(0, 0, 0, 2), BAD);
        MatchFund none = Check.told("m99,1;f;");
        likely(none, 0, 0, 5, 1, 1);
        likely(none, 0, 1, 5, 0, 1);
        MatchFund great = Check.told("m0,1;f;" + "g0,0,99;".repeat(11));
        great.pot(999);
        likely(great, 0, 999, 3, 7, 10);
        likely(great, 0, 1000, 3, 0, 1);
        likely(great, 0, 1000, 0, 0, 1);
    }

    private static void likelyInLowestTerms() {
        MatchFund ten = Check.told("m99,1;f;");
        for (int g = 0; g < 10; g++) {
            ten.give(g, 0, 1);
        }
        likely(ten, 0, 10, 0, 1, 1);
        likely(ten, 0, 10, 1, 3486784401L, 10000000000L);
        likely(ten, 0, 10, 2, 1048576, 9765625);
        likely(ten, 0, 10, 4, 59049, 9765625);
        likely(ten, 0, 10, 5, 1, 1024);
        likely(ten, 0, 10, 9, 1, 10000000000L);
        likely(ten, 0, 10, 10, 0, 1);
        // 10 and 1 of 1024, 45 and 10 and 1 of them
        likely(ten, 0, 9, 5, 11, 1024);
        likely(ten, 0, 8, 5, 7, 128);
        likely(ten, 0, 1, 5, 1023, 1024);
        likely(ten, 0, 1, 9, 6513215599L, 10000000000L);
        likely(ten, 0, 0, 9, 1, 1);
        likely(ten, 0, 11, 9, 0, 1);
    }

    /** "each GIVER of its own NAME, of whom a SUM is above 0, takes all in that NAME back" */
    private static void likelyByNames() {
        MatchFund x = Check.told("m99,1;f;f;g0,0,5;g1,0,5;g2,1,9;");
        likely(x, 0, 5, 1, 99, 100);
        likely(x, 0, 10, 1, 81, 100);
        x.one(0, 1);
        likely(x, 0, 5, 1, 9, 10);
        likely(x, 0, 10, 1, 9, 10);
        x.one(1, 2);
        likely(x, 0, 10, 1, 9, 10);
        likely(x, 1, 9, 1, 9, 10);
        // two who give to the same open project both have to stay: 18 * 9 / (9 + 9)
        MatchFund open = Check.told("m99,9;o;g0,0,9;g9,0,9;");
        likely(open, 0, 9, 3, 49, 100);
        likely(open, 0, 10, 3, 0, 1);
        // one coin of each of four, terms of 1: two of them have to stay for 1, three for 3, all for 6
        MatchFund four = Check.told("m99,99;o;g0,0,1;g3,0,1;g6,0,1;g9,0,1;");
        likely(four, 0, 1, 5, 11, 16);
        likely(four, 0, 2, 5, 5, 16);
        likely(four, 0, 3, 5, 5, 16);
        likely(four, 0, 4, 5, 1, 16);
        likely(four, 0, 6, 5, 1, 16);
        likely(four, 0, 7, 5, 0, 1);
        // a rival who takes back leaves more: 5 of 10 with him, 10 without
        MatchFund tight = Check.told("m1,1;f;f;g0,0,10;g1,1,10;");
        likely(tight, 0, 5, 3, 7, 10);
        likely(tight, 0, 6, 3, 21, 100);
        likely(tight, 0, 10, 3, 21, 100);
        likely(tight, 0, 11, 3, 0, 1);
    }

    /** The years of a fund written down anew; all projects are capped, so givers and projects both tell. */
    private static long[] years(int projects, int pot, int[][] gifts, int n, long seed) {
        long x = seed;
        long all = 0;
        long rest = pot - capped(projects, gifts);
        for (int i = 0; i < n; i++) {
            x = x * 16807 % 2147483647L;
            int[] gift = gifts[(int) (x % gifts.length)];
            gift[0] = (int) (x / 32 % 10);
            gift[1] = (int) (x / 512 % projects);
            gift[2] = (int) (x / 4096 % 99) + 1;
            long claims = capped(projects, gifts);
            all += Math.min(pot, claims);
            rest = pot - claims;
        }
        return new long[] {all, Math.max(0, rest)};
    }

    private static long capped(int projects, int[][] gifts) {
        long claims = 0;
        for (int p = 0; p < projects; p++) {
            int coins = 0;
            int givers = 0;
            for (int[] g : gifts) {
                if (g[1] == p) {
                    coins += g[2];
                    givers |= 1 << g[0];
                }
            }
            claims += Math.min(coins, 5 * Integer.bitCount(givers));
        }
        return claims;
    }

    /** "YEARS of n GIFTS (0 to 60) by a SEED (1 to 999999)" */
    private static void drawnAtTheBounds() {
        int[] seeds = {1, 2, 127773, 999998, 999999};
        int[] draws = {0, 1, 2, 3, 59, 60};
        int[] giftsThere = {1, 2, 19, 20};
        for (int many : giftsThere) {
            MatchFund x = Check.told("m0,1;c;c;c;");
            for (int g = 0; g < many; g++) {
                x.give(g % 10, g % 3, g + 1);
            }
            x.pot(60);
            for (int seed : seeds) {
                for (int n : draws) {
                    int[][] gifts = new int[many][];
                    for (int g = 0; g < many; g++) {
                        gifts[g] = new int[] {g % 10, g % 3, g + 1};
                    }
                    long[] due = years(3, 60, gifts, n, seed);
                    String call = many + " gifts, drawn(" + n + ", " + seed + ", ";
                    Check.due(call + "0)", x.drawn(n, seed, 0), due[0]);
                    Check.due(call + "1)", x.drawn(n, seed, 1), due[1]);
                }
            }
        }
        MatchFund x = Check.told("m9,1;f;g0,0,1;");
        Check.due("n -1", x.drawn(-1, 1, 0), BAD);
        Check.due("n 61", x.drawn(61, 1, 0), BAD);
        Check.due("seed 0", x.drawn(1, 0, 0), BAD);
        Check.due("seed -1", x.drawn(1, -1, 0), BAD);
        Check.due("seed 1000000", x.drawn(1, 1000000, 0), BAD);
        Check.due("what -1", x.drawn(1, 1, -1), BAD);
        Check.due("what 2", x.drawn(1, 1, 2), BAD);
    }

    /** Draw by draw from seed 1: X is 16807, then 282475249. */
    private static void drawnGiversAndProjects() {
        // 16807: gift 1 of 2; by 32 it is 525: giver 5; by 512 it is 32: project 2 of 3; by 4096 it is 4: 5 coins
        MatchFund x = Check.told("m99,1;f;f;s;g0,0,7;g0,0,20;g5,1,1;");
        Check.due("gift 1 of 3 is redrawn", x.drawn(1, 1, 0), 7 + 1);
        MatchFund two = Check.told("m99,1;f;f;f;g0,0,7;g0,0,20;");
        Check.due("gift 1 of 2 is redrawn", two.drawn(1, 1, 0), 7 + 5);
        Check.due("rest", two.drawn(1, 1, 1), 990 - 12);
        // project 2 is square: 5 coins of giver 5 beside 20 of giver 0 are (447 + 223)^2 / 10000 - 25 = 19
        MatchFund square = Check.told("m99,1;f;f;s;g0,2,20;g0,0,40;");
        Check.due("to project 2", square.drawn(1, 1, 0), 19);
        // of giver 0 they would be one SUM: root(25) squared is 25, less 25
        MatchFund one = Check.told("m99,1;f;f;s;g5,2,20;g0,0,40;");
        Check.due("from giver 5", one.drawn(1, 1, 0), 0);
        square.one(5, 0);
        Check.due("in the name of giver 0", square.drawn(1, 1, 0), 0);
        // the gift that is redrawn was in another's name
        MatchFund named = Check.told("m99,1;f;g0,0,7;");
        named.one(0, 3);
        Check.due("out of another's name", named.drawn(1, 1, 0), 5);
        Check.due("out of another's name, rest", named.drawn(1, 1, 1), 985);
    }

    /** "(if there are any)": without gifts X goes on and nothing is paid. */
    private static void drawnOfNone() {
        MatchFund x = Check.told("m99,1;f;o;");
        for (int n = 0; n <= 60; n += 20) {
            Check.due("paid", x.drawn(n, 999999, 0), 0);
            Check.due("rest", x.drawn(n, 999999, 1), 990);
        }
        x.give(0, 0, 9);
        Check.due("no draw, paid", x.drawn(0, 1, 0), 0);
        Check.due("no draw, rest", x.drawn(0, 1, 1), 981);
        x.pot(5);
        Check.due("no draw, no rest", x.drawn(0, 1, 1), 0);
    }

    /** "FORETOLD (nothing changes)": nor by the greatest that each call can be asked. */
    private static void nothingChanges() {
        MatchFund x = busy();
        x.paidIf(9, 5, 99, 0);
        x.best(9, 99, 1);
        x.least(9, 0, 9999);
        x.missed(5, 1);
        x.ring(2);
        x.halves(9, 40, 0, 5, 1);
        x.sets(999, 2);
        x.byTurns(9, 8, 4, 20);
        x.likely(5, 9999, 9, 1);
        x.drawn(60, 999999, 1);
        for (int what = 0; what < 2; what++) {
            x.ask(1, what);
        }
        for (int which = 0; which < 5; which++) {
            x.who(5, which, 0, 0);
        }
        MatchFund twin = busy();
        twin.ask(1, 1);
        twin.who(5, 0, 0, 0);
        String got = Reading.whole(x);
        String due = Reading.whole(twin);
        Check.due("is " + got + " due " + due, got.equals(due) ? 1 : 0, 1);
    }

    private static MatchFund busy() {
        MatchFund x = Check.told("m9,3;o;s;h;f;c;o;g0,0,4;g1,0,9;g2,1,16;g3,4,30;g9,5,2;g8,5,3;");
        x.image(0);
        x.pot(20);
        x.image(1);
        for (int g = 6; g < 16; g++) {
            x.give(g % 10, g % 6, g);
        }
        x.one(9, 1);
        x.row(0, 2, 6);
        x.set(0, 0, 7);
        Check.feedAll(x, "m0,1;");
        return x;
    }
}
