/** Promises 2 to 5 and 41, and what the document says of ROWS: each at its bounds and just beyond. */
public final class RowBoundsTest {
    private static final int NULL = -1000011, PLACE = -1000012, SIZE = -1000014, STORE = -1000015;
    private static final int BAD = MatchFund.BAD, LEAST = Integer.MIN_VALUE, MOST = Integer.MAX_VALUE;
    /** One flat project that claims 1089: the least pot by which it is paid v is v, so who() tells an item. */
    private static final String READER = "m0,1;f;" + "g0,0,99;".repeat(11);

    private RowBoundsTest() {
    }

    public static void main(String[] args) {
        missingAtFirst();
        sizes();
        zeroAtFirst();
        inPlaceOfWhatIsThere();
        lowestBits();
        places();
        copyToTheEnds();
        copyBeyondTheEnds();
        copyAsTheyWereAhead();
        copyLanes();
        rowsApart();
        dropped();
        statusOfTheLatest();
        Check.end("RowBoundsTest");
    }

    private static void items(String when, MatchFund x, int row, int... due) {
        for (int i = 0; i < due.length; i++) {
            Check.due(when + ", item " + i + " of row " + row, x.who(0, 1, row, i), due[i]);
        }
        Check.due(when + ", items of row " + row, x.who(0, 1, row, due.length), PLACE);
    }

    private static MatchFund counted(int row, int lane, int n) {
        MatchFund x = Check.told(READER);
        x.row(row, lane, n);
        for (int i = 0; i < n; i++) {
            x.set(row, i, i + 1);
        }
        return x;
    }

    private static int[] upTo(int n) {
        int[] all = new int[n];
        for (int i = 0; i < n; i++) {
            all[i] = i + 1;
        }
        return all;
    }

    /** "ROWS 0 .. 7 are missing (at first)" */
    private static void missingAtFirst() {
        MatchFund x = Check.told("m0,1;f;");
        for (int row = 0; row < 8; row++) {
            Check.due("set of row " + row, x.set(row, 0, 1), NULL);
            Check.due("drop of row " + row, x.drop(row), NULL);
            Check.due("copy of row " + row, x.copy(row, 0, row, 0, 0), NULL);
            Check.due("who by row " + row, x.who(0, 0, row, 0), NULL);
            Check.due("count(0)", x.count(0), row);
            Check.due("row " + row, x.row(row, 0, 0), 0);
        }
        Check.due("all eight", x.count(0), 8);
        for (int row : new int[] {-1, 8, LEAST, MOST}) {
            Check.due("row " + row, x.row(row, 0, 1), BAD);
            Check.due("set of row " + row, x.set(row, 0, 1), BAD);
            Check.due("drop of row " + row, x.drop(row), BAD);
            Check.due("copy from row " + row, x.copy(row, 0, 0, 0, 0), BAD);
            Check.due("copy to row " + row, x.copy(0, 0, row, 0, 0), BAD);
            Check.due("who by row " + row, x.who(0, 0, row, 0), BAD);
        }
        Check.due("eight yet", x.count(0), 8);
    }

    /** "0 to 40 ITEMS"; "BAD: n above 40; SIZE", fewer than none. */
    private static void sizes() {
        for (int lane = 0; lane < 3; lane++) {
            MatchFund x = new MatchFund();
            Check.due("n 0", x.row(3, lane, 0), 0);
            Check.due("no place 0", x.set(3, 0, 1), PLACE);
            Check.due("n 1", x.row(3, lane, 1), 1);
            Check.due("place 0", x.set(3, 0, 1), 1);
            Check.due("no place 1", x.set(3, 1, 1), PLACE);
            Check.due("n 40", x.row(3, lane, 40), 40);
            Check.due("place 39", x.set(3, 39, 1), 1);
            Check.due("no place 40", x.set(3, 40, 1), PLACE);
            Check.due("n 41", x.row(3, lane, 41), BAD);
            Check.due("n most", x.row(3, lane, MOST), BAD);
            Check.due("n -1", x.row(3, lane, -1), SIZE);
            Check.due("n least", x.row(3, lane, LEAST), SIZE);
            Check.due("40 yet", x.drop(3), 40);
        }
        MatchFund x = new MatchFund();
        Check.due("BAD row ahead of SIZE", x.row(8, 0, -1), BAD);
        Check.due("BAD lane ahead of SIZE", x.row(0, 3, -1), BAD);
        Check.due("BAD lane below ahead of SIZE", x.row(0, -1, -1), BAD);
        Check.due("SIZE of a row that is missing", x.row(7, 2, -1), SIZE);
        Check.due("it is missing yet", x.drop(7), NULL);
    }

    /** "ITEMS, 0 at first", in whatever was there before. */
    private static void zeroAtFirst() {
        for (int row = 0; row < 8; row += 7) {
            MatchFund x = counted(row, 2, 40);
            x.row(row, 2, 40);
            items("made anew", x, row, new int[40]);
            MatchFund dropped = counted(row, 2, 40);
            dropped.drop(row);
            dropped.row(row, 1, 40);
            items("made after a drop", dropped, row, new int[40]);
            MatchFund shrunk = counted(row, 0, 40);
            shrunk.row(row, 0, 1);
            shrunk.row(row, 0, 40);
            items("made small, then great", shrunk, row, new int[40]);
        }
    }

    /** "in place of what is there": lane and items of the row before are gone. */
    private static void inPlaceOfWhatIsThere() {
        MatchFund x = new MatchFund();
        x.row(2, 0, 5);
        Check.due("a byte", x.set(2, 4, 300), 44);
        Check.due("ints, fewer", x.row(2, 2, 3), 3);
        Check.due("an int", x.set(2, 2, 300), 300);
        Check.due("no fourth", x.set(2, 3, 1), PLACE);
        Check.due("one row", x.count(0), 1);
        Check.due("shorts, more", x.row(2, 1, 6), 6);
        Check.due("a short", x.set(2, 5, 70000), 4464);
        Check.due("one row", x.count(0), 1);
        Check.due("six", x.drop(2), 6);
    }

    /** "its lowest bits, as many as the LANE has: what it is then" */
    private static void lowestBits() {
        int[][] due = {
            {127, 127, 127, 127}, {128, -128, 128, 128}, {255, -1, 255, 255}, {256, 0, 256, 256},
            {-128, -128, -128, -128}, {-129, 127, -129, -129}, {-256, 0, -256, -256}, {-257, -1, -257, -257},
            {32767, -1, 32767, 32767}, {32768, 0, -32768, 32768}, {65535, -1, -1, 65535}, {65536, 0, 0, 65536},
            {-32768, 0, -32768, -32768}, {-32769, -1, 32767, -32769}, {-65536, 0, 0, -65536},
            {MOST, -1, -1, MOST}, {LEAST, 0, 0, LEAST}, {0, 0, 0, 0}, {-1, -1, -1, -1},
        };
        MatchFund x = new MatchFund();
        for (int lane = 0; lane < 3; lane++) {
            x.row(lane, lane, 1);
        }
        for (int[] d : due) {
            for (int lane = 0; lane < 3; lane++) {
                Check.due("set to " + d[0] + " in lane " + lane, x.set(lane, 0, d[0]), d[lane + 1]);
            }
        }
        // what it is then is what is kept, not what was told
        MatchFund kept = Check.told(READER);
        kept.row(0, 0, 2);
        kept.set(0, 0, 256 + 44);
        kept.set(0, 1, -256 + 9);
        items("bytes", kept, 0, 44, 9);
        kept.row(1, 1, 2);
        kept.set(1, 0, 65536 + 300);
        kept.set(1, 1, -65536 + 301);
        items("shorts", kept, 1, 300, 301);
        kept.row(2, 2, 1);
        kept.set(2, 0, 65536 + 300);
        Check.due("an int of more than any pot pays", kept.who(0, 1, 2, 0), MatchFund.NONE);
    }

    /** set: "BAD: ROW; NULL; PLACE" */
    private static void places() {
        MatchFund x = counted(7, 0, 3);
        for (int i : new int[] {-1, 3, 39, 40, LEAST, MOST}) {
            Check.due("set at " + i, x.set(7, i, 9), PLACE);
            Check.due("NULL ahead of PLACE at " + i, x.set(6, i, 9), NULL);
            Check.due("BAD ahead of PLACE at " + i, x.set(8, i, 9), BAD);
        }
        items("no place", x, 7, 1, 2, 3);
        Check.due("the first", x.set(7, 0, 11), 11);
        Check.due("the last", x.set(7, 2, 13), 13);
        items("the ends", x, 7, 11, 2, 13);
    }

    private static void copyToTheEnds() {
        MatchFund x = counted(0, 2, 40);
        x.row(1, 2, 40);
        Check.due("all forty", x.copy(0, 0, 1, 0, 40), 40);
        items("all forty", x, 1, upTo(40));
        x.row(1, 2, 3);
        Check.due("the last of a to the last of b", x.copy(0, 39, 1, 2, 1), 1);
        items("the last", x, 1, 0, 0, 40);
        Check.due("the first of a to the first of b", x.copy(0, 0, 1, 0, 1), 1);
        items("the first", x, 1, 1, 0, 40);
        Check.due("as many as b has", x.copy(0, 37, 1, 0, 3), 3);
        items("as many as b has", x, 1, 38, 39, 40);
        Check.due("none, from end to end", x.copy(0, 40, 1, 3, 0), 0);
        Check.due("none, from first to first", x.copy(0, 0, 1, 0, 0), 0);
        x.row(2, 2, 0);
        Check.due("none of none", x.copy(2, 0, 2, 0, 0), 0);
        Check.due("none to none", x.copy(0, 40, 2, 0, 0), 0);
        Check.due("one of none", x.copy(2, 0, 1, 0, 1), PLACE);
        Check.due("one to none", x.copy(1, 0, 2, 0, 1), PLACE);
        items("nothing changed", x, 1, 38, 39, 40);
    }

    /** "PLACE (i, j, n below 0, or beyond an end)", even if it wraps around. */
    private static void copyBeyondTheEnds() {
        MatchFund x = counted(0, 1, 5);
        x.row(1, 1, 3);
        int[][] beyond = {
            {-1, 0, 1}, {0, -1, 1}, {0, 0, -1}, {-1, 0, 0}, {0, -1, 0}, {-1, -1, -1},
            {0, 0, 4}, {5, 0, 1}, {4, 0, 2}, {3, 0, 3}, {0, 3, 1}, {0, 2, 2}, {0, 1, 3},
            {6, 0, 0}, {0, 4, 0}, {40, 0, 0}, {0, 40, 0},
            {MOST, 0, 1}, {0, MOST, 1}, {0, 0, MOST}, {1, 0, MOST}, {0, 1, MOST}, {1, 1, MOST}, {MOST, MOST, MOST},
            {LEAST, 0, 1}, {0, LEAST, 1}, {0, 0, LEAST}, {5, 3, LEAST}, {LEAST, LEAST, LEAST}, {MOST, 0, 0}, {-3, 0, 5},
        };
        for (int[] d : beyond) {
            String call = "copy(0, " + d[0] + ", 1, " + d[1] + ", " + d[2] + ")";
            Check.due(call, x.copy(0, d[0], 1, d[1], d[2]), PLACE);
            Check.due(call + ", BAD first", x.copy(0, d[0], 8, d[1], d[2]), BAD);
            Check.due(call + ", NULL first", x.copy(7, d[0], 1, d[1], d[2]), NULL);
        }
        items("nothing changed", x, 0, 1, 2, 3, 4, 5);
        items("not even in part", x, 1, 0, 0, 0);
        Check.due("beyond an end of itself", x.copy(0, 1, 0, 0, 5), PLACE);
        Check.due("beyond the other end of itself", x.copy(0, 0, 0, 1, 5), PLACE);
        items("nothing changed", x, 0, 1, 2, 3, 4, 5);
    }

    /** "as they were ahead", where the two parts lie over one another. */
    private static void copyAsTheyWereAhead() {
        MatchFund x = counted(4, 0, 6);
        Check.due("one on", x.copy(4, 0, 4, 1, 5), 5);
        items("one on", x, 4, 1, 1, 2, 3, 4, 5);
        MatchFund y = counted(4, 0, 6);
        Check.due("one back", y.copy(4, 1, 4, 0, 5), 5);
        items("one back", y, 4, 2, 3, 4, 5, 6, 6);
        MatchFund z = counted(4, 0, 6);
        Check.due("where they are", z.copy(4, 0, 4, 0, 6), 6);
        items("where they are", z, 4, upTo(6));
    }

    /** "STORE (ROWS of two LANES)", behind NULL, ahead of PLACE, and of no items, too. */
    private static void copyLanes() {
        for (int a = 0; a < 3; a++) {
            for (int b = 0; b < 3; b++) {
                MatchFund x = new MatchFund();
                x.row(a, a, 2);
                x.row(3 + b, b, 2);
                String call = "lane " + a + " to " + b;
                Check.due(call, x.copy(a, 0, 3 + b, 0, 2), a == b ? 2 : STORE);
                Check.due(call + ", none", x.copy(a, 0, 3 + b, 0, 0), a == b ? 0 : STORE);
                Check.due(call + ", no place", x.copy(a, 0, 3 + b, 0, 3), a == b ? PLACE : STORE);
                Check.due(call + ", NULL", x.copy(a, 0, 7, 0, 3), NULL);
                Check.due(call + ", NULL", x.copy(7, 0, 3 + b, 0, 3), NULL);
                Check.due(call + ", BAD", x.copy(-1, 0, 7, 0, 3), BAD);
            }
        }
    }

    /** A full row ends where the next one's items begin: neither may reach into the other. */
    private static void rowsApart() {
        MatchFund x = counted(3, 2, 40);
        x.row(4, 2, 40);
        items("a new row", x, 3, upTo(40));
        for (int i = 0; i < 40; i++) {
            x.set(4, i, 500 + i);
        }
        items("the row before", x, 3, upTo(40));
        MatchFund y = counted(4, 2, 40);
        y.row(3, 2, 40);
        y.row(5, 2, 40);
        y.copy(4, 0, 3, 0, 40);
        y.copy(4, 0, 5, 1, 39);
        items("the row between", y, 4, upTo(40));
        y.drop(3);
        y.drop(5);
        items("the row between", y, 4, upTo(40));
    }

    /** drop: "how many ITEMS it had. BAD; NULL." */
    private static void dropped() {
        MatchFund x = new MatchFund();
        int[] sizes = {0, 1, 40};
        for (int n : sizes) {
            x.row(0, 0, n);
            x.row(7, 1, n);
            Check.due("drop of " + n, x.drop(0), n);
            Check.due("the other is there", x.count(0), 1);
            Check.due("drop of " + n, x.drop(7), n);
            Check.due("twice", x.drop(0), NULL);
            Check.due("twice", x.drop(7), NULL);
        }
        Check.due("none is there", x.count(0), 0);
    }

    /** status: of the latest call with a ROW, or as(), that was not BAD, STATE, FULL. */
    private static void statusOfTheLatest() {
        MatchFund x = new MatchFund();
        x.row(0, 0, -1);
        x.row(0, 0, 41);
        Check.due("row BAD leaves SIZE", x.status(), 4);
        x.set(-1, 0, 0);
        Check.due("set BAD leaves SIZE", x.status(), 4);
        x.copy(0, 0, 8, 0, 0);
        Check.due("copy BAD leaves SIZE", x.status(), 4);
        x.drop(8);
        Check.due("drop BAD leaves SIZE", x.status(), 4);
        x.who(0, 0, 0, 0);
        Check.due("who STATE leaves SIZE", x.status(), 4);
        x.as(0, 0);
        Check.due("as BAD leaves SIZE", x.status(), 4);
        x.row(0, 0, 0);
        Check.due("row without a finding", x.status(), 0);
        Check.feedAll(x, "m0,1;o;");
        x.fund();
        x.as(0, 4);
        Check.due("as finds KIND", x.status(), 3);
        x.who(0, 5, 0, 0);
        Check.due("who BAD leaves KIND", x.status(), 3);
        x.give(0, 0, 100);
        x.undo();
        x.ask(0, 0);
        x.count(9);
        Check.due("calls without a row leave KIND", x.status(), 3);
        x.as(0, 1);
        Check.due("as without a finding", x.status(), 0);
        x.who(0, 0, 0, 0);
        Check.due("who finds PLACE", x.status(), 2);
        x.row(0, 0, 1);
        x.who(0, 0, 1, 0);
        Check.due("who finds NULL", x.status(), 1);
        for (int which = 0; which < 3; which++) {
            x.set(1, 0, 0);
            x.who(0, which, 0, 0);
            Check.due("who without a finding", x.status(), 0);
        }
        x.give(0, 0, 1);
        for (int which = 3; which < 5; which++) {
            x.set(1, 0, 0);
            x.who(0, which, 0, 0);
            Check.due("who without a finding", x.status(), 0);
        }
        x.set(1, 0, 0);
        x.set(0, 0, 0);
        Check.due("set without a finding", x.status(), 0);
        x.set(1, 0, 0);
        x.copy(0, 0, 0, 0, 1);
        Check.due("copy without a finding", x.status(), 0);
        x.drop(1);
        Check.due("drop finds NULL", x.status(), 1);
        x.drop(0);
        Check.due("drop without a finding", x.status(), 0);
    }
}
