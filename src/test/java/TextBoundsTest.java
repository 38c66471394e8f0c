/** Promises 1 and 6 to 8, THE TAPE, TOKENS, the law, projects and gifts of a text, and FAULTS, at their bounds. */
public final class TextBoundsTest {
    private static final int BAD = MatchFund.BAD, STATE = MatchFund.STATE, FULL = MatchFund.FULL, NONE = MatchFund.NONE;
    private static final String SHORT = "m0,1;f;g0,0,1;";
    /** Five of the law, two of a project, thirteen gifts of seven bytes and four of eight. */
    private static final String LONGEST = "m0,1;f;" + "g0,0,1;".repeat(13) + "g0,0,10;".repeat(4);

    private TextBoundsTest() {
    }

    public static void main(String[] args) {
        newObject();
        tapeOf130();
        faultAtTheEndOfAFullTape();
        bytesOfTheTape();
        signsAndLetters();
        figures();
        runsOfFigures();
        everyBeginning();
        lawAtItsBounds();
        projectsAtTheirBounds();
        giftsAtTheirBounds();
        theLeastFault();
        latestFault();
        allStays();
        inPlaceOfTheOneBefore();
        Check.end("TextBoundsTest");
    }

    private static int read(MatchFund x, String text) {
        Check.feedAll(x, text);
        return x.fund();
    }

    private static void fault(String text, int place, int number) {
        MatchFund x = new MatchFund();
        Check.due("fund() of " + text, read(x, text), -1000100 - place);
        Check.due("fault() of " + text, x.fault(), number);
        Check.due("no fund by " + text, x.stand(0), STATE);
        Check.due("the tape behind " + text, x.count(6), 0);
    }

    private static MatchFund fine(String text, int projects) {
        MatchFund x = new MatchFund();
        Check.due("fund() of " + text, read(x, text), projects);
        Check.due("fault() of " + text, x.fault(), 0);
        Check.due("the tape behind " + text, x.count(6), 0);
        return x;
    }

    /** "No FUND", and all that is so "at first". */
    private static void newObject() {
        MatchFund x = new MatchFund();
        for (int what = 0; what < 7; what++) {
            Check.due("count(" + what + ")", x.count(what), 0);
        }
        Check.due("fault()", x.fault(), 0);
        Check.due("status()", x.status(), 0);
        Check.due("undo()", x.undo(), STATE);
        Check.due("trace(0)", x.trace(0), NONE);
        for (int k = 0; k < 2; k++) {
            Check.due("image", x.image(k), STATE);
            Check.due("restore", x.restore(k), STATE);
        }
        Check.due("kind(0)", x.kind(0), BAD);
        Check.due("stand(0)", x.stand(0), STATE);
        Check.due("root(4) needs no fund", x.root(4), 200);
        Check.due("feed", x.feed('m'), 1);
    }

    /** "THE TAPE has at most 130 bytes"; "FULL". */
    private static void tapeOf130() {
        MatchFund x = new MatchFund();
        for (int i = 0; i < 129; i++) {
            Check.due("byte " + i, x.feed(LONGEST.charAt(i)), i + 1);
        }
        Check.due("129 bytes", x.count(6), 129);
        Check.due("the 130th", x.feed(LONGEST.charAt(129)), 130);
        Check.due("the 131st", x.feed('x'), FULL);
        Check.due("the 131st again", x.feed(';'), FULL);
        Check.due("BAD ahead of FULL", x.feed(256), BAD);
        Check.due("BAD ahead of FULL", x.feed(-1), BAD);
        Check.due("130 bytes", x.count(6), 130);
        Check.due("what was refused is not on it", x.fund(), 1);
        Check.due("17 gifts", x.count(2), 17);
        Check.due("53 coins", x.count(4), 53);
        Check.due("empty then", x.count(6), 0);
        Check.due("the first anew", x.feed('m'), 1);
        Check.due("end of one byte", x.fund(), -1000101);
        Check.due("empty after a fault, too", x.feed('m'), 1);
    }

    private static void faultAtTheEndOfAFullTape() {
        String longer = "m0,10;" + LONGEST.substring(5);
        fault(longer.substring(0, 130), 130, 1);
        fault(LONGEST.substring(0, 129), 129, 1);
        fault(LONGEST.substring(0, 129) + ",", 129, 1);
        fault(LONGEST.substring(0, 127) + "00;", 127, 2);
        fault("x".repeat(130), 0, 1);
        fault("m" + "0".repeat(129), 1, 1);
    }

    /** feed: "A byte (0 to 255)": 0 and 255 come on the tape, and can stand nowhere. */
    private static void bytesOfTheTape() {
        MatchFund x = new MatchFund();
        int n = 0;
        for (int letter = 0; letter < 256 && n < 130; letter += 2) {
            n++;
            Check.due("feed(" + letter + ")", x.feed(letter), n);
        }
        for (int letter : new int[] {-1, 256, -256, 511, 65536 + 'm', Integer.MIN_VALUE, Integer.MAX_VALUE}) {
            Check.due("feed(" + letter + ")", x.feed(letter), BAD);
        }
        MatchFund high = new MatchFund();
        Check.due("feed(255)", high.feed(255), 1);
        Check.due("feed(254)", high.feed(254), 2);
        Check.due("fund()", high.fund(), -1000100);
        Check.due("fault()", high.fault(), 1);
    }

    /** Where a letter or a sign stands in a text, every other byte but a figure has fault 1 at that place. */
    private static void signsAndLetters() {
        String kinds = "oshfc";
        for (int place = 0; place < SHORT.length(); place++) {
            char due = SHORT.charAt(place);
            if (due >= '0' && due <= '9') {
                continue;
            }
            for (char c = 0; c < 256; c++) {
                boolean figure = c >= '0' && c <= '9';
                boolean kind = kinds.indexOf(c) >= 0;
                String text = SHORT.substring(0, place) + c + SHORT.substring(place + 1);
                if (c == due || place == 5 && kind) {
                    fine(text, 1);
                } else if (place == 7 && kind) {
                    fault(text, 8, 1);
                } else if (!figure) {
                    fault(text, place, 1);
                }
            }
        }
    }

    /** Where a figure stands, a byte that is none has fault 1, a figure that is not as told fault 2. */
    private static void figures() {
        int[][] places = {{1, 0, 9}, {3, 1, 9}, {8, 0, 9}, {10, 0, 0}, {12, 1, 9}};
        for (int[] p : places) {
            for (char c = 0; c < 256; c++) {
                String text = SHORT.substring(0, p[0]) + c + SHORT.substring(p[0] + 1);
                int figure = c - '0';
                if (figure < 0 || figure > 9) {
                    fault(text, p[0], 1);
                } else if (figure < p[1] || figure > p[2]) {
                    fault(text, p[0], 2);
                } else {
                    fine(text, 1);
                }
            }
        }
    }

    /** "NUMBERS (figures, 2 at most)"; "a run of three figures, at its first". */
    private static void runsOfFigures() {
        fine("m00,01;f;g00,00,01;", 1);
        fine("m09,09;f;g09,00,09;", 1);
        for (int more = 3; more < 12; more++) {
            String run = "0".repeat(more - 1) + "1";
            fault("m" + run + ",1;f;g0,0,1;", 1, 1);
            fault("m0," + run + ";f;g0,0,1;", 3, 1);
            fault("m0,1;f;g" + run + ",0,1;", 8, 1);
            fault("m0,1;f;g0," + run + ",1;", 10, 1);
            fault("m0,1;f;g0,0," + run + ";", 12, 1);
            fault(run, 0, 1);
            fault("m0,1;" + run, 5, 1);
            fault("m0,1;f;" + run, 7, 1);
            fault("m0,1;f" + run, 6, 1);
            fault("m" + run, 1, 1);
        }
        // a figure in place of a sign joins those beside it
        fault("m001;f;", 1, 1);
        fault("m01;f;", 3, 1);
        fault("m0,12f;", 5, 1);
        fault("m0,1;f;g000,1;", 8, 1);
        // letters are each by itself, numbers are not
        fault("mm0,1;f;", 1, 1);
        fault("m0,1;ff;", 6, 1);
        fault("m0,1;f;gg0,0,1;", 8, 1);
        fault("m1 2,1;f;", 2, 1);
    }

    /** "the end: how many bytes there are": every beginning of a text that is not whole ends with fault 1. */
    private static void everyBeginning() {
        String text = "m12,34;o;s;g0,1,20;g9,0,9;";
        for (int n = 0; n <= text.length(); n++) {
            String part = text.substring(0, n);
            if (n == 9 || n == 11 || n == 19 || n == 26) {
                fine(part, n == 9 ? 1 : 2);
            } else {
                fault(part, n, 1);
            }
        }
    }

    /** "law: m POT , EASE ; (0 to 99: ten coins each; 1 to 99)" */
    private static void lawAtItsBounds() {
        int[] pots = {0, 1, 9, 10, 98, 99};
        for (int pot : pots) {
            MatchFund x = fine("m" + pot + ",1;f;", 1);
            Check.due("POT of m" + pot, x.count(3), 10 * pot);
            Check.due("POT of m" + pot, x.stand(0), 10 * pot);
        }
        fault("m100,1;f;", 1, 1);
        fault("m0,0;f;", 3, 2);
        fault("m0,00;f;", 3, 2);
        fault("m0,100;f;", 3, 1);
        fault("m99,00;f;", 4, 2);
        // 2 * 300 * 300 * EASE by 10,000 times (EASE and 9): 18 * EASE / (EASE + 9)
        int[][] terms = {{1, 1}, {2, 3}, {9, 9}, {98, 16}, {99, 16}};
        for (int[] t : terms) {
            Check.due("EASE " + t[0], fine("m0," + t[0] + ";o;g0,0,9;g1,0,9;", 1).term(0, 1, 0), t[1]);
        }
        Check.due("EASE 01", fine("m0,01;o;g0,0,9;g1,0,9;", 1).term(0, 1, 0), 1);
    }

    /** "project: SORT ;"; "PROJECTS 0 .. 5, 6 at most"; fault 3 at the letter of one more. */
    private static void projectsAtTheirBounds() {
        String kinds = "oshfc";
        for (int k = 0; k < 5; k++) {
            char letter = kinds.charAt(k);
            Check.due("kind of " + letter, fine("m0,1;" + letter + ";", 1).kind(0), k + 1);
            MatchFund six = fine("m0,1;f;f;f;f;f;" + letter + ";", 6);
            Check.due("kind of the sixth", six.kind(5), k + 1);
            Check.due("there is no seventh", six.kind(6), BAD);
            fault("m0,1;f;f;f;f;f;f;" + letter + ";", 17, 3);
            fault("m0,1;f;f;f;f;f;f;" + letter, 17, 3);
            fault("m0,1;f;f;f;f;f;f;" + letter + "x", 17, 3);
        }
        fault("m0,1;", 5, 1);
        fault("m0,1;g0,0,1;", 5, 1);
        fault("m0,1;m0,1;f;", 5, 1);
        fault("m0,1;;f;", 5, 1);
        fault("m0,1;f;f;f;f;f;f;m", 17, 1);
        fault("m0,1;f;f;f;f;f;f", 16, 1);
        fault("m0,1;f;f;f;f;f;f;;", 17, 1);
        fault("m0,1;f;f;f;f;f;f;x;", 17, 1);
        // one project more, further down, cannot stand there
        fault("m0,1;f;g0,0,1;f;", 14, 1);
        fine("m0,1;f;f;f;f;f;f;g0,5,1;", 6);
    }

    /** "gift: g GIVER , PROJECT , COINS ; (0 to 9; a PROJECT; 1 to 99)"; 20 of them are more than the tape holds. */
    private static void giftsAtTheirBounds() {
        for (int giver = 0; giver < 10; giver++) {
            Check.due("giver", fine("m0,1;f;g" + giver + ",0,1;", 1).gift(0, 0), giver);
        }
        fault("m0,1;f;g10,0,1;", 8, 2);
        fault("m0,1;f;g99,0,1;", 8, 2);
        String text = "m0,1;";
        for (int projects = 1; projects <= 6; projects++) {
            text += "f;";
            int last = projects - 1;
            Check.due("the last project", fine(text + "g0," + last + ",1;", projects).gift(0, 1), last);
            Check.due("by two figures", fine(text + "g0,0" + last + ",1;", projects).gift(0, 1), last);
            fault(text + "g0," + projects + ",1;", text.length() + 3, 2);
            fault(text + "g0,99,1;", text.length() + 3, 2);
        }
        int[] coins = {1, 9, 10, 99};
        for (int c : coins) {
            Check.due("coins", fine("m0,1;f;g0,0," + c + ";", 1).gift(0, 2), c);
        }
        fault("m0,1;f;g0,0,0;", 12, 2);
        fault("m0,1;f;g0,0,00;", 12, 2);
        fault("m0,1;f;g0,0,100;", 12, 1);
        fault("m0,1;f;g9,0,99;g9,0,0;", 20, 2);
        MatchFund most = fine("m0,1;f;" + "g9,0,1;".repeat(17), 1);
        Check.due("17 gifts", most.count(2), 17);
        Check.due("the last of them", most.gift(16, 0), 9);
        Check.due("no further one", most.gift(17, 0), BAD);
        Check.due("no gift at all", fine("m0,1;f;", 1).count(2), 0);
    }

    /** "the first TOKEN that has one, of one TOKEN the least" */
    private static void theLeastFault() {
        // a number of three figures is none (1) and not as told (2)
        fault("m0,1;f;g100,0,1;", 8, 1);
        // a number that is not as told where none can stand
        fault("m0,1;00;", 5, 1);
        fault("m0,1;f;00;", 7, 1);
        // the first of two
        fault("m0,0;x", 3, 2);
        fault("m0,0;f;f;f;f;f;f;f;", 3, 2);
        fault("m0,1;f;f;f;f;f;f;f;g10", 17, 3);
        fault("m0,1;f;g10,9,0;", 8, 2);
        fault("m0,1;f;g0,9,0;", 10, 2);
    }

    /** fault: "The number of the latest FAULT; 0 before one." */
    private static void latestFault() {
        MatchFund x = new MatchFund();
        Check.due("before one", x.fault(), 0);
        read(x, SHORT);
        Check.due("a text without one", x.fault(), 0);
        read(x, "m0,0;");
        Check.due("2", x.fault(), 2);
        read(x, SHORT);
        Check.due("2 yet", x.fault(), 2);
        read(x, "m0,1;f;f;f;f;f;f;f;");
        Check.due("3", x.fault(), 3);
        x.feed(256);
        x.give(0, 9, 1);
        Check.due("what is refused is no fault", x.fault(), 3);
        Check.due("the empty tape", x.fund(), -1000100);
        Check.due("1", x.fault(), 1);
    }

    /** "-1000100 less the place of a FAULT: all stays", however far the text was read. */
    private static void allStays() {
        String[] texts = {"", "m9", "m9,9;", "m9,9;s;s;s;g1,2,", "m9,9;f;g1,0,9;g2,0,9;g3,0,0;", "m0,1;f;f;f;f;f;f;f;"};
        for (String text : texts) {
            MatchFund x = marked();
            read(x, text);
            MatchFund twin = marked();
            String got = Reading.of(x).replaceFirst("fault \\d", "");
            String due = Reading.of(twin).replaceFirst("fault \\d", "");
            Check.due("after " + text + ": " + got + " due " + due, got.equals(due) ? 1 : 0, 1);
            Check.due("an act is undone after " + text, x.undo(), 2);
            Check.due("an image after " + text, x.restore(0), 1);
            Check.due("its gifts after " + text, x.count(2), 3);
        }
    }

    private static MatchFund marked() {
        MatchFund x = Check.told("m5,3;o;c;g0,0,4;g1,0,9;g2,1,16;");
        x.image(0);
        x.give(4, 1, 7);
        x.one(0, 3);
        x.pot(33);
        x.ask(0, 0);
        x.row(2, 1, 3);
        x.set(2, 3, 0);
        return x;
    }

    /** "A FUND that is read stands in place of the one before: each GIVER is one of its own; no ACT can be undone." */
    private static void inPlaceOfTheOneBefore() {
        MatchFund x = marked();
        x.become(0, 3);
        Check.due("fund()", read(x, "m99,9;s;"), 1);
        for (int giver = 0; giver < 10; giver++) {
            Check.due("nameOf", x.nameOf(giver), giver);
        }
        Check.due("acts", x.count(5), 0);
        Check.due("undo()", x.undo(), STATE);
        Check.due("gifts", x.count(2), 0);
        Check.due("coins", x.count(4), 0);
        Check.due("pot", x.count(3), 990);
        Check.due("projects", x.count(1), 1);
        Check.due("kind(0)", x.kind(0), 2);
        Check.due("kind(1)", x.kind(1), BAD);
        Check.due("rows stay", x.count(0), 1);
        Check.due("the trace stays", x.trace(0), 11);
        Check.due("status stays", x.status(), 2);
        x.give(3, 0, 5);
        Check.due("one act", x.undo(), 0);
        Check.due("no act of the fund before", x.undo(), STATE);
        // ten names found to be one, then read anew
        for (int giver = 0; giver < 9; giver++) {
            x.one(giver, 9);
        }
        read(x, "m1,1;f;g0,0,1;");
        for (int giver = 0; giver < 10; giver++) {
            Check.due("nameOf", x.nameOf(giver), giver);
        }
        Check.due("in its own name", x.sum(0, 0), 1);
    }
}
