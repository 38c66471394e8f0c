/** Promises 2 to 5 and 41: rows and their findings. */
public final class RowsTest {
    private static final int NULL = -1000011, PLACE = -1000012, SIZE = -1000014, STORE = -1000015;
    /** One flat project that claims 1089: least pot by which it is paid v is v, so who() reads an item. */
    private static final String READER = "m0,1;f;" + "g0,0,99;".repeat(11);

    private RowsTest() {
    }

    public static void main(String[] args) {
        makes();
        sets();
        copies();
        drops();
        tellsStatus();
        Check.end("RowsTest");
    }

    private static int item(MatchFund x, int row, int i) {
        return x.who(0, 1, row, i);
    }

    private static void makes() {
        MatchFund x = Check.told(READER);
        Check.due("row(0, 0, 3)", x.row(0, 0, 3), 3);
        Check.due("row(7, 2, 40)", x.row(7, 2, 40), 40);
        Check.due("row(1, 1, 0)", x.row(1, 1, 0), 0);
        Check.due("count(0)", x.count(0), 3);
        Check.due("row(8, 0, 1)", x.row(8, 0, 1), MatchFund.BAD);
        Check.due("row(-1, 0, 1)", x.row(-1, 0, 1), MatchFund.BAD);
        Check.due("row(0, 3, 1)", x.row(0, 3, 1), MatchFund.BAD);
        Check.due("row(0, -1, 1)", x.row(0, -1, 1), MatchFund.BAD);
        Check.due("row(0, 0, 41)", x.row(0, 0, 41), MatchFund.BAD);
        Check.due("row(8, 0, -1): BAD ahead of SIZE", x.row(8, 0, -1), MatchFund.BAD);
        Check.due("row(0, 0, -1)", x.row(0, 0, -1), SIZE);
        Check.due("row(0, 0, least int)", x.row(0, 0, Integer.MIN_VALUE), SIZE);
        Check.due("what is found changes nothing", x.set(0, 2, 5), 5);
        Check.due("row(0, 0, 3) anew", x.row(0, 0, 3), 3);
        Check.due("items are 0 at first", item(x, 0, 2), 0);
        Check.due("count(0)", x.count(0), 3);
    }

    private static void sets() {
        MatchFund x = Check.told(READER);
        x.row(0, 0, 2);
        x.row(1, 1, 2);
        x.row(2, 2, 2);
        Check.due("byte 127", x.set(0, 0, 127), 127);
        Check.due("byte 128", x.set(0, 0, 128), -128);
        Check.due("byte 256", x.set(0, 0, 256), 0);
        Check.due("byte -129", x.set(0, 0, -129), 127);
        Check.due("short 32768", x.set(1, 1, 32768), -32768);
        Check.due("short 65537", x.set(1, 1, 65537), 1);
        Check.due("int", x.set(2, 1, Integer.MIN_VALUE), Integer.MIN_VALUE);
        Check.due("set(0, 1, 300)", x.set(0, 1, 300), 44);
        Check.due("it is 44", item(x, 0, 1), 44);
        Check.due("set(0, 2, 1)", x.set(0, 2, 1), PLACE);
        Check.due("set(0, -1, 1)", x.set(0, -1, 1), PLACE);
        Check.due("set(3, 0, 1)", x.set(3, 0, 1), NULL);
        Check.due("set(3, -1, 1): NULL first", x.set(3, -1, 1), NULL);
        Check.due("set(8, 0, 1)", x.set(8, 0, 1), MatchFund.BAD);
        Check.due("set(-1, 0, 1)", x.set(-1, 0, 1), MatchFund.BAD);
        x.row(4, 0, 0);
        Check.due("a row of none has no place 0", x.set(4, 0, 1), PLACE);
    }

    private static void copies() {
        MatchFund x = Check.told(READER);
        x.row(0, 2, 5);
        x.row(1, 2, 3);
        x.row(2, 1, 3);
        for (int i = 0; i < 5; i++) {
            x.set(0, i, 10 + i);
        }
        Check.due("copy onto itself, forward", x.copy(0, 0, 0, 1, 4), 4);
        int[] forward = {10, 10, 11, 12, 13};
        for (int i = 0; i < 5; i++) {
            Check.due("forward " + i, item(x, 0, i), forward[i]);
        }
        Check.due("copy onto itself, backward", x.copy(0, 2, 0, 0, 3), 3);
        int[] backward = {11, 12, 13, 12, 13};
        for (int i = 0; i < 5; i++) {
            Check.due("backward " + i, item(x, 0, i), backward[i]);
        }
        Check.due("copy to another", x.copy(0, 1, 1, 1, 2), 2);
        Check.due("other 0", item(x, 1, 0), 0);
        Check.due("other 1", item(x, 1, 1), 12);
        Check.due("other 2", item(x, 1, 2), 13);
        Check.due("none, at the ends", x.copy(0, 5, 1, 3, 0), 0);
        Check.due("none, beyond an end", x.copy(0, 6, 1, 3, 0), PLACE);
        Check.due("beyond a's end", x.copy(0, 4, 1, 0, 2), PLACE);
        Check.due("beyond b's end", x.copy(0, 0, 1, 2, 2), PLACE);
        Check.due("i below 0", x.copy(0, -1, 1, 0, 1), PLACE);
        Check.due("j below 0", x.copy(0, 0, 1, -1, 1), PLACE);
        Check.due("n below 0", x.copy(0, 0, 1, 0, -1), PLACE);
        Check.due("sums that wrap", x.copy(0, Integer.MAX_VALUE, 1, 0, Integer.MAX_VALUE), PLACE);
        Check.due("two lanes", x.copy(0, 0, 2, 0, 1), STORE);
        Check.due("two lanes, no place", x.copy(0, -1, 2, 0, 1), STORE);
        Check.due("two lanes, none", x.copy(0, 0, 2, 0, 0), STORE);
        Check.due("b missing", x.copy(0, 0, 3, 0, 1), NULL);
        Check.due("a missing", x.copy(3, 9, 0, 0, 1), NULL);
        Check.due("no row a", x.copy(8, 0, 0, 0, 1), MatchFund.BAD);
        Check.due("no row b", x.copy(3, 0, -1, 0, 1), MatchFund.BAD);
        Check.due("nothing changed", item(x, 0, 0), 11);
    }

    private static void drops() {
        MatchFund x = new MatchFund();
        x.row(3, 1, 7);
        Check.due("drop(3)", x.drop(3), 7);
        Check.due("count(0)", x.count(0), 0);
        Check.due("drop(3) again", x.drop(3), NULL);
        Check.due("drop(8)", x.drop(8), MatchFund.BAD);
        Check.due("drop(-1)", x.drop(-1), MatchFund.BAD);
        Check.due("set of a dropped one", x.set(3, 0, 1), NULL);
    }

    private static void tellsStatus() {
        MatchFund x = new MatchFund();
        Check.due("status() of a new one", x.status(), 0);
        x.set(0, 0, 0);
        Check.due("NULL", x.status(), 1);
        x.row(0, 0, 1);
        Check.due("none", x.status(), 0);
        x.set(0, 1, 0);
        Check.due("PLACE", x.status(), 2);
        x.set(9, 1, 0);
        Check.due("BAD leaves it", x.status(), 2);
        x.who(0, 0, 0, 0);
        Check.due("STATE leaves it", x.status(), 2);
        x.row(0, 0, -3);
        Check.due("SIZE", x.status(), 4);
        x.row(1, 1, 1);
        x.copy(0, 0, 1, 0, 0);
        Check.due("STORE", x.status(), 5);
        Check.feedAll(x, "m0,1;f;");
        x.fund();
        Check.due("calls without a row leave it", x.status(), 5);
        x.who(0, 0, 0, 0);
        Check.due("who clears it", x.status(), 0);
        x.who(0, 0, 5, 0);
        Check.due("who finds NULL", x.status(), 1);
        x.as(0, 1);
        Check.due("as finds KIND", x.status(), 3);
        x.as(0, 6);
        x.as(1, 0);
        Check.due("BAD of as leaves it", x.status(), 3);
        x.as(0, 4);
        Check.due("as clears it", x.status(), 0);
        x.drop(5);
        Check.due("drop finds NULL", x.status(), 1);
        x.drop(0);
        Check.due("drop clears it", x.status(), 0);
    }
}
