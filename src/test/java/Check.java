/** What the tests of the project share: answers held against what is due, and texts fed whole. */
final class Check {
    private static int held;
    private static int wrong;

    private Check() {
    }

    static void due(String call, long got, long want) {
        held++;
        if (got != want) {
            wrong++;
            System.out.println(call + " answered " + got + ", due is " + want);
        }
    }

    static int feedAll(MatchFund fund, String text) {
        int last = 0;
        for (int i = 0; i < text.length(); i++) {
            last = fund.feed(text.charAt(i));
        }
        return last;
    }

    static MatchFund told(String text) {
        MatchFund fund = new MatchFund();
        feedAll(fund, text);
        if (fund.fund() < 0) {
            due("fund() of " + text, 0, 1);
        }
        return fund;
    }

    static void end(String name) {
        System.out.println(name + ": " + held + " answers, " + wrong + " wrong");
        if (wrong != 0 || held == 0) {
            System.exit(1);
        }
    }
}
