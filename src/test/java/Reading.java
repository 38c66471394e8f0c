import java.util.StringJoiner;

/** All that calls tell of an object, as one text, so that two objects can be held against one another. */
final class Reading {
    /** Behind the bytes "m0,1;" on the tape: a flat project that claims 99, by which who() tells an item below 100. */
    private static final String READER = "f;g0,0,99;";

    private Reading() {
    }

    /** What can be read without a change; status() first, as nothing here may touch it. */
    static String of(MatchFund x) {
        StringJoiner all = new StringJoiner(" ");
        all.add("status " + x.status()).add("fault " + x.fault()).add("counts");
        for (int what = 0; what < 7; what++) {
            all.add("" + x.count(what));
        }
        all.add("stand");
        for (int what = 0; what < 4; what++) {
            all.add("" + x.stand(what));
        }
        all.add("projects");
        for (int p = 0; p < x.count(1); p++) {
            all.add(x.kind(p) + ":" + x.project(p, 0) + ":" + x.project(p, 1) + ":" + x.project(p, 2));
        }
        all.add("gifts");
        for (int g = 0; g < x.count(2); g++) {
            all.add(x.gift(g, 0) + ":" + x.gift(g, 1) + ":" + x.gift(g, 2));
        }
        all.add("names " + names(x)).add("trace");
        for (int i = 0; i < 8; i++) {
            all.add("" + x.trace(i));
        }
        return all.toString();
    }

    /** The same, then what lies beneath: acts, images, tape and rows. The object is spent by it. */
    static String whole(MatchFund x) {
        StringJoiner all = new StringJoiner(" ");
        all.add(of(x)).add("acts");
        for (int acts = x.count(5); acts > 0; acts--) {
            all.add(x.undo() + ":" + x.count(4));
        }
        all.add("before them").add(brief(x));
        for (int k = 0; k < 2; k++) {
            all.add("image " + x.restore(k)).add(brief(x));
        }
        Check.feedAll(x, READER);
        all.add("tape " + x.fund()).add("rows");
        for (int row = 0; row < 8; row++) {
            for (int i = 0; i < 4; i++) {
                all.add("" + x.who(0, 1, row, i));
            }
        }
        return all.toString();
    }

    private static String brief(MatchFund x) {
        StringJoiner all = new StringJoiner(" ");
        for (int what = 2; what < 5; what++) {
            all.add("" + x.count(what));
        }
        for (int p = 0; p < x.count(1); p++) {
            all.add(x.kind(p) + ":" + x.project(p, 0));
        }
        return all.add(names(x)).toString();
    }

    private static String names(MatchFund x) {
        StringJoiner all = new StringJoiner(":");
        for (int giver = 0; giver < 10; giver++) {
            all.add("" + x.nameOf(giver));
        }
        return all.toString();
    }
}
