import java.util.EnumSet;
import java.util.Set;
import java.util.StringJoiner;

/**
 * What a call that is not refused leaves as it is. Each call is made on an object that holds something of
 * everything; then each part of the object is read, on objects of their own, as most readings spend what they
 * read. The parts that are others than before have to be exactly those that the call's promise tells of.
 */
public final class LeavesTest {
    private enum Part { STATUS, FAULT, TAPE, ROWS, TRACE, POT, EASE, KINDS, GIFTS, NAMES, ACTS, WORTH, IMAGE_0, IMAGE_1 }

    private interface Call {
        long on(MatchFund x);
    }

    private LeavesTest() {
    }

    public static void main(String[] args) {
        rows();
        told();
        done();
        undone();
        comesTo();
        foretold();
        images();
        asked();
        Check.end("LeavesTest");
    }

    /** Rows, a fault, bytes on the tape, gifts, names, five acts, two images, a trace and a status of 1. */
    private static MatchFund standing() {
        MatchFund x = Check.told("m5,3;o;s;h;f;c;o;g0,0,4;g1,0,9;g2,1,16;g3,4,30;g9,2,5;");
        x.pot(21);
        x.image(0);
        x.become(5, 3);
        x.image(1);
        x.one(9, 8);
        x.give(9, 3, 7);
        x.become(4, 4);
        x.ask(1, 0);
        Check.feedAll(x, "m0,0;");
        x.fund();
        x.row(0, 2, 8);
        x.set(0, 0, 7);
        x.set(0, 2, 9);
        x.row(1, 1, 2);
        x.set(1, 1, 8);
        Check.feedAll(x, "m0,1;");
        x.set(5, 0, 0);
        return x;
    }

    private static void changes(String name, Call call, Part... told) {
        Set<Part> changed = EnumSet.noneOf(Part.class);
        for (Part part : Part.values()) {
            MatchFund x = standing();
            long got = call.on(x);
            Check.due(name + " is not refused", got <= MatchFund.BAD && got >= MatchFund.FULL ? got : 0, 0);
            if (!read(part, x).equals(read(part, standing()))) {
                changed.add(part);
            }
        }
        Set<Part> due = EnumSet.noneOf(Part.class);
        due.addAll(Set.of(told));
        Check.due(name + " changes " + changed + " where it should change " + due, changed.equals(due) ? 1 : 0, 1);
    }

    private static String read(Part part, MatchFund x) {
        return switch (part) {
            case STATUS -> "" + x.status();
            case FAULT -> "" + x.fault();
            case TAPE -> x.count(6) + " " + Check.feedAll(x, "f;g0,0,99;") + " " + x.fund();
            case ROWS -> rowsOf(x);
            case TRACE -> answers(17, x::trace);
            case POT -> "" + x.count(3);
            case EASE -> easeOf(x);
            case KINDS -> answers(7, x::kind);
            case GIFTS -> answers(21, g -> x.gift(g, 0)) + answers(21, g -> x.gift(g, 1)) + answers(21, g -> x.gift(g, 2));
            case NAMES -> answers(10, x::nameOf);
            case ACTS -> actsOf(x);
            case WORTH -> answers(6, p -> x.project(p, 0)) + answers(6, p -> x.project(p, 1)) + answers(4, x::stand);
            case IMAGE_0 -> imageOf(x, 0);
            case IMAGE_1 -> imageOf(x, 1);
        };
    }

    private interface Ask {
        int of(int i);
    }

    private static String answers(int n, Ask ask) {
        StringJoiner all = new StringJoiner(",", "[", "]");
        for (int i = 0; i < n; i++) {
            all.add("" + ask.of(i));
        }
        return all.toString();
    }

    private static String fundOf(MatchFund x) {
        return read(Part.POT, x) + read(Part.KINDS, x) + read(Part.GIFTS, x) + read(Part.NAMES, x) + read(Part.WORTH, x);
    }

    /** A flat project that claims 99: the least pot by which an item is paid is that item. */
    private static String rowsOf(MatchFund x) {
        String there = "" + x.count(0);
        x.fund();
        Check.feedAll(x, "m0,1;f;g0,0,99;");
        x.fund();
        StringJoiner all = new StringJoiner(" ");
        for (int row = 0; row < 8; row++) {
            int at = row;
            all.add(answers(41, i -> x.who(0, 1, at, i)));
            all.add("" + x.set(row, 0, 70000));
        }
        return there + all;
    }

    /** The term of two givers of whom nothing else is known; loops are bounded, as the class may be wrong. */
    private static String easeOf(MatchFund x) {
        for (int g = x.count(2); g > 0; g--) {
            x.back(0);
        }
        int a = ownNameFrom(x, 0);
        int b = ownNameFrom(x, a + 1);
        x.give(a, 0, 99);
        x.give(b, 0, 99);
        return "" + x.term(a, b, 0);
    }

    private static int ownNameFrom(MatchFund x, int from) {
        for (int giver = from; giver < 10; giver++) {
            if (x.nameOf(giver) == giver) {
                return giver;
            }
        }
        return 10;
    }

    private static String actsOf(MatchFund x) {
        StringJoiner all = new StringJoiner(" ");
        all.add("" + x.count(5));
        for (int act = 0; act < 25; act++) {
            all.add("" + x.undo()).add(fundOf(x));
        }
        return all.toString();
    }

    private static String imageOf(MatchFund x, int k) {
        return x.restore(k) + fundOf(x) + easeOf(x);
    }

    private static void rows() {
        changes("row, a new one", x -> x.row(6, 0, 3), Part.ROWS, Part.STATUS);
        changes("row, in place of one", x -> x.row(0, 2, 8), Part.ROWS, Part.STATUS);
        changes("row, found", x -> x.row(0, 2, -1), Part.STATUS);
        changes("set", x -> x.set(0, 1, 3), Part.ROWS, Part.STATUS);
        changes("set, what it is", x -> x.set(0, 0, 7), Part.STATUS);
        changes("copy", x -> x.copy(0, 0, 0, 1, 3), Part.ROWS, Part.STATUS);
        changes("copy of none", x -> x.copy(0, 8, 0, 8, 0), Part.STATUS);
        changes("drop", x -> x.drop(1), Part.ROWS, Part.STATUS);
    }

    private static void told() {
        changes("feed", x -> x.feed(';'), Part.TAPE);
        changes("fund, a fault", MatchFund::fund, Part.TAPE, Part.FAULT);
        changes("fund", x -> Check.feedAll(x, "h;g7,0,3;") + x.fund(), Part.TAPE, Part.POT, Part.EASE, Part.KINDS,
            Part.GIFTS, Part.NAMES, Part.ACTS, Part.WORTH);
        changes("fault", MatchFund::fault);
    }

    private static void done() {
        changes("give", x -> x.give(1, 3, 8), Part.GIFTS, Part.ACTS, Part.WORTH);
        changes("give, in another's name", x -> x.give(9, 3, 8), Part.GIFTS, Part.ACTS, Part.WORTH);
        changes("back", x -> x.back(3), Part.GIFTS, Part.ACTS, Part.WORTH);
        changes("pot", x -> x.pot(13), Part.POT, Part.ACTS, Part.WORTH);
        changes("pot, the same", x -> x.pot(21), Part.ACTS);
        changes("become", x -> x.become(0, 4), Part.KINDS, Part.ACTS, Part.WORTH);
        changes("one", x -> x.one(0, 1), Part.NAMES, Part.ACTS, Part.WORTH);
        changes("gift", x -> x.gift(0, 0));
        changes("nameOf", x -> x.nameOf(9));
    }

    /** An act that is undone leaves nothing behind it. */
    private static void undone() {
        changes("undo", MatchFund::undo, Part.KINDS, Part.ACTS, Part.WORTH);
        changes("give, undo", x -> x.give(9, 3, 8) + x.undo());
        changes("pot, undo", x -> x.pot(13) + x.undo());
        changes("become, undo", x -> x.become(0, 4) + x.undo());
        changes("one, undo", x -> x.one(0, 1) + x.undo());
        changes("one of several in a name, undo", x -> x.one(9, 3) + x.undo());
        changes("one with several in a name, undo", x -> x.one(3, 9) + x.undo());
        for (int g = 0; g < standing().count(2); g++) {
            int gift = g;
            changes("back of " + gift + ", undo", x -> x.back(gift) + x.undo());
        }
    }

    private static void comesTo() {
        changes("root", x -> x.root(1980));
        changes("sum", x -> x.sum(0, 0));
        changes("overlap", x -> x.overlap(0, 1));
        changes("term", x -> x.term(0, 1, 0));
        for (int w = 0; w < 4; w++) {
            int what = w;
            changes("project", x -> x.project(0, what % 3));
            changes("stand", x -> x.stand(what));
        }
    }

    private static void foretold() {
        changes("paidIf", x -> x.paidIf(9, 0, 99, 0));
        changes("least", x -> x.least(9, 0, 50));
        changes("least, none", x -> x.least(9, 0, 9999));
        changes("byTurns", x -> x.byTurns(0, 9, 4, 20));
        for (int w = 0; w < 3; w++) {
            int what = w;
            changes("best", x -> x.best(9, 20, what % 2));
            changes("missed", x -> x.missed(0, what % 2));
            changes("ring", x -> x.ring(what));
            changes("halves", x -> x.halves(9, 40, 0, 1, what % 2));
            changes("sets", x -> x.sets(7, what));
            changes("likely", x -> x.likely(0, 1, 5, what % 2));
            changes("drawn", x -> x.drawn(60, 77, what % 2));
        }
        for (int w = 0; w < 5; w++) {
            int which = w;
            changes("who", x -> x.who(2, which, 0, 1), Part.STATUS);
            changes("who, found", x -> x.who(2, which, 0, 3), Part.STATUS);
        }
    }

    private static void images() {
        changes("image 0", x -> x.image(0), Part.IMAGE_0);
        changes("image 1", x -> x.image(1), Part.IMAGE_1);
        changes("restore 0", x -> x.restore(0), Part.KINDS, Part.GIFTS, Part.NAMES, Part.ACTS, Part.WORTH);
        changes("restore 1", x -> x.restore(1), Part.KINDS, Part.GIFTS, Part.NAMES, Part.ACTS, Part.WORTH);
        changes("image, restore", x -> x.image(0) + x.restore(0), Part.IMAGE_0, Part.ACTS);
    }

    private static void asked() {
        changes("kind", x -> x.kind(0));
        changes("as", x -> x.as(4, 0), Part.STATUS);
        changes("as, found", x -> x.as(4, 5), Part.STATUS);
        changes("ask", x -> x.ask(1, 1), Part.TRACE);
        changes("ask, the same", x -> x.ask(1, 0));
        changes("trace", x -> x.trace(0));
        changes("count", x -> x.count(5));
        changes("status", MatchFund::status);
    }
}
