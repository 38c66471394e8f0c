import java.util.ArrayList;
import java.util.List;
import java.util.function.Supplier;

/**
 * Every call of the face against the refusals that its promise names: each number at both its ends and just
 * beyond them, several wrong ones at once, in a new object, in a fund and in a full one. Two objects are made
 * alike, one is refused all this, and then all that can be read of the two has to be the same.
 */
public final class RefusedTest {
    private static final int BAD = MatchFund.BAD, STATE = MatchFund.STATE, FULL = MatchFund.FULL;
    private static final int LEAST = Integer.MIN_VALUE, MOST = Integer.MAX_VALUE;
    private static final int NEVER = 99;
    private static final int GIFTS = 5;

    /** What a call needs before it can be anything but refused. */
    private enum Needs { NOTHING, THINGS, FUND_AHEAD, FUND_BEHIND }

    private interface Act {
        long on(MatchFund x, int[] a);
    }

    /** A number of a call: one that is fine, and from where to where it may go before it is BAD. */
    private record Arg(int fine, int least, int most) {
        List<Integer> wrong() {
            List<Integer> wrong = new ArrayList<>();
            if (least > LEAST) {
                wrong.addAll(List.of(least - 1, LEAST));
            }
            if (most < MOST) {
                wrong.addAll(List.of(most + 1, MOST));
            }
            return wrong;
        }
    }

    private record Call(String name, Needs needs, int fullBy, Act act, Arg... args) {
        int[] fine() {
            int[] a = new int[args.length];
            for (int i = 0; i < a.length; i++) {
                a[i] = args[i].fine;
            }
            return a;
        }

        int[] with(int i, int v) {
            int[] a = fine();
            a[i] = v;
            return a;
        }

        /** One wrong number, and each two wrong ones. */
        List<int[]> wrongs() {
            List<int[]> all = new ArrayList<>();
            for (int i = 0; i < args.length; i++) {
                for (int v : args[i].wrong()) {
                    all.add(with(i, v));
                    for (int j = i + 1; j < args.length; j++) {
                        for (int w : args[j].wrong().subList(0, Math.min(1, args[j].wrong().size()))) {
                            int[] two = with(i, v);
                            two[j] = w;
                            all.add(two);
                        }
                    }
                }
            }
            return all;
        }

        /** All fine, and each number at its ends. */
        List<int[]> rights() {
            List<int[]> all = new ArrayList<>(List.of(fine()));
            for (int i = 0; i < args.length; i++) {
                all.add(with(i, args[i].least));
                all.add(with(i, args[i].most));
            }
            return all;
        }

        String told(int[] a) {
            return name + java.util.Arrays.toString(a);
        }
    }

    private static final Arg FREE = new Arg(0, LEAST, MOST);
    private static final Arg ROW = new Arg(0, 0, 7);
    private static final Arg GIVER = new Arg(1, 0, 9);
    private static final Arg OTHER = new Arg(2, 0, 9);
    private static final Arg PROJECT = new Arg(3, 0, 5);
    private static final Arg GIFT = new Arg(2, 0, GIFTS - 1);
    private static final Arg TWO = new Arg(0, 0, 1);
    private static final Arg THREE = new Arg(0, 0, 2);

    private static final Call[] CALLS = {
        new Call("row", Needs.NOTHING, NEVER, (x, a) -> x.row(a[0], a[1], a[2]), ROW, THREE, new Arg(1, LEAST, 40)),
        new Call("set", Needs.NOTHING, NEVER, (x, a) -> x.set(a[0], a[1], a[2]), ROW, FREE, FREE),
        new Call("copy", Needs.NOTHING, NEVER, (x, a) -> x.copy(a[0], a[1], a[2], a[3], a[4]), ROW, FREE, ROW, FREE, FREE),
        new Call("drop", Needs.NOTHING, NEVER, (x, a) -> x.drop(a[0]), ROW),
        new Call("feed", Needs.NOTHING, NEVER, (x, a) -> x.feed(a[0]), new Arg(1, 0, 255)),
        new Call("give", Needs.THINGS, 20, (x, a) -> x.give(a[0], a[1], a[2]), GIVER, PROJECT, new Arg(7, 1, 99)),
        new Call("back", Needs.THINGS, NEVER, (x, a) -> x.back(a[0]), GIFT),
        new Call("pot", Needs.FUND_AHEAD, NEVER, (x, a) -> x.pot(a[0]), new Arg(7, 0, 999)),
        new Call("become", Needs.THINGS, NEVER, (x, a) -> x.become(a[0], a[1]), PROJECT, new Arg(2, 1, 5)),
        new Call("one", Needs.FUND_AHEAD, NEVER, (x, a) -> x.one(a[0], a[1]), GIVER, OTHER),
        new Call("gift", Needs.THINGS, NEVER, (x, a) -> x.gift(a[0], a[1]), GIFT, THREE),
        new Call("nameOf", Needs.FUND_AHEAD, NEVER, (x, a) -> x.nameOf(a[0]), GIVER),
        new Call("root", Needs.NOTHING, NEVER, (x, a) -> x.root(a[0]), new Arg(1, 0, 1980)),
        new Call("sum", Needs.THINGS, NEVER, (x, a) -> x.sum(a[0], a[1]), GIVER, PROJECT),
        new Call("overlap", Needs.FUND_AHEAD, NEVER, (x, a) -> x.overlap(a[0], a[1]), GIVER, OTHER),
        new Call("term", Needs.THINGS, NEVER, (x, a) -> x.term(a[0], a[1], a[2]), GIVER, OTHER, PROJECT),
        new Call("project", Needs.THINGS, NEVER, (x, a) -> x.project(a[0], a[1]), PROJECT, THREE),
        new Call("stand", Needs.FUND_AHEAD, NEVER, (x, a) -> x.stand(a[0]), new Arg(0, 0, 3)),
        new Call("paidIf", Needs.THINGS, 20, (x, a) -> x.paidIf(a[0], a[1], a[2], a[3]),
            GIVER, PROJECT, new Arg(7, 0, 99), PROJECT),
        new Call("best", Needs.FUND_AHEAD, 20, (x, a) -> x.best(a[0], a[1], a[2]), GIVER, new Arg(7, 1, 99), TWO),
        new Call("least", Needs.THINGS, 20, (x, a) -> x.least(a[0], a[1], a[2]), GIVER, PROJECT, new Arg(7, 1, 9999)),
        new Call("missed", Needs.THINGS, NEVER, (x, a) -> x.missed(a[0], a[1]), PROJECT, TWO),
        new Call("ring", Needs.FUND_AHEAD, NEVER, (x, a) -> x.ring(a[0]), THREE),
        new Call("halves", Needs.THINGS, 19, (x, a) -> x.halves(a[0], a[1], a[2], a[3], a[4]),
            GIVER, new Arg(7, 1, 40), PROJECT, PROJECT, TWO),
        new Call("sets", Needs.FUND_AHEAD, NEVER, (x, a) -> x.sets(a[0], a[1]), new Arg(7, 0, 999), THREE),
        new Call("byTurns", Needs.FUND_AHEAD, 17, (x, a) -> x.byTurns(a[0], a[1], a[2], a[3]),
            GIVER, OTHER, new Arg(2, 0, 4), new Arg(7, 1, 20)),
        new Call("who", Needs.FUND_AHEAD, NEVER, (x, a) -> x.who(2, a[0], a[1], a[2]), new Arg(0, 0, 4), ROW, FREE),
        new Call("who, pots", Needs.FUND_AHEAD, NEVER, (x, a) -> x.who(a[0], 0, a[1], a[2]), FREE, ROW, FREE),
        new Call("who, the least pot", Needs.FUND_AHEAD, NEVER, (x, a) -> x.who(a[0], 1, a[1], a[2]), FREE, ROW, FREE),
        new Call("who, kinds", Needs.FUND_AHEAD, NEVER, (x, a) -> x.who(a[0], 2, a[1], a[2]), PROJECT, ROW, FREE),
        new Call("who, coins", Needs.FUND_AHEAD, NEVER, (x, a) -> x.who(a[0], 3, a[1], a[2]), GIFT, ROW, FREE),
        new Call("who, the least coins", Needs.FUND_AHEAD, NEVER, (x, a) -> x.who(a[0], 4, a[1], a[2]), GIFT, ROW, FREE),
        new Call("likely", Needs.THINGS, NEVER, (x, a) -> x.likely(a[0], a[1], a[2], a[3]),
            PROJECT, new Arg(7, 0, 9999), new Arg(3, 0, 10), TWO),
        new Call("drawn", Needs.FUND_AHEAD, NEVER, (x, a) -> x.drawn(a[0], a[1], a[2]),
            new Arg(7, 0, 60), new Arg(7, 1, 999999), TWO),
        new Call("image", Needs.FUND_BEHIND, NEVER, (x, a) -> x.image(a[0]), TWO),
        new Call("restore", Needs.FUND_BEHIND, NEVER, (x, a) -> x.restore(a[0]), TWO),
        new Call("kind", Needs.THINGS, NEVER, (x, a) -> x.kind(a[0]), PROJECT),
        new Call("as", Needs.THINGS, NEVER, (x, a) -> x.as(a[0], a[1]), PROJECT, new Arg(4, 0, 5)),
        new Call("ask", Needs.THINGS, NEVER, (x, a) -> x.ask(a[0], a[1]), PROJECT, TWO),
        new Call("count", Needs.NOTHING, NEVER, (x, a) -> x.count(a[0]), new Arg(0, 0, 6)),
    };

    private RefusedTest() {
    }

    public static void main(String[] args) {
        for (Call call : CALLS) {
            atTheEnds(call);
            beyondThem(call);
            withoutFund(call);
            whenFull(call);
        }
        twoThatAreOne();
        statesThatAreTold();
        findings();
        Check.end("RefusedTest");
    }

    /** Rows, a fault, a status of 1 and the first bytes of a text, but no fund. */
    private static MatchFund bare() {
        MatchFund x = new MatchFund();
        x.feed('x');
        x.fund();
        x.row(0, 2, 3);
        x.set(0, 0, 7);
        x.set(0, 2, 9);
        x.row(1, 1, 2);
        x.set(1, 1, 8);
        Check.feedAll(x, "m0,1;");
        x.set(5, 0, 0);
        return x;
    }

    /** The same with a fund of five gifts, five acts, two images and a trace of six. */
    private static MatchFund standing() {
        MatchFund x = Check.told("m5,3;o;s;h;f;c;o;g0,0,4;g1,0,9;g2,1,16;g3,4,30;");
        x.pot(51);
        x.image(0);
        x.become(5, 3);
        x.image(1);
        x.give(4, 3, 7);
        x.one(9, 8);
        x.become(4, 4);
        x.ask(1, 0);
        x.feed('x');
        x.fund();
        x.row(0, 2, 8);
        x.set(0, 0, 7);
        x.set(0, 2, 9);
        x.row(1, 1, 2);
        x.set(1, 1, 8);
        Check.feedAll(x, "m0,1;");
        x.set(5, 0, 0);
        return x;
    }

    private static MatchFund filled(int gifts) {
        MatchFund x = standing();
        for (int g = GIFTS; g < gifts; g++) {
            x.give(g % 10, g % 6, 1 + g);
        }
        return x;
    }

    private static void due(Call call, MatchFund x, int[] a, int want) {
        Check.due(call.told(a), call.act.on(x, a), want);
    }

    private static void atTheEnds(Call call) {
        for (int[] a : call.rights()) {
            long got = call.act.on(standing(), a);
            Check.due(call.told(a) + " is not refused", got == BAD || got == STATE || got == FULL ? got : 0, 0);
        }
    }

    private static void beyondThem(Call call) {
        MatchFund x = standing();
        for (int[] a : call.wrongs()) {
            due(call, x, a, BAD);
        }
        untouched(call.name + ", refused", x, standing());
    }

    private static void withoutFund(Call call) {
        MatchFund x = bare();
        for (int[] a : call.wrongs()) {
            due(call, x, a, call.needs == Needs.FUND_AHEAD ? STATE : BAD);
        }
        if (call.needs != Needs.NOTHING) {
            for (int[] a : call.rights()) {
                due(call, x, a, call.needs == Needs.THINGS ? BAD : STATE);
            }
        }
        untouched(call.name + ", refused without a fund", x, bare());
    }

    private static void whenFull(Call call) {
        if (call.fullBy == NEVER) {
            return;
        }
        MatchFund x = filled(call.fullBy);
        for (int[] a : call.rights()) {
            boolean nothingMore = call.name.equals("paidIf") && a[2] == 0;
            if (!nothingMore) {
                due(call, x, a, FULL);
            }
        }
        for (int[] a : call.wrongs()) {
            due(call, x, a, BAD);
        }
        untouched(call.name + ", refused when full", x, filled(call.fullBy));
        long got = call.act.on(filled(call.fullBy - 1), call.fine());
        Check.due(call.name + ", one gift fewer, is not refused", got == FULL ? got : 0, 0);
    }

    /** Where the document says "a not b", or "a is b, too". */
    private static void twoThatAreOne() {
        MatchFund x = standing();
        for (int g = 0; g < 10; g++) {
            Check.due("one with itself", x.one(g, g), BAD);
            Check.due("overlap with itself", x.overlap(g, g), BAD);
            Check.due("term with itself", x.term(g, g, 0), BAD);
            Check.due("turns with itself", x.byTurns(g, g, 1, 1), BAD);
        }
        untouched("two that are one", x, standing());
    }

    private static void statesThatAreTold() {
        MatchFund x = standing();
        Check.due("become what it is", x.become(3, 4), STATE);
        Check.due("become what it is by an act", x.become(4, 4), STATE);
        Check.due("names that are the same", x.one(9, 8), STATE);
        Check.due("names that are the same, the other way", x.one(8, 9), STATE);
        untouched("states that are told", x, standing());
        MatchFund none = bare();
        Check.due("nothing to undo", none.undo(), STATE);
        untouched("nothing to undo", none, bare());
    }

    /** What is found changes nothing but status(), which tells its number. */
    private static void findings() {
        found("row(0, 0, -1)", 4, x -> x.row(0, 0, -1));
        found("row(6, 0, -1)", 4, x -> x.row(6, 0, LEAST));
        found("set(6, 0, 1)", 1, x -> x.set(6, 0, 1));
        found("set(0, 8, 1)", 2, x -> x.set(0, 8, 1));
        found("copy(0, 0, 6, 0, 1)", 1, x -> x.copy(0, 0, 6, 0, 1));
        found("copy(6, 0, 0, 0, 1)", 1, x -> x.copy(6, 0, 0, 0, 1));
        found("copy(0, 0, 1, 0, 1)", 5, x -> x.copy(0, 0, 1, 0, 1));
        found("copy(0, 0, 0, 2, 7)", 2, x -> x.copy(0, 0, 0, 2, 7));
        found("drop(6)", 1, x -> x.drop(6));
        found("who(0, 0, 6, 0)", 1, x -> x.who(0, 0, 6, 0));
        found("who(0, 0, 0, 3)", 2, x -> x.who(0, 0, 0, 3));
        found("as(0, 4)", 3, x -> x.as(0, 4));
    }

    private interface One {
        long on(MatchFund x);
    }

    private static void found(String call, int number, One one) {
        MatchFund x = standing();
        x.set(0, 0, 7);
        Check.due(call + ", before it status()", x.status(), 0);
        Check.due(call, one.on(x), -1000010 - number);
        Check.due(call + ", then status()", x.status(), number);
        MatchFund twin = standing();
        String status = "status \\d+";
        same(call, Reading.whole(x).replaceFirst(status, ""), () -> Reading.whole(twin).replaceFirst(status, ""));
    }

    private static void untouched(String call, MatchFund x, MatchFund twin) {
        same(call, Reading.whole(x), () -> Reading.whole(twin));
    }

    private static void same(String call, String got, Supplier<String> want) {
        String due = want.get();
        boolean same = got.equals(due);
        Check.due(call + " changes nothing" + (same ? "" : "\n  is  " + got + "\n  due " + due + "\n "), same ? 1 : 0, 1);
    }
}
