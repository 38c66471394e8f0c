import java.util.ArrayList;
import java.util.List;
import java.util.Random;

/** Long runs of calls, drawn by fixed seeds, on the class and on PlainFund side by side. */
public final class ModelTest {
    private static final int RUNS = 1500;
    private static final int CALLS = 512;
    private static final String KINDS = "oshfc";
    private static final int[] WILD = {-1, -2, -1000, 1000, 256, Integer.MIN_VALUE, Integer.MAX_VALUE, 41, 99, 100};

    private final Random random;
    private final MatchFund fund = new MatchFund();
    private final PlainFund plain = new PlainFund();
    private final List<String> calls = new ArrayList<>();
    private final boolean crowded;
    private boolean wrong;

    private ModelTest(long seed) {
        random = new Random(seed);
        crowded = seed % 4 == 0;
    }

    public static void main(String[] args) {
        int runs = args.length > 1 ? Integer.parseInt(args[1]) : RUNS;
        int wrongRuns = 0;
        for (int run = 0; run < runs && wrongRuns < 5; run++) {
            ModelTest test = new ModelTest(run);
            while (!test.wrong && test.calls.size() < CALLS) {
                test.step();
            }
            if (test.wrong) {
                wrongRuns++;
                System.out.println("run " + run + ":\n  " + String.join("\n  ", test.calls));
            }
        }
        Check.due("runs that differ", wrongRuns, 0);
        Check.end("ModelTest");
    }

    private int below(int n) {
        return random.nextInt(n);
    }

    /** Mostly least to most, at times one beyond, at times wild. */
    private int near(int least, int most) {
        int draw = below(60);
        if (draw == 0) {
            return WILD[below(WILD.length)];
        }
        if (draw == 1) {
            return most + 1;
        }
        if (draw == 2) {
            return least - 1;
        }
        if (draw < 8) {
            return draw < 5 ? least : most;
        }
        return least + below(most - least + 1);
    }

    private int giver() {
        return near(0, crowded ? 9 : 4);
    }

    private int project() {
        return near(0, Math.max(0, plain.count(1) - 1));
    }

    private int gift() {
        return near(0, Math.max(0, plain.count(2) - 1));
    }

    private void same(String call, long got, long want) {
        calls.add(call + " = " + got);
        if (got != want) {
            wrong = true;
            calls.add("but PlainFund: " + want);
        }
    }

    private void step() {
        int draw = below(100);
        if (plain.count(1) == 0 && draw < 60 || draw < 2) {
            tell();
        } else if (draw < 14) {
            rowCall();
        } else if (draw < 46) {
            deed();
        } else if (draw < 62) {
            worth();
        } else if (draw < 82) {
            foretold();
        } else if (draw < 88) {
            guess();
        } else {
            asked();
        }
    }

    private void tell() {
        StringBuilder text = new StringBuilder("m").append(below(4) == 0 ? below(100) : below(12)).append(',')
            .append(1 + (below(2) == 0 ? below(99) : below(10))).append(';');
        int projects = 1 + below(6);
        for (int p = 0; p < projects; p++) {
            text.append(KINDS.charAt(below(5))).append(';');
        }
        int gifts = below(16);
        for (int g = 0; g < gifts; g++) {
            text.append('g').append(below(crowded ? 10 : 5)).append(',').append(below(projects)).append(',')
                .append(1 + (below(3) == 0 ? below(99) : below(20))).append(';');
        }
        if (below(3) == 0) {
            mar(text);
        }
        for (int i = 0; i < text.length() && !wrong; i++) {
            int c = text.charAt(i);
            same("feed(" + c + ")", fund.feed(c), plain.feed(c));
        }
        same("fund()", fund.fund(), plain.fund());
        same("fault()", fund.fault(), plain.fault());
        same("count(5)", fund.count(5), plain.count(5));
    }

    private void mar(StringBuilder text) {
        String signs = "mgoshfc,;0123456789x" + (char) 200 + ' ' + 'A';
        int at = below(text.length());
        char sign = signs.charAt(below(signs.length()));
        switch (below(5)) {
            case 0 -> text.setCharAt(at, sign);
            case 1 -> text.insert(at, sign);
            case 2 -> text.deleteCharAt(at);
            case 3 -> text.setLength(at);
            default -> text.insert(text.indexOf(";") + 1, "o;s;h;f;c;o;");
        }
    }

    private void rowCall() {
        int row = near(0, 2);
        int other = near(0, 2);
        int i = near(0, 8);
        int j = near(0, 8);
        int n = below(8) == 0 ? near(0, 40) : near(0, 10);
        int lane = near(0, below(3) == 0 ? 2 : 1);
        int v = below(2) == 0 ? near(-200, 200) : random.nextInt();
        switch (below(6)) {
            case 0 -> same("row(" + row + ", " + lane + ", " + n + ")", fund.row(row, lane, n), plain.row(row, lane, n));
            case 1, 2 -> same("set(" + row + ", " + i + ", " + v + ")", fund.set(row, i, v), plain.set(row, i, v));
            case 3, 4 -> same("copy(" + row + ", " + i + ", " + other + ", " + j + ", " + n + ")",
                fund.copy(row, i, other, j, n), plain.copy(row, i, other, j, n));
            default -> same("drop(" + row + ")", fund.drop(row), plain.drop(row));
        }
        same("status()", fund.status(), plain.status());
        readBack(row, i);
    }

    /** No call tells an item; who() at least tells whether it is what is paid. */
    private void readBack(int row, int i) {
        same("count(0)", fund.count(0), plain.count(0));
        if (row >= 0 && row < 8 && i >= 0) {
            same("who(0, 0, " + row + ", " + i + ")", fund.who(0, 0, row, i), plain.who(0, 0, row, i));
            same("status()", fund.status(), plain.status());
        }
    }

    private void deed() {
        int a = giver();
        int b = giver();
        int p = project();
        int g = gift();
        int coins = below(2) == 0 ? near(1, 99) : near(1, 12);
        int v = below(2) == 0 ? near(0, 999) : near(0, 120);
        int kind = near(1, 5);
        int k = near(0, 1);
        switch (below(20)) {
            case 0, 1, 2, 3, 4, 5, 6 -> same("give(" + a + ", " + p + ", " + coins + ")",
                fund.give(a, p, coins), plain.give(a, p, coins));
            case 7, 8, 9 -> same("back(" + g + ")", fund.back(g), plain.back(g));
            case 10, 11 -> same("pot(" + v + ")", fund.pot(v), plain.pot(v));
            case 12, 13 -> same("become(" + p + ", " + kind + ")", fund.become(p, kind), plain.become(p, kind));
            case 14 -> same("one(" + a + ", " + b + ")", fund.one(a, b), plain.one(a, b));
            case 15, 16 -> same("undo()", fund.undo(), plain.undo());
            case 17 -> undoMany();
            case 18 -> same("image(" + k + ")", fund.image(k), plain.image(k));
            default -> same("restore(" + k + ")", fund.restore(k), plain.restore(k));
        }
    }

    private void undoMany() {
        int many = below(30);
        for (int i = 0; i < many; i++) {
            same("undo()", fund.undo(), plain.undo());
        }
    }

    private void worth() {
        int a = giver();
        int b = giver();
        int p = project();
        int g = gift();
        int what = near(0, 3);
        int v = near(0, 1980);
        switch (below(9)) {
            case 0 -> same("gift(" + g + ", " + what + ")", fund.gift(g, what), plain.gift(g, what));
            case 1 -> same("nameOf(" + a + ")", fund.nameOf(a), plain.nameOf(a));
            case 2 -> same("root(" + v + ")", fund.root(v), plain.root(v));
            case 3 -> same("sum(" + a + ", " + p + ")", fund.sum(a, p), plain.sum(a, p));
            case 4 -> same("overlap(" + a + ", " + b + ")", fund.overlap(a, b), plain.overlap(a, b));
            case 5 -> same("term(" + a + ", " + b + ", " + p + ")", fund.term(a, b, p), plain.term(a, b, p));
            case 6, 7 -> same("project(" + p + ", " + what + ")", fund.project(p, what), plain.project(p, what));
            default -> same("stand(" + what + ")", fund.stand(what), plain.stand(what));
        }
    }

    private void foretold() {
        int a = giver();
        int b = giver();
        int p = project();
        int q = project();
        int what = near(0, 1);
        int v = near(0, 99);
        switch (below(11)) {
            case 0, 1 -> same("paidIf(" + a + ", " + p + ", " + v + ", " + q + ")",
                fund.paidIf(a, p, v, q), plain.paidIf(a, p, v, q));
            case 2 -> same("best(" + a + ", " + v + ", " + what + ")", fund.best(a, v, what), plain.best(a, v, what));
            case 3 -> {
                int goal = below(3) == 0 ? near(1, 9999) : near(1, 150);
                same("least(" + a + ", " + p + ", " + goal + ")", fund.least(a, p, goal), plain.least(a, p, goal));
            }
            case 4 -> same("missed(" + p + ", " + what + ")", fund.missed(p, what), plain.missed(p, what));
            case 5 -> {
                int which = near(0, 2);
                same("ring(" + which + ")", fund.ring(which), plain.ring(which));
            }
            case 6 -> {
                int n = near(1, 40);
                same("halves(" + a + ", " + n + ", " + p + ", " + q + ", " + what + ")",
                    fund.halves(a, n, p, q, what), plain.halves(a, n, p, q, what));
            }
            case 7 -> setsCall();
            case 8 -> {
                int n = near(0, 4);
                int coins = near(1, 20);
                same("byTurns(" + a + ", " + b + ", " + n + ", " + coins + ")",
                    fund.byTurns(a, b, n, coins), plain.byTurns(a, b, n, coins));
            }
            case 9 -> likelyCall(p, what);
            default -> {
                int n = near(0, 60);
                int seed = below(9) == 0 ? near(1, 999999) : 1 + below(999999);
                same("drawn(" + n + ", " + seed + ", " + what + ")", fund.drawn(n, seed, what), plain.drawn(n, seed, what));
            }
        }
    }

    private void setsCall() {
        int v = below(2) == 0 ? near(0, 999) : Math.max(0, plain.project(project(), 1));
        v = below(4) == 0 ? Math.max(0, plain.stand(2)) : v;
        int which = near(0, 2);
        same("sets(" + v + ", " + which + ")", fund.sets(v, which), plain.sets(v, which));
    }

    private void likelyCall(int p, int what) {
        int v = below(2) == 0 ? near(0, 9999) : near(0, 60);
        v = below(2) == 0 ? Math.max(0, plain.project(p, 1)) : v;
        int of = near(0, 10);
        same("likely(" + p + ", " + v + ", " + of + ", " + what + ")",
            fund.likely(p, v, of, what), plain.likely(p, v, of, what));
    }

    /** A row that tells what is paid, at times by another gift, at times one off. */
    private void guess() {
        int n = Math.max(1, plain.count(1));
        int row = near(0, 1);
        int from = near(0, 3);
        int lane = 1 + below(2);
        int a = giver();
        int p = project();
        int v = below(30);
        boolean off = below(4) == 0;
        same("row(" + row + ")", fund.row(row, lane, n + 3), plain.row(row, lane, n + 3));
        for (int q = 0; q < n; q++) {
            int paid = below(2) == 0 ? plain.project(q, 1) : plain.paidIf(a, p, v, q);
            paid += off && below(n) == 0 ? 1 : 0;
            same("set(" + (from + q) + ", " + paid + ")", fund.set(row, from + q, paid), plain.set(row, from + q, paid));
        }
        for (int which = 0; which < 5; which++) {
            int x = which == 2 ? project() : gift();
            same("who(" + x + ", " + which + ", " + row + ", " + from + ")",
                fund.who(x, which, row, from), plain.who(x, which, row, from));
        }
        same("status()", fund.status(), plain.status());
    }

    private void asked() {
        int p = project();
        int kind = near(0, 5);
        int what = near(0, 1);
        switch (below(4)) {
            case 0 -> same("kind(" + p + ")", fund.kind(p), plain.kind(p));
            case 1 -> same("as(" + p + ", " + kind + ")", fund.as(p, kind), plain.as(p, kind));
            case 2 -> {
                same("ask(" + p + ", " + what + ")", fund.ask(p, what), plain.ask(p, what));
                for (int i = -1; i < 8; i++) {
                    same("trace(" + i + ")", fund.trace(i), plain.trace(i));
                }
            }
            default -> {
                int which = near(0, 6);
                same("count(" + which + ")", fund.count(which), plain.count(which));
            }
        }
        same("status()", fund.status(), plain.status());
    }
}
