import java.math.BigInteger;
import java.util.ArrayList;
import java.util.Arrays;
import java.util.List;

/**
 * The document written down a second time, as slowly and plainly as it can be: every answer is
 * reckoned from the list of gifts anew. ModelTest holds the class against it.
 */
final class PlainFund {
    static final int NONE = -1000000, BAD = -1000001, STATE = -1000002, FULL = -1000003;

    record Gift(int giver, int project, int coins) {
    }

    /** All that an act, an image or a foretelling may change. */
    static final class World {
        int pot;
        int ease;
        List<Integer> kinds = new ArrayList<>();
        List<Gift> gifts = new ArrayList<>();
        int[] names = {0, 1, 2, 3, 4, 5, 6, 7, 8, 9};

        World copy() {
            World w = new World();
            w.pot = pot;
            w.ease = ease;
            w.kinds = new ArrayList<>(kinds);
            w.gifts = new ArrayList<>(gifts);
            w.names = names.clone();
            return w;
        }

        World with(int giver, int project, int coins) {
            World w = copy();
            if (coins > 0) {
                w.gifts.add(new Gift(giver, project, coins));
            }
            return w;
        }

        World withoutNames(int bits) {
            World w = copy();
            w.gifts.removeIf(g -> (bits >> names[g.giver()] & 1) == 1);
            return w;
        }

        /** Sums and their roots, from the list of gifts as it is now. */
        Sums sums() {
            int n = kinds.size();
            int[][] sums = new int[10][n];
            for (Gift g : gifts) {
                sums[names[g.giver()]][g.project()] += g.coins();
            }
            int[][] roots = new int[10][n];
            for (int g = 0; g < 10; g++) {
                for (int p = 0; p < n; p++) {
                    roots[g][p] = ROOTS[sums[g][p]];
                }
            }
            return new Sums(sums, roots, ease, kinds);
        }

        int sum(int giver, int project) {
            return names[giver] == giver ? sums().sums()[giver][project] : 0;
        }

        boolean givesAny(int giver) {
            return names[giver] == giver && Arrays.stream(sums().sums()[giver]).anyMatch(v -> v > 0);
        }

        int[] paid() {
            return cutDown(sums().claims(), pot);
        }

        int rest() {
            return pot - Arrays.stream(paid()).sum();
        }
    }

    private static final int[] ROOTS = new int[1981];

    static {
        for (int v = 0; v <= 1980; v++) {
            ROOTS[v] = rootOf(v);
        }
    }

    record Sums(int[][] sums, int[][] roots, int ease, List<Integer> kinds) {
        int allSums(int project) {
            int all = 0;
            for (int g = 0; g < 10; g++) {
                all += sums[g][project];
            }
            return all;
        }

        int heads(int project) {
            int n = 0;
            for (int g = 0; g < 10; g++) {
                n += sums[g][project] > 0 ? 1 : 0;
            }
            return n;
        }

        long overlap(int a, int b) {
            long all = 0;
            for (int p = 0; p < kinds.size(); p++) {
                all += (long) roots[a][p] * roots[b][p];
            }
            return all / 10000;
        }

        long term(int a, int b, int p) {
            return 2L * roots[a][p] * roots[b][p] * ease / (10000L * (ease + overlap(a, b)));
        }

        long openClaim(int p) {
            long all = 0;
            for (int a = 0; a < 10; a++) {
                for (int b = 0; b < a; b++) {
                    all += term(a, b, p);
                }
            }
            return all;
        }

        long claim(int p) {
            int kind = kinds.get(p);
            if (kind == 1) {
                return openClaim(p);
            }
            if (kind == 2) {
                long roots = 0;
                for (int g = 0; g < 10; g++) {
                    roots += this.roots[g][p];
                }
                long left = roots * roots / 10000 - allSums(p);
                return left < 0 ? 0 : left;
            }
            if (kind == 3) {
                return openClaim(p) / 2;
            }
            if (kind == 4) {
                return allSums(p);
            }
            int cap = 5 * heads(p);
            return allSums(p) > cap ? cap : allSums(p);
        }

        long[] claims() {
            long[] claims = new long[kinds.size()];
            for (int p = 0; p < claims.length; p++) {
                claims[p] = claim(p);
            }
            return claims;
        }
    }

    static int[] cutDown(long[] claims, int pot) {
        long all = Arrays.stream(claims).sum();
        int[] paid = new int[claims.length];
        int given = 0;
        for (int p = 0; p < claims.length; p++) {
            paid[p] = (int) (all <= pot ? claims[p] : claims[p] * pot / all);
            given += paid[p];
        }
        if (all > pot) {
            for (int p = 0; given < pot; p++) {
                if (claims[p] > 0) {
                    paid[p]++;
                    given++;
                }
            }
        }
        return paid;
    }

    static int rootOf(long v) {
        return BigInteger.valueOf(10000 * v).sqrt().intValueExact();
    }

    private static final int[] LANE_BITS = {8, 16, 32};

    private World world;
    private final World[] images = new World[2];
    private final List<World> past = new ArrayList<>();
    private final int[][] rows = new int[8][];
    private final int[] lanes = new int[8];
    private final List<Integer> tape = new ArrayList<>();
    private final List<Integer> trace = new ArrayList<>();
    private int fault;
    private int status;

    private int found(int n) {
        status = n;
        return -1000010 - n;
    }

    private int fine(int answer) {
        status = 0;
        return answer;
    }

    private boolean noRow(int r) {
        return r < 0 || r > 7;
    }

    private boolean noGiver(int g) {
        return g < 0 || g > 9;
    }

    private boolean noProject(int p) {
        return world == null || p < 0 || p >= world.kinds.size();
    }

    private boolean noGift(int g) {
        return world == null || g < 0 || g >= world.gifts.size();
    }

    private static boolean out(long v, long least, long most) {
        return v < least || v > most;
    }

    int row(int row, int lane, int n) {
        if (noRow(row) || out(lane, 0, 2) || n > 40) {
            return BAD;
        }
        if (n < 0) {
            return found(4);
        }
        rows[row] = new int[n];
        lanes[row] = lane;
        return fine(n);
    }

    int set(int row, int i, int v) {
        if (noRow(row)) {
            return BAD;
        }
        if (rows[row] == null) {
            return found(1);
        }
        if (i < 0 || i >= rows[row].length) {
            return found(2);
        }
        int spare = 32 - LANE_BITS[lanes[row]];
        rows[row][i] = v << spare >> spare;
        return fine(rows[row][i]);
    }

    int copy(int a, int i, int b, int j, int n) {
        if (noRow(a) || noRow(b)) {
            return BAD;
        }
        if (rows[a] == null || rows[b] == null) {
            return found(1);
        }
        if (lanes[a] != lanes[b]) {
            return found(5);
        }
        if (i < 0 || j < 0 || n < 0 || (long) i + n > rows[a].length || (long) j + n > rows[b].length) {
            return found(2);
        }
        int[] ahead = rows[a].clone();
        for (int k = 0; k < n; k++) {
            rows[b][j + k] = ahead[i + k];
        }
        return fine(n);
    }

    int drop(int row) {
        if (noRow(row)) {
            return BAD;
        }
        if (rows[row] == null) {
            return found(1);
        }
        int had = rows[row].length;
        rows[row] = null;
        return fine(had);
    }

    int feed(int letter) {
        if (out(letter, 0, 255)) {
            return BAD;
        }
        if (tape.size() == 130) {
            return FULL;
        }
        tape.add(letter);
        return tape.size();
    }

    /** A token: what it is ('0' a number, '?' none, '$' the end), where it begins, its value. */
    record Token(char what, int place, int value) {
    }

    private static List<Token> tokens(List<Integer> bytes) {
        List<Token> all = new ArrayList<>();
        int i = 0;
        while (i < bytes.size()) {
            int c = bytes.get(i);
            int from = i;
            if (c >= '0' && c <= '9') {
                long value = 0;
                while (i < bytes.size() && bytes.get(i) >= '0' && bytes.get(i) <= '9') {
                    value = Math.min(100000, value * 10 + bytes.get(i) - '0');
                    i++;
                }
                all.add(new Token(i - from > 2 ? '?' : '0', from, (int) value));
            } else {
                boolean fits = c >= 'a' && c <= 'z' || c == ',' || c == ';';
                all.add(new Token(fits ? (char) c : '?', from, 0));
                i++;
            }
        }
        all.add(new Token('$', bytes.size(), 0));
        return all;
    }

    /** Reads by a table of states: what may stand, and which bounds a number has. */
    int fund() {
        List<Token> tokens = tokens(tape);
        tape.clear();
        World w = new World();
        String state = "m";
        int giver = 0;
        int project = 0;
        int coins = 0;
        for (Token t : tokens) {
            int bad = 0;
            switch (state) {
                case "m":
                    bad = t.what() == 'm' ? 0 : 1;
                    state = "pot";
                    break;
                case "pot":
                    bad = number(t, 0, 99);
                    w.pot = 10 * t.value();
                    state = "pot,";
                    break;
                case "pot,":
                    bad = t.what() == ',' ? 0 : 1;
                    state = "ease";
                    break;
                case "ease":
                    bad = number(t, 1, 99);
                    w.ease = t.value();
                    state = "law;";
                    break;
                case "law;":
                    bad = t.what() == ';' ? 0 : 1;
                    state = "project";
                    break;
                case "project":
                case "either":
                case "gift":
                    if ("oshfc".indexOf(t.what()) >= 0 && !state.equals("gift")) {
                        bad = w.kinds.size() == 6 ? 3 : 0;
                        w.kinds.add("oshfc".indexOf(t.what()) + 1);
                        state = "project;";
                    } else if (t.what() == 'g' && !state.equals("project")) {
                        bad = w.gifts.size() == 20 ? 3 : 0;
                        state = "giver";
                    } else if (t.what() == '$' && !state.equals("project")) {
                        world = w;
                        past.clear();
                        return w.kinds.size();
                    } else {
                        bad = 1;
                    }
                    break;
                case "project;":
                    bad = t.what() == ';' ? 0 : 1;
                    state = "either";
                    break;
                case "giver":
                    bad = number(t, 0, 9);
                    giver = t.value();
                    state = "giver,";
                    break;
                case "giver,":
                    bad = t.what() == ',' ? 0 : 1;
                    state = "to";
                    break;
                case "to":
                    bad = number(t, 0, w.kinds.size() - 1);
                    project = t.value();
                    state = "to,";
                    break;
                case "to,":
                    bad = t.what() == ',' ? 0 : 1;
                    state = "coins";
                    break;
                case "coins":
                    bad = number(t, 1, 99);
                    coins = t.value();
                    state = "gift;";
                    break;
                default:
                    bad = t.what() == ';' ? 0 : 1;
                    w.gifts.add(new Gift(giver, project, coins));
                    state = "gift";
                    break;
            }
            if (bad != 0) {
                fault = bad;
                return -1000100 - t.place();
            }
        }
        throw new IllegalStateException("the end is a token, too");
    }

    private static int number(Token t, int least, int most) {
        if (t.what() != '0') {
            return 1;
        }
        return out(t.value(), least, most) ? 2 : 0;
    }

    int fault() {
        return fault;
    }

    int undo() {
        if (past.isEmpty()) {
            return STATE;
        }
        world = past.remove(past.size() - 1);
        return past.size();
    }

    private void act() {
        past.add(world.copy());
        if (past.size() > 24) {
            past.remove(0);
        }
    }

    int give(int giver, int project, int coins) {
        if (noGiver(giver) || noProject(project) || out(coins, 1, 99)) {
            return BAD;
        }
        if (world.gifts.size() == 20) {
            return FULL;
        }
        act();
        world.gifts.add(new Gift(giver, project, coins));
        return world.gifts.size();
    }

    int back(int gift) {
        if (noGift(gift)) {
            return BAD;
        }
        act();
        return world.gifts.remove(gift).coins();
    }

    int pot(int v) {
        if (world == null) {
            return STATE;
        }
        if (out(v, 0, 999)) {
            return BAD;
        }
        act();
        int was = world.pot;
        world.pot = v;
        return was;
    }

    int become(int project, int kind) {
        if (noProject(project) || out(kind, 1, 5)) {
            return BAD;
        }
        if (world.kinds.get(project) == kind) {
            return STATE;
        }
        act();
        return world.kinds.set(project, kind);
    }

    int one(int a, int b) {
        if (world == null) {
            return STATE;
        }
        if (noGiver(a) || noGiver(b) || a == b) {
            return BAD;
        }
        int of = world.names[a];
        int to = world.names[b];
        if (of == to) {
            return STATE;
        }
        act();
        for (int g = 0; g < 10; g++) {
            world.names[g] = world.names[g] == of ? to : world.names[g];
        }
        return to;
    }

    int gift(int gift, int what) {
        if (noGift(gift) || out(what, 0, 2)) {
            return BAD;
        }
        Gift g = world.gifts.get(gift);
        return what == 0 ? g.giver() : what == 1 ? g.project() : g.coins();
    }

    int nameOf(int giver) {
        return world == null ? STATE : noGiver(giver) ? BAD : world.names[giver];
    }

    int root(int v) {
        return out(v, 0, 1980) ? BAD : rootOf(v);
    }

    int sum(int giver, int project) {
        return noGiver(giver) || noProject(project) ? BAD : world.sum(giver, project);
    }

    int overlap(int a, int b) {
        if (world == null) {
            return STATE;
        }
        return noGiver(a) || noGiver(b) || a == b ? BAD : (int) world.sums().overlap(a, b);
    }

    int term(int a, int b, int project) {
        return noGiver(a) || noGiver(b) || a == b || noProject(project) ? BAD : (int) world.sums().term(a, b, project);
    }

    int project(int project, int what) {
        if (noProject(project) || out(what, 0, 2)) {
            return BAD;
        }
        if (what == 0) {
            return (int) world.sums().claim(project);
        }
        if (what == 1) {
            return world.paid()[project];
        }
        int bits = 0;
        for (int g = 0; g < 10; g++) {
            bits |= world.sum(g, project) > 0 ? 1 << g : 0;
        }
        return bits;
    }

    int stand(int what) {
        if (world == null) {
            return STATE;
        }
        if (out(what, 0, 3)) {
            return BAD;
        }
        return switch (what) {
            case 0 -> world.pot;
            case 1 -> (int) Arrays.stream(world.sums().claims()).sum();
            case 2 -> Arrays.stream(world.paid()).sum();
            default -> world.rest();
        };
    }

    int paidIf(int giver, int project, int v, int of) {
        if (noGiver(giver) || noProject(project) || out(v, 0, 99) || noProject(of)) {
            return BAD;
        }
        if (v > 0 && world.gifts.size() == 20) {
            return FULL;
        }
        return world.with(giver, project, v).paid()[of];
    }

    int best(int giver, int v, int what) {
        if (world == null) {
            return STATE;
        }
        if (noGiver(giver) || out(v, 1, 99) || out(what, 0, 1)) {
            return BAD;
        }
        if (world.gifts.size() == 20) {
            return FULL;
        }
        int[] now = world.paid();
        int which = -1;
        int most = Integer.MIN_VALUE;
        for (int p = 0; p < now.length; p++) {
            int raise = world.with(giver, p, v).paid()[p] - now[p];
            if (raise > most) {
                which = p;
                most = raise;
            }
        }
        return what == 0 ? which : most;
    }

    int least(int giver, int project, int goal) {
        if (noGiver(giver) || noProject(project) || out(goal, 1, 9999)) {
            return BAD;
        }
        if (world.gifts.size() == 20) {
            return FULL;
        }
        for (int c = 1; c <= 99; c++) {
            if (world.with(giver, project, c).sums().claim(project) >= goal) {
                return c;
            }
        }
        return NONE;
    }

    int missed(int project, int what) {
        if (noProject(project) || out(what, 0, 1)) {
            return BAD;
        }
        int who = NONE;
        int much = NONE;
        for (int g = 9; g >= 0; g--) {
            if (world.givesAny(g)) {
                int paid = world.withoutNames(1 << g).paid()[project];
                if (who == NONE || paid <= much) {
                    who = g;
                    much = paid;
                }
            }
        }
        return what == 0 ? who : much;
    }

    int ring(int what) {
        if (world == null) {
            return STATE;
        }
        if (out(what, 0, 2)) {
            return BAD;
        }
        long[] found = null;
        for (int a = 0; a < 10; a++) {
            for (int b = a + 1; b < 10; b++) {
                long o = world.sums().overlap(a, b);
                if (o > 0 && (found == null || o > found[2])) {
                    found = new long[] {a, b, o};
                }
            }
        }
        return found == null ? NONE : (int) found[what];
    }

    int halves(int giver, int n, int a, int b, int what) {
        if (noGiver(giver) || out(n, 1, 40) || noProject(a) || noProject(b) || out(what, 0, 1)) {
            return BAD;
        }
        if (world.gifts.size() > 18) {
            return FULL;
        }
        int many = -1;
        int most = -1;
        for (int k = n; k >= 0; k--) {
            int[] paid = world.with(giver, a, k).with(giver, b, n - k).paid();
            int much = a == b ? paid[a] : paid[a] + paid[b];
            if (much >= most) {
                many = k;
                most = much;
            }
        }
        return what == 0 ? many : most;
    }

    int sets(int v, int what) {
        if (world == null) {
            return STATE;
        }
        if (out(v, 0, 999) || out(what, 0, 2)) {
            return BAD;
        }
        int[] paid = world.paid();
        List<Integer> fitting = new ArrayList<>();
        for (int bits = 0; bits < 1 << paid.length; bits++) {
            int all = 0;
            for (int p = 0; p < paid.length; p++) {
                all += (bits >> p & 1) == 1 ? paid[p] : 0;
            }
            if (all == v) {
                fitting.add(bits);
            }
        }
        if (what == 0) {
            return fitting.size();
        }
        if (what == 1) {
            return fitting.stream().reduce((x, y) -> x & y).orElse(0);
        }
        return fitting.stream().reduce(0, (x, y) -> x | y);
    }

    int byTurns(int a, int b, int n, int v) {
        if (world == null) {
            return STATE;
        }
        if (noGiver(a) || noGiver(b) || a == b || out(n, 0, 4) || out(v, 1, 20)) {
            return BAD;
        }
        if (world.gifts.size() > 16) {
            return FULL;
        }
        return turns(world, a, b, 0, n, v);
    }

    private static int turns(World w, int a, int b, int turn, int n, int v) {
        int last = w.kinds.size() - 1;
        if (turn == n) {
            int[] paid = w.paid();
            return paid[0] - paid[last];
        }
        int mover = turn % 2 == 0 ? a : b;
        int[] ends = {
            turns(w.with(mover, 0, v), a, b, turn + 1, n, v),
            turns(w.with(mover, last, v), a, b, turn + 1, n, v),
            turns(w, a, b, turn + 1, n, v)};
        Arrays.sort(ends);
        return turn % 2 == 0 ? ends[2] : ends[0];
    }

    int who(int x, int which, int row, int i) {
        if (world == null) {
            return STATE;
        }
        if (out(which, 0, 4) || noRow(row) || which == 2 && noProject(x) || which > 2 && noGift(x)) {
            return BAD;
        }
        if (rows[row] == null) {
            return found(1);
        }
        int n = world.kinds.size();
        if (i < 0 || (long) i + n > rows[row].length) {
            return found(2);
        }
        int[] told = Arrays.copyOfRange(rows[row], i, i + n);
        List<Integer> fitting = new ArrayList<>();
        if (which < 2) {
            long[] claims = world.sums().claims();
            for (int pot = 0; pot < 1000; pot++) {
                if (Arrays.equals(cutDown(claims, pot), told)) {
                    fitting.add(pot);
                }
            }
        } else if (which == 2) {
            int bits = 0;
            for (int kind = 1; kind < 6; kind++) {
                World w = world.copy();
                w.kinds.set(x, kind);
                bits += Arrays.equals(w.paid(), told) ? 1 << kind : 0;
            }
            return fine(bits);
        } else {
            for (int c = 1; c < 100; c++) {
                World w = world.copy();
                Gift g = w.gifts.get(x);
                w.gifts.set(x, new Gift(g.giver(), g.project(), c));
                if (Arrays.equals(w.paid(), told)) {
                    fitting.add(c);
                }
            }
        }
        if (which == 0 || which == 3) {
            return fine(fitting.size());
        }
        return fine(fitting.isEmpty() ? NONE : fitting.get(0));
    }

    long likely(int project, int v, int p, int what) {
        if (noProject(project) || out(v, 0, 9999) || out(p, 0, 10) || out(what, 0, 1)) {
            return BAD;
        }
        List<Integer> active = new ArrayList<>();
        for (int g = 0; g < 10; g++) {
            if (world.givesAny(g)) {
                active.add(g);
            }
        }
        BigInteger above = BigInteger.ZERO;
        for (int bits = 0; bits < 1 << active.size(); bits++) {
            int gone = 0;
            for (int k = 0; k < active.size(); k++) {
                gone |= (bits >> k & 1) == 1 ? 1 << active.get(k) : 0;
            }
            if (world.withoutNames(gone).paid()[project] >= v) {
                int back = Integer.bitCount(bits);
                above = above.add(BigInteger.valueOf(p).pow(back)
                    .multiply(BigInteger.valueOf(10 - p).pow(active.size() - back)));
            }
        }
        BigInteger below = BigInteger.TEN.pow(active.size());
        BigInteger common = above.gcd(below);
        return (what == 0 ? above : below).divide(common).longValueExact();
    }

    int drawn(int n, int seed, int what) {
        if (world == null) {
            return STATE;
        }
        if (out(n, 0, 60) || out(seed, 1, 999999) || out(what, 0, 1)) {
            return BAD;
        }
        World w = world.copy();
        BigInteger x = BigInteger.valueOf(seed);
        int all = 0;
        for (int k = 0; k < n; k++) {
            x = x.multiply(BigInteger.valueOf(16807)).mod(BigInteger.valueOf(2147483647));
            int y = x.intValueExact();
            if (!w.gifts.isEmpty()) {
                w.gifts.set(y % w.gifts.size(),
                    new Gift(y / 32 % 10, y / 512 % w.kinds.size(), y / 4096 % 99 + 1));
            }
            all += Arrays.stream(w.paid()).sum();
        }
        return what == 0 ? all : w.rest();
    }

    int image(int k) {
        if (out(k, 0, 1)) {
            return BAD;
        }
        if (world == null) {
            return STATE;
        }
        images[k] = world.copy();
        return 1;
    }

    int restore(int k) {
        if (out(k, 0, 1)) {
            return BAD;
        }
        if (images[k] == null) {
            return STATE;
        }
        world = images[k].copy();
        past.clear();
        return 1;
    }

    int kind(int one) {
        return noProject(one) ? BAD : world.kinds.get(one);
    }

    /** The kinds as classes, so that Java itself picks the bodies. */
    private interface Lent {
        Asked it();

        default int size() {
            it().leave(10);
            return it().sums;
        }

        default int mark() {
            it().leave(20);
            return it().number;
        }
    }

    private record Asked(int number, int sums, int heads, List<Integer> trace) {
        void leave(int body) {
            if (trace.size() < 16) {
                trace.add(body);
            }
        }
    }

    private static class Project implements Lent {
        final Asked it;

        Project(Asked it) {
            this.it = it;
        }

        @Override
        public Asked it() {
            return it;
        }
    }

    private static class Open extends Project {
        Open(Asked it) {
            super(it);
        }

        @Override
        public int size() {
            it.leave(11);
            int first = super.size();
            return first + mark();
        }

        @Override
        public int mark() {
            it.leave(21);
            return super.mark() + it.heads;
        }
    }

    private static final class Square extends Open {
        Square(Asked it) {
            super(it);
        }

        @Override
        public int size() {
            it.leave(12);
            return 0 - super.size();
        }

        @Override
        public int mark() {
            it.leave(24);
            return super.mark() * 2;
        }
    }

    private static final class Half extends Open {
        Half(Asked it) {
            super(it);
        }

        @Override
        public int mark() {
            it.leave(22);
            return super.mark() - 1000;
        }
    }

    private static class Flat extends Project {
        Flat(Asked it) {
            super(it);
        }

        @Override
        public int size() {
            it.leave(13);
            return super.size() - 100;
        }

        @Override
        public int mark() {
            it.leave(23);
            int first = super.mark();
            return first - size();
        }
    }

    private static final class Capped extends Flat {
        Capped(Asked it) {
            super(it);
        }

        @Override
        public int size() {
            it.leave(14);
            return super.size() * 2;
        }
    }

    private Project built(int one, List<Integer> leaves) {
        Asked it = new Asked(one, world.sums().allSums(one), world.sums().heads(one), leaves);
        return switch (world.kinds.get(one)) {
            case 1 -> new Open(it);
            case 2 -> new Square(it);
            case 3 -> new Half(it);
            case 4 -> new Flat(it);
            default -> new Capped(it);
        };
    }

    int as(int one, int kind) {
        if (noProject(one) || out(kind, 0, 5)) {
            return BAD;
        }
        Project p = built(one, new ArrayList<>());
        boolean is = switch (kind) {
            case 0 -> true;
            case 1 -> p instanceof Open;
            case 2 -> p instanceof Square;
            case 3 -> p instanceof Half;
            case 4 -> p instanceof Flat;
            default -> p instanceof Capped;
        };
        return is ? fine(one) : found(3);
    }

    int ask(int one, int what) {
        if (noProject(one) || out(what, 0, 1)) {
            return BAD;
        }
        trace.clear();
        Project p = built(one, trace);
        return what == 0 ? p.size() : p.mark();
    }

    int trace(int i) {
        return i < 0 || i >= trace.size() ? NONE : trace.get(i);
    }

    int count(int what) {
        return switch (what) {
            case 0 -> (int) Arrays.stream(rows).filter(r -> r != null).count();
            case 1 -> world == null ? 0 : world.kinds.size();
            case 2 -> world == null ? 0 : world.gifts.size();
            case 3 -> world == null ? 0 : world.pot;
            case 4 -> world == null ? 0 : world.gifts.stream().mapToInt(Gift::coins).sum();
            case 5 -> past.size();
            case 6 -> tape.size();
            default -> BAD;
        };
    }

    int status() {
        return status;
    }
}
