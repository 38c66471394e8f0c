/** A fund whose pot tops small gifts; ../shared/DOC.md tells what every call answers. */
public final class MatchFund {
    public static final int NONE = -1000000, BAD = -1000001, STATE = -1000002, FULL = -1000003;

    private static final int FOUND = -1000010;
    private static final int FOUND_NULL = 1, FOUND_PLACE = 2, FOUND_KIND = 3, FOUND_SIZE = 4, FOUND_STORE = 5;
    private static final int FAULT_AT = -1000100;

    private static final int GIVERS = 10;
    private static final int MOST_PROJECTS = 6;
    private static final int MOST_GIFTS = 20;
    private static final int MOST_COINS = 99;
    private static final int MOST_POT = 999;
    private static final int MOST_ROOTED = 1980;
    private static final int MOST_GOAL = 9999;
    private static final int IMAGES = 2;

    private static final int OPEN = 1, SQUARE = 2, HALF = 3, FLAT = 4, CAPPED = 5;
    private static final int KINDS = 6;
    private static final int[] KIND_ABOVE = {-1, 0, OPEN, OPEN, 0, FLAT};

    private final Rows rows = new Rows();
    private final Tape tape = new Tape();
    private final Fund fund = new Fund();
    private final Fund reading = new Fund();
    private final Fund[] images = {new Fund(), new Fund()};
    private final Acts acts = new Acts();
    private final Board board = new Board();
    private final Foresight foresight = new Foresight(fund, board);
    private final Asks asks = new Asks(board);
    private int latestFault;
    private int latestFinding;

    public MatchFund() {
    }

    // ---- rows

    public int row(int row, int lane, int n) {
        if (!Rows.isRow(row) || !within(lane, 0, 2) || n > Rows.MOST_ITEMS) {
            return BAD;
        }
        if (n < 0) {
            return found(FOUND_SIZE);
        }
        rows.lay(row, lane, n);
        return unmarred(n);
    }

    public int set(int row, int i, int v) {
        if (!Rows.isRow(row)) {
            return BAD;
        }
        if (rows.isMissing(row)) {
            return found(FOUND_NULL);
        }
        if (!rows.hasPlaces(row, i, 1)) {
            return found(FOUND_PLACE);
        }
        return unmarred(rows.store(row, i, v));
    }

    public int copy(int a, int i, int b, int j, int n) {
        if (!Rows.isRow(a) || !Rows.isRow(b)) {
            return BAD;
        }
        if (rows.isMissing(a) || rows.isMissing(b)) {
            return found(FOUND_NULL);
        }
        if (rows.lanes[a] != rows.lanes[b]) {
            return found(FOUND_STORE);
        }
        if (!rows.hasPlaces(a, i, n) || !rows.hasPlaces(b, j, n)) {
            return found(FOUND_PLACE);
        }
        rows.move(a, i, b, j, n);
        return unmarred(n);
    }

    public int drop(int row) {
        if (!Rows.isRow(row)) {
            return BAD;
        }
        if (rows.isMissing(row)) {
            return found(FOUND_NULL);
        }
        return unmarred(rows.lose(row));
    }

    // ---- what is told

    public int feed(int letter) {
        if (!within(letter, 0, 255)) {
            return BAD;
        }
        return tape.append(letter) ? tape.length : FULL;
    }

    public int fund() {
        boolean whole = tape.readInto(reading);
        tape.length = 0;
        if (!whole) {
            latestFault = tape.faultNumber;
            return FAULT_AT - tape.faultPlace;
        }
        fund.becomeLike(reading);
        acts.forgetAll();
        return fund.projects;
    }

    public int fault() {
        return latestFault;
    }

    public int undo() {
        if (acts.kept == 0) {
            return STATE;
        }
        acts.revertLatest(fund);
        return acts.kept;
    }

    // ---- what is done

    public int give(int giver, int project, int coins) {
        if (!isGiver(giver) || !isProject(project) || !within(coins, 1, MOST_COINS)) {
            return BAD;
        }
        if (fund.gifts >= MOST_GIFTS) {
            return FULL;
        }
        fund.putGift(fund.gifts, giver, project, coins);
        acts.keep(Acts.GIVEN, 0, 0, 0, 0);
        return fund.gifts;
    }

    public int back(int gift) {
        if (!isGift(gift)) {
            return BAD;
        }
        int coins = fund.coins[gift];
        acts.keep(Acts.TAKEN_BACK, gift, fund.givers[gift], fund.targets[gift], coins);
        fund.takeGift(gift);
        return coins;
    }

    public int pot(int v) {
        if (!fund.stands) {
            return STATE;
        }
        if (!within(v, 0, MOST_POT)) {
            return BAD;
        }
        int before = fund.pot;
        acts.keep(Acts.OTHER_POT, before, 0, 0, 0);
        fund.pot = v;
        return before;
    }

    public int become(int project, int kind) {
        if (!isProject(project) || !within(kind, OPEN, CAPPED)) {
            return BAD;
        }
        int before = fund.kinds[project];
        if (before == kind) {
            return STATE;
        }
        acts.keep(Acts.OTHER_KIND, project, before, 0, 0);
        fund.kinds[project] = kind;
        return before;
    }

    public int one(int a, int b) {
        if (!fund.stands) {
            return STATE;
        }
        if (!areTwoGivers(a, b)) {
            return BAD;
        }
        int left = fund.names[a];
        int taken = fund.names[b];
        if (left == taken) {
            return STATE;
        }
        int moved = fund.giversNamed(left);
        acts.keep(Acts.FOUND_ONE, moved, left, 0, 0);
        fund.rename(moved, taken);
        return taken;
    }

    public int gift(int gift, int what) {
        if (!isGift(gift)) {
            return BAD;
        }
        switch (what) {
            case 0:
                return fund.givers[gift];
            case 1:
                return fund.targets[gift];
            case 2:
                return fund.coins[gift];
            default:
                return BAD;
        }
    }

    public int nameOf(int giver) {
        if (!fund.stands) {
            return STATE;
        }
        return isGiver(giver) ? fund.names[giver] : BAD;
    }

    // ---- what it comes to

    public int root(int v) {
        return within(v, 0, MOST_ROOTED) ? Board.rootOf(v) : BAD;
    }

    public int sum(int giver, int project) {
        if (!isGiver(giver) || !isProject(project)) {
            return BAD;
        }
        board.lay(fund);
        return board.sumFrom(giver, project);
    }

    public int overlap(int a, int b) {
        if (!fund.stands) {
            return STATE;
        }
        if (!areTwoGivers(a, b)) {
            return BAD;
        }
        board.lay(fund);
        return board.overlapOf(a, b);
    }

    public int term(int a, int b, int project) {
        if (!areTwoGivers(a, b) || !isProject(project)) {
            return BAD;
        }
        board.lay(fund);
        return board.termOf(a, b, project, board.overlapOf(a, b));
    }

    public int project(int project, int what) {
        if (!isProject(project) || !within(what, 0, 2)) {
            return BAD;
        }
        board.load(fund);
        board.settle();
        switch (what) {
            case 0:
                return board.claims[project];
            case 1:
                return board.paid[project];
            default:
                return board.giversTo(project);
        }
    }

    public int stand(int what) {
        if (!fund.stands) {
            return STATE;
        }
        board.load(fund);
        board.settle();
        switch (what) {
            case 0:
                return fund.pot;
            case 1:
                return board.allClaims;
            case 2:
                return board.allPaid();
            case 3:
                return board.rest;
            default:
                return BAD;
        }
    }

    // ---- foretold

    public int paidIf(int giver, int project, int v, int of) {
        if (!isGiver(giver) || !isProject(project) || !within(v, 0, MOST_COINS) || !isProject(of)) {
            return BAD;
        }
        if (v > 0 && fund.gifts >= MOST_GIFTS) {
            return FULL;
        }
        return foresight.paidWith(giver, project, v, of);
    }

    public int best(int giver, int v, int what) {
        if (!fund.stands) {
            return STATE;
        }
        if (!isGiver(giver) || !within(v, 1, MOST_COINS) || !within(what, 0, 1)) {
            return BAD;
        }
        if (fund.gifts >= MOST_GIFTS) {
            return FULL;
        }
        return foresight.bestTarget(giver, v, what);
    }

    public int least(int giver, int project, int goal) {
        if (!isGiver(giver) || !isProject(project) || !within(goal, 1, MOST_GOAL)) {
            return BAD;
        }
        if (fund.gifts >= MOST_GIFTS) {
            return FULL;
        }
        return foresight.leastCoins(giver, project, goal);
    }

    public int missed(int project, int what) {
        if (!isProject(project) || !within(what, 0, 1)) {
            return BAD;
        }
        return foresight.mostMissed(project, what);
    }

    public int ring(int what) {
        if (!fund.stands) {
            return STATE;
        }
        return within(what, 0, 2) ? foresight.likestRing(what) : BAD;
    }

    public int halves(int giver, int n, int a, int b, int what) {
        if (!isGiver(giver) || !within(n, 1, 40) || !isProject(a) || !isProject(b) || !within(what, 0, 1)) {
            return BAD;
        }
        if (fund.gifts > MOST_GIFTS - 2) {
            return FULL;
        }
        return foresight.bestHalves(giver, n, a, b, what);
    }

    public int sets(int v, int what) {
        if (!fund.stands) {
            return STATE;
        }
        if (!within(v, 0, 999) || !within(what, 0, 2)) {
            return BAD;
        }
        return foresight.setsPaid(v, what);
    }

    public int byTurns(int a, int b, int n, int v) {
        if (!fund.stands) {
            return STATE;
        }
        if (!areTwoGivers(a, b) || !within(n, 0, Foresight.MOST_TURNS) || !within(v, 1, 20)) {
            return BAD;
        }
        if (fund.gifts > MOST_GIFTS - Foresight.MOST_TURNS) {
            return FULL;
        }
        return foresight.outcomeOfTurns(a, b, n, v);
    }

    public int who(int x, int which, int row, int i) {
        if (!fund.stands) {
            return STATE;
        }
        if (!within(which, 0, 4) || !Rows.isRow(row)) {
            return BAD;
        }
        if ((which == 2 && !isProject(x)) || (which > 2 && !isGift(x))) {
            return BAD;
        }
        if (rows.isMissing(row)) {
            return found(FOUND_NULL);
        }
        if (!rows.hasPlaces(row, i, fund.projects)) {
            return found(FOUND_PLACE);
        }
        foresight.expect(rows, row, i);
        switch (which) {
            case 0:
            case 1:
                return unmarred(foresight.fittingPots(which == 1));
            case 2:
                return unmarred(foresight.fittingKinds(x));
            default:
                return unmarred(foresight.fittingCoins(x, which == 4));
        }
    }

    public long likely(int project, int v, int p, int what) {
        if (!isProject(project) || !within(v, 0, MOST_GOAL) || !within(p, 0, Foresight.CASES) || !within(what, 0, 1)) {
            return BAD;
        }
        return foresight.chance(project, v, p, what);
    }

    public int drawn(int n, int seed, int what) {
        if (!fund.stands) {
            return STATE;
        }
        if (!within(n, 0, 60) || !within(seed, 1, 999999) || !within(what, 0, 1)) {
            return BAD;
        }
        return foresight.years(n, seed, what);
    }

    public int image(int k) {
        if (!within(k, 0, IMAGES - 1)) {
            return BAD;
        }
        if (!fund.stands) {
            return STATE;
        }
        images[k].becomeLike(fund);
        return 1;
    }

    public int restore(int k) {
        if (!within(k, 0, IMAGES - 1)) {
            return BAD;
        }
        if (!images[k].stands) {
            return STATE;
        }
        fund.becomeLike(images[k]);
        acts.forgetAll();
        return 1;
    }

    // ---- asked

    public int kind(int one) {
        return isProject(one) ? fund.kinds[one] : BAD;
    }

    public int as(int one, int kind) {
        if (!isProject(one) || !within(kind, 0, KINDS - 1)) {
            return BAD;
        }
        return isOfKind(fund.kinds[one], kind) ? unmarred(one) : found(FOUND_KIND);
    }

    public int ask(int one, int what) {
        if (!isProject(one) || !within(what, 0, 1)) {
            return BAD;
        }
        board.load(fund);
        return asks.answer(one, what);
    }

    public int trace(int i) {
        return i >= 0 && i < asks.left ? asks.numbers[i] : NONE;
    }

    public int count(int what) {
        switch (what) {
            case 0:
                return rows.howMany();
            case 1:
                return fund.projects;
            case 2:
                return fund.gifts;
            case 3:
                return fund.pot;
            case 4:
                return fund.allCoins();
            case 5:
                return acts.kept;
            case 6:
                return tape.length;
            default:
                return BAD;
        }
    }

    public int status() {
        return latestFinding;
    }

    // ---- what the calls share

    private static boolean within(int v, int least, int most) {
        return v >= least && v <= most;
    }

    private static boolean isGiver(int giver) {
        return within(giver, 0, GIVERS - 1);
    }

    private static boolean areTwoGivers(int a, int b) {
        return isGiver(a) && isGiver(b) && a != b;
    }

    private boolean isProject(int project) {
        return project >= 0 && project < fund.projects;
    }

    private boolean isGift(int gift) {
        return gift >= 0 && gift < fund.gifts;
    }

    private static boolean isOfKind(int kind, int asked) {
        int at = kind;
        for (int step = 0; step < KINDS && at >= 0; step++) {
            if (at == asked) {
                return true;
            }
            at = KIND_ABOVE[at];
        }
        return false;
    }

    private int found(int finding) {
        latestFinding = finding;
        return FOUND - finding;
    }

    private int unmarred(int answer) {
        latestFinding = 0;
        return answer;
    }

    /** All rows in one store, made once: a run's room is never given back. */
    private static final class Rows {
        static final int ROWS = 8;
        static final int MOST_ITEMS = 40;
        static final int MISSING = -1;

        final int[] lanes = {MISSING, MISSING, MISSING, MISSING, MISSING, MISSING, MISSING, MISSING};
        final int[] sizes = new int[ROWS];
        final int[] items = new int[ROWS * MOST_ITEMS];

        static boolean isRow(int row) {
            return row >= 0 && row < ROWS;
        }

        boolean isMissing(int row) {
            return lanes[row] == MISSING;
        }

        // the place is held against what n leaves, as their sum might wrap around
        boolean hasPlaces(int row, int from, int n) {
            return from >= 0 && n >= 0 && from <= sizes[row] - n;
        }

        void lay(int row, int lane, int n) {
            lanes[row] = lane;
            sizes[row] = n;
            for (int i = 0; i < n; i++) {
                items[row * MOST_ITEMS + i] = 0;
            }
        }

        int store(int row, int i, int v) {
            int cut = v;
            if (lanes[row] == 0) {
                cut = (byte) v;
            } else if (lanes[row] == 1) {
                cut = (short) v;
            }
            items[row * MOST_ITEMS + i] = cut;
            return cut;
        }

        int itemAt(int row, int i) {
            return items[row * MOST_ITEMS + i];
        }

        void move(int a, int i, int b, int j, int n) {
            System.arraycopy(items, a * MOST_ITEMS + i, items, b * MOST_ITEMS + j, n);
        }

        int lose(int row) {
            lanes[row] = MISSING;
            return sizes[row];
        }

        int howMany() {
            int there = 0;
            for (int row = 0; row < ROWS; row++) {
                there += isMissing(row) ? 0 : 1;
            }
            return there;
        }
    }

    /** What is told and done, nothing that can be reckoned from it. */
    private static final class Fund {
        boolean stands;
        int pot;
        int ease;
        int projects;
        int gifts;
        final int[] kinds = new int[MOST_PROJECTS];
        final int[] names = new int[GIVERS];
        final int[] givers = new int[MOST_GIFTS];
        final int[] targets = new int[MOST_GIFTS];
        final int[] coins = new int[MOST_GIFTS];

        void beginAnew() {
            stands = true;
            pot = 0;
            ease = 0;
            projects = 0;
            gifts = 0;
            for (int giver = 0; giver < GIVERS; giver++) {
                names[giver] = giver;
            }
        }

        void becomeLike(Fund other) {
            stands = other.stands;
            pot = other.pot;
            ease = other.ease;
            projects = other.projects;
            gifts = other.gifts;
            System.arraycopy(other.kinds, 0, kinds, 0, MOST_PROJECTS);
            System.arraycopy(other.names, 0, names, 0, GIVERS);
            System.arraycopy(other.givers, 0, givers, 0, MOST_GIFTS);
            System.arraycopy(other.targets, 0, targets, 0, MOST_GIFTS);
            System.arraycopy(other.coins, 0, coins, 0, MOST_GIFTS);
        }

        void putGift(int at, int giver, int project, int v) {
            for (int i = gifts; i > at; i--) {
                givers[i] = givers[i - 1];
                targets[i] = targets[i - 1];
                coins[i] = coins[i - 1];
            }
            givers[at] = giver;
            targets[at] = project;
            coins[at] = v;
            gifts++;
        }

        void takeGift(int at) {
            gifts--;
            for (int i = at; i < gifts; i++) {
                givers[i] = givers[i + 1];
                targets[i] = targets[i + 1];
                coins[i] = coins[i + 1];
            }
        }

        int giversNamed(int name) {
            int bits = 0;
            for (int giver = 0; giver < GIVERS; giver++) {
                if (names[giver] == name) {
                    bits |= 1 << giver;
                }
            }
            return bits;
        }

        void rename(int bits, int name) {
            for (int giver = 0; giver < GIVERS; giver++) {
                if ((bits >> giver & 1) == 1) {
                    names[giver] = name;
                }
            }
        }

        int allCoins() {
            int all = 0;
            for (int i = 0; i < gifts; i++) {
                all += coins[i];
            }
            return all;
        }
    }

    /** The acts that can be undone, each with what it takes to revert it. */
    private static final class Acts {
        static final int MOST_KEPT = 24;
        static final int GIVEN = 0, TAKEN_BACK = 1, OTHER_POT = 2, OTHER_KIND = 3, FOUND_ONE = 4;

        final int[] deeds = new int[MOST_KEPT];
        final int[] firsts = new int[MOST_KEPT];
        final int[] seconds = new int[MOST_KEPT];
        final int[] thirds = new int[MOST_KEPT];
        final int[] fourths = new int[MOST_KEPT];
        int next;
        int kept;

        // the places go round, so the oldest is overwritten when there are too many
        void keep(int deed, int first, int second, int third, int fourth) {
            deeds[next] = deed;
            firsts[next] = first;
            seconds[next] = second;
            thirds[next] = third;
            fourths[next] = fourth;
            next = next == MOST_KEPT - 1 ? 0 : next + 1;
            kept = Math.min(kept + 1, MOST_KEPT);
        }

        void forgetAll() {
            kept = 0;
        }

        void revertLatest(Fund fund) {
            next = next == 0 ? MOST_KEPT - 1 : next - 1;
            kept--;
            switch (deeds[next]) {
                case GIVEN:
                    fund.takeGift(fund.gifts - 1);
                    break;
                case TAKEN_BACK:
                    fund.putGift(firsts[next], seconds[next], thirds[next], fourths[next]);
                    break;
                case OTHER_POT:
                    fund.pot = firsts[next];
                    break;
                case OTHER_KIND:
                    fund.kinds[firsts[next]] = seconds[next];
                    break;
                default:
                    fund.rename(firsts[next], seconds[next]);
                    break;
            }
        }
    }

    /** The bytes that are told, and the reading of them up to the first fault. */
    private static final class Tape {
        static final int MOST_BYTES = 130;
        static final int CANNOT_STAND = 1, NOT_AS_TOLD = 2, NO_ROOM = 3;
        static final int COINS_OF_POT = 10;

        final int[] bytes = new int[MOST_BYTES];
        int length;
        int at;
        int number;
        int faultNumber;
        int faultPlace;

        boolean append(int letter) {
            if (length >= MOST_BYTES) {
                return false;
            }
            bytes[length] = letter;
            length++;
            return true;
        }

        boolean readInto(Fund fund) {
            at = 0;
            fund.beginAnew();
            return readLaw(fund) && readProjects(fund) && readGifts(fund);
        }

        private boolean readLaw(Fund fund) {
            if (!readSign('m') || !readNumber(0, 99)) {
                return false;
            }
            fund.pot = number * COINS_OF_POT;
            if (!readSign(',') || !readNumber(1, 99)) {
                return false;
            }
            fund.ease = number;
            return readSign(';');
        }

        private boolean readProjects(Fund fund) {
            // one round more than there is room for, so that a project too many is met
            for (int round = 0; round <= MOST_PROJECTS; round++) {
                int kind = kindTold(byteHere());
                if (kind == 0) {
                    return fund.projects > 0 || fails(CANNOT_STAND);
                }
                if (fund.projects >= MOST_PROJECTS) {
                    return fails(NO_ROOM);
                }
                at++;
                if (!readSign(';')) {
                    return false;
                }
                fund.kinds[fund.projects] = kind;
                fund.projects++;
            }
            return true;
        }

        private boolean readGifts(Fund fund) {
            for (int round = 0; round < MOST_BYTES && at < length; round++) {
                if (byteHere() == 'g' && fund.gifts >= MOST_GIFTS) {
                    return fails(NO_ROOM);
                }
                if (!readGift(fund)) {
                    return false;
                }
            }
            return true;
        }

        private boolean readGift(Fund fund) {
            if (!readSign('g') || !readNumber(0, GIVERS - 1)) {
                return false;
            }
            int giver = number;
            if (!readSign(',') || !readNumber(0, fund.projects - 1)) {
                return false;
            }
            int project = number;
            if (!readSign(',') || !readNumber(1, MOST_COINS)) {
                return false;
            }
            int coins = number;
            if (!readSign(';')) {
                return false;
            }
            fund.putGift(fund.gifts, giver, project, coins);
            return true;
        }

        private boolean readSign(char sign) {
            if (byteHere() != sign) {
                return fails(CANNOT_STAND);
            }
            at++;
            return true;
        }

        private boolean readNumber(int least, int most) {
            int figures = 0;
            int value = 0;
            for (int i = at; i < length && isFigure(bytes[i]) && figures <= 2; i++) {
                value = value * 10 + bytes[i] - '0';
                figures++;
            }
            if (figures == 0 || figures > 2) {
                return fails(CANNOT_STAND);
            }
            if (!within(value, least, most)) {
                return fails(NOT_AS_TOLD);
            }
            number = value;
            at += figures;
            return true;
        }

        private int byteHere() {
            return at < length ? bytes[at] : -1;
        }

        private boolean fails(int fault) {
            faultNumber = fault;
            faultPlace = at;
            return false;
        }

        private static boolean isFigure(int letter) {
            return letter >= '0' && letter <= '9';
        }

        private static int kindTold(int letter) {
            switch (letter) {
                case 'o':
                    return OPEN;
                case 's':
                    return SQUARE;
                case 'h':
                    return HALF;
                case 'f':
                    return FLAT;
                case 'c':
                    return CAPPED;
                default:
                    return 0;
            }
        }
    }

    /**
     * What a fund comes to. It holds sums by name and keeps each project's totals as givers
     * join and leave, so that what is foretold can be tried and taken away again.
     */
    private static final class Board {
        static final int SCALE = 10000;
        static final int COINS_OF_CAP = 5;

        final int[] sums = new int[GIVERS * MOST_PROJECTS];
        final int[] roots = new int[GIVERS * MOST_PROJECTS];
        final boolean[] joined = new boolean[GIVERS];
        final int[] kinds = new int[MOST_PROJECTS];
        final int[] coins = new int[MOST_PROJECTS];
        final int[] rootsTogether = new int[MOST_PROJECTS];
        final int[] heads = new int[MOST_PROJECTS];
        final int[] terms = new int[MOST_PROJECTS];
        final int[] claims = new int[MOST_PROJECTS];
        final int[] paid = new int[MOST_PROJECTS];
        int projects;
        int pot;
        int ease;
        int allClaims;
        int rest;

        /** Bit by bit from the greatest that the root of 1980 can have. */
        static int rootOf(int v) {
            int root = 0;
            for (int bit = 4096; bit > 0; bit >>= 1) {
                int tried = root + bit;
                if (tried * tried <= SCALE * v) {
                    root = tried;
                }
            }
            return root;
        }

        void lay(Fund fund) {
            projects = fund.projects;
            pot = fund.pot;
            ease = fund.ease;
            for (int i = 0; i < GIVERS * MOST_PROJECTS; i++) {
                sums[i] = 0;
                roots[i] = 0;
            }
            for (int i = 0; i < fund.gifts; i++) {
                sums[fund.names[fund.givers[i]] * MOST_PROJECTS + fund.targets[i]] += fund.coins[i];
            }
            for (int i = 0; i < GIVERS * MOST_PROJECTS; i++) {
                if (sums[i] > 0) {
                    roots[i] = rootOf(sums[i]);
                }
            }
        }

        void load(Fund fund) {
            lay(fund);
            for (int project = 0; project < projects; project++) {
                kinds[project] = fund.kinds[project];
                coins[project] = 0;
                rootsTogether[project] = 0;
                heads[project] = 0;
                terms[project] = 0;
            }
            for (int giver = 0; giver < GIVERS; giver++) {
                joined[giver] = false;
            }
            for (int giver = 0; giver < GIVERS; giver++) {
                join(giver);
            }
        }

        void join(int giver) {
            weigh(giver, 1);
        }

        void leave(int giver) {
            weigh(giver, -1);
        }

        void add(int name, int project, int v) {
            if (v == 0) {
                return;
            }
            weigh(name, -1);
            int at = name * MOST_PROJECTS + project;
            sums[at] += v;
            roots[at] = rootOf(sums[at]);
            weigh(name, 1);
        }

        int sumFrom(int giver, int project) {
            return sums[giver * MOST_PROJECTS + project];
        }

        boolean gives(int giver) {
            for (int project = 0; project < projects; project++) {
                if (sumFrom(giver, project) > 0) {
                    return true;
                }
            }
            return false;
        }

        int giversTo(int project) {
            int bits = 0;
            for (int giver = 0; giver < GIVERS; giver++) {
                if (sumFrom(giver, project) > 0) {
                    bits |= 1 << giver;
                }
            }
            return bits;
        }

        int overlapOf(int a, int b) {
            int products = 0;
            for (int project = 0; project < projects; project++) {
                products += roots[a * MOST_PROJECTS + project] * roots[b * MOST_PROJECTS + project];
            }
            return products / SCALE;
        }

        int termOf(int a, int b, int project, int overlap) {
            int product = roots[a * MOST_PROJECTS + project] * roots[b * MOST_PROJECTS + project];
            long divisor = (long) SCALE * (ease + overlap);
            if (product == 0 || divisor <= 0) {
                return 0;
            }
            return (int) (2L * product * ease / divisor);
        }

        void settle() {
            allClaims = 0;
            for (int project = 0; project < projects; project++) {
                claims[project] = claimOf(project);
                allClaims += claims[project];
            }
            share(pot);
        }

        int claimOf(int project) {
            switch (kinds[project]) {
                case OPEN:
                    return terms[project];
                case SQUARE:
                    int together = rootsTogether[project];
                    return Math.max(0, together * together / SCALE - coins[project]);
                case HALF:
                    return terms[project] / 2;
                case FLAT:
                    return coins[project];
                default:
                    return Math.min(coins[project], COINS_OF_CAP * heads[project]);
            }
        }

        void share(int coinsThere) {
            if (allClaims <= coinsThere) {
                for (int project = 0; project < projects; project++) {
                    paid[project] = claims[project];
                }
                rest = coinsThere - allClaims;
                return;
            }
            int over = coinsThere;
            for (int project = 0; project < projects; project++) {
                paid[project] = claims[project] * coinsThere / allClaims;
                over -= paid[project];
            }
            for (int project = 0; project < projects && over > 0; project++) {
                if (claims[project] > 0) {
                    paid[project]++;
                    over--;
                }
            }
            rest = 0;
        }

        int allPaid() {
            int all = 0;
            for (int project = 0; project < projects; project++) {
                all += paid[project];
            }
            return all;
        }

        private void weigh(int giver, int sign) {
            if (!gives(giver)) {
                return;
            }
            joined[giver] = sign > 0;
            for (int project = 0; project < projects; project++) {
                int at = giver * MOST_PROJECTS + project;
                coins[project] += sign * sums[at];
                rootsTogether[project] += sign * roots[at];
                heads[project] += sums[at] > 0 ? sign : 0;
            }
            for (int other = 0; other < GIVERS; other++) {
                if (joined[other] && other != giver) {
                    weighPair(giver, other, sign);
                }
            }
        }

        private void weighPair(int a, int b, int sign) {
            int overlap = overlapOf(a, b);
            // two that share a project overlap by 1 at least, so all other pairs have no terms
            if (overlap == 0) {
                return;
            }
            for (int project = 0; project < projects; project++) {
                terms[project] += sign * termOf(a, b, project, overlap);
            }
        }
    }

    /** What is tried on the board alone; the fund stays as it is. */
    private static final class Foresight {
        static final int MOST_TURNS = 4;
        static final int CASES = 10;

        final Fund fund;
        final Board board;
        final Fund trial = new Fund();
        final int[] before = new int[MOST_PROJECTS];
        final int[] expected = new int[MOST_PROJECTS];

        Foresight(Fund fund, Board board) {
            this.fund = fund;
            this.board = board;
        }

        int paidWith(int giver, int project, int v, int of) {
            board.load(fund);
            board.add(fund.names[giver], project, v);
            board.settle();
            return board.paid[of];
        }

        int bestTarget(int giver, int v, int what) {
            int name = fund.names[giver];
            board.load(fund);
            board.settle();
            System.arraycopy(board.paid, 0, before, 0, MOST_PROJECTS);
            int target = 0;
            int most = 0;
            for (int project = 0; project < fund.projects; project++) {
                board.add(name, project, v);
                board.settle();
                board.add(name, project, -v);
                int raise = board.paid[project] - before[project];
                if (project == 0 || raise > most) {
                    target = project;
                    most = raise;
                }
            }
            return what == 0 ? target : most;
        }

        // coin by coin, as a claim may sink again when the overlap grows
        int leastCoins(int giver, int project, int goal) {
            int name = fund.names[giver];
            board.load(fund);
            for (int coins = 1; coins <= MOST_COINS; coins++) {
                board.add(name, project, 1);
                if (board.claimOf(project) >= goal) {
                    return coins;
                }
            }
            return NONE;
        }

        int mostMissed(int project, int what) {
            int missed = NONE;
            int least = NONE;
            board.load(fund);
            for (int giver = 0; giver < GIVERS; giver++) {
                if (!board.gives(giver)) {
                    continue;
                }
                board.leave(giver);
                board.settle();
                board.join(giver);
                if (missed == NONE || board.paid[project] < least) {
                    missed = giver;
                    least = board.paid[project];
                }
            }
            return what == 0 ? missed : least;
        }

        int likestRing(int what) {
            int lesser = NONE;
            int greater = NONE;
            int most = 0;
            board.lay(fund);
            for (int a = 0; a < GIVERS; a++) {
                for (int b = a + 1; b < GIVERS; b++) {
                    int overlap = board.overlapOf(a, b);
                    if (overlap > most) {
                        lesser = a;
                        greater = b;
                        most = overlap;
                    }
                }
            }
            if (most == 0) {
                return NONE;
            }
            if (what == 2) {
                return most;
            }
            return what == 0 ? lesser : greater;
        }

        int bestHalves(int giver, int n, int a, int b, int what) {
            int name = fund.names[giver];
            int fewest = 0;
            int most = 0;
            board.load(fund);
            board.add(name, b, n);
            for (int toA = 0; toA <= n; toA++) {
                board.settle();
                int together = board.paid[a] + (a == b ? 0 : board.paid[b]);
                if (toA == 0 || together > most) {
                    fewest = toA;
                    most = together;
                }
                if (toA < n) {
                    board.add(name, a, 1);
                    board.add(name, b, -1);
                }
            }
            return what == 0 ? fewest : most;
        }

        int setsPaid(int v, int what) {
            int many = 0;
            int inAny = 0;
            int inAll = (1 << fund.projects) - 1;
            board.load(fund);
            board.settle();
            for (int bits = 0; bits < 1 << fund.projects; bits++) {
                if (paidTogether(bits) == v) {
                    many++;
                    inAny |= bits;
                    inAll &= bits;
                }
            }
            if (what == 0) {
                return many;
            }
            if (what == 2) {
                return inAny;
            }
            return many == 0 ? 0 : inAll;
        }

        private int paidTogether(int bits) {
            int together = 0;
            for (int project = 0; project < fund.projects; project++) {
                together += (bits >> project & 1) * board.paid[project];
            }
            return together;
        }

        int outcomeOfTurns(int a, int b, int n, int v) {
            board.load(fund);
            return turnsFrom(fund.names[a], fund.names[b], n, v, true);
        }

        private int turnsFrom(int mover, int waiting, int left, int v, boolean wantsGreat) {
            int last = fund.projects - 1;
            if (left <= 0 || left > MOST_TURNS) {
                board.settle();
                return board.paid[0] - board.paid[last];
            }
            int idle = turnsFrom(waiting, mover, left - 1, v, !wantsGreat);
            board.add(mover, 0, v);
            int first = turnsFrom(waiting, mover, left - 1, v, !wantsGreat);
            board.add(mover, 0, -v);
            board.add(mover, last, v);
            int second = turnsFrom(waiting, mover, left - 1, v, !wantsGreat);
            board.add(mover, last, -v);
            return wantsGreat
                ? Math.max(idle, Math.max(first, second))
                : Math.min(idle, Math.min(first, second));
        }

        void expect(Rows rows, int row, int from) {
            for (int project = 0; project < fund.projects; project++) {
                expected[project] = rows.itemAt(row, from + project);
            }
        }

        private boolean isAsExpected() {
            for (int project = 0; project < fund.projects; project++) {
                if (board.paid[project] != expected[project]) {
                    return false;
                }
            }
            return true;
        }

        int fittingPots(boolean wantsLeast) {
            int many = 0;
            board.load(fund);
            board.settle();
            for (int pot = 0; pot <= MOST_POT; pot++) {
                board.share(pot);
                if (isAsExpected()) {
                    if (wantsLeast) {
                        return pot;
                    }
                    many++;
                }
            }
            return wantsLeast ? NONE : many;
        }

        int fittingKinds(int project) {
            int bits = 0;
            board.load(fund);
            for (int kind = OPEN; kind <= CAPPED; kind++) {
                board.kinds[project] = kind;
                board.settle();
                if (isAsExpected()) {
                    bits |= 1 << kind;
                }
            }
            return bits;
        }

        int fittingCoins(int gift, boolean wantsLeast) {
            int many = 0;
            int name = fund.names[fund.givers[gift]];
            int project = fund.targets[gift];
            board.load(fund);
            board.add(name, project, -fund.coins[gift]);
            for (int coins = 1; coins <= MOST_COINS; coins++) {
                board.add(name, project, 1);
                board.settle();
                if (isAsExpected()) {
                    if (wantsLeast) {
                        return coins;
                    }
                    many++;
                }
            }
            return wantsLeast ? NONE : many;
        }

        long chance(int project, int v, int p, int what) {
            board.load(fund);
            long above = casesPaid(0, project, v, p);
            long below = 1;
            for (int giver = 0; giver < GIVERS; giver++) {
                below *= board.gives(giver) ? CASES : 1;
            }
            long common = greatestCommon(above, below);
            if (common <= 0) {
                return NONE;
            }
            return (what == 0 ? above : below) / common;
        }

        // of CASES cases for each giver from this one on, those in which enough is paid
        private long casesPaid(int giver, int project, int v, int p) {
            if (giver >= GIVERS) {
                board.settle();
                return board.paid[project] >= v ? 1 : 0;
            }
            if (!board.gives(giver)) {
                return casesPaid(giver + 1, project, v, p);
            }
            long cases = 0;
            if (p < CASES) {
                cases += (CASES - p) * casesPaid(giver + 1, project, v, p);
            }
            if (p > 0) {
                board.leave(giver);
                cases += p * casesPaid(giver + 1, project, v, p);
                board.join(giver);
            }
            return cases;
        }

        private static long greatestCommon(long a, long b) {
            long greater = a;
            long lesser = b;
            // each two steps halve the numbers, which have fewer than 64 bits
            for (int step = 0; step < 128 && lesser != 0; step++) {
                long left = greater % lesser;
                greater = lesser;
                lesser = left;
            }
            return greater;
        }

        int years(int n, int seed, int what) {
            int all = 0;
            long x = seed;
            trial.becomeLike(fund);
            board.load(fund);
            board.settle();
            for (int i = 0; i < n; i++) {
                x = x * 16807 % 2147483647;
                redraw(x);
                board.settle();
                all += board.allPaid();
            }
            return what == 0 ? all : board.rest;
        }

        private void redraw(long x) {
            if (trial.gifts <= 0 || trial.projects <= 0) {
                return;
            }
            int gift = (int) (x % trial.gifts);
            board.add(trial.names[trial.givers[gift]], trial.targets[gift], -trial.coins[gift]);
            trial.givers[gift] = (int) (x / 32 % GIVERS);
            trial.targets[gift] = (int) (x / 512 % trial.projects);
            trial.coins[gift] = (int) (x / 4096 % MOST_COINS) + 1;
            board.add(trial.names[trial.givers[gift]], trial.targets[gift], trial.coins[gift]);
        }
    }

    /** The bodies of the asks, by kind, and the trace that they leave. */
    private static final class Asks {
        static final int MOST_TRACED = 16;
        // no ask goes through more than six bodies
        static final int DEEPEST = 12;
        private static final int[] SIZE_BODIES = {10, 11, 12, 0, 13, 14};
        private static final int[] MARK_BODIES = {20, 21, 24, 22, 23, 0};

        final Board board;
        final int[] numbers = new int[MOST_TRACED];
        int left;
        int asked;

        Asks(Board board) {
            this.board = board;
        }

        int answer(int project, int what) {
            left = 0;
            asked = project;
            return what == 0 ? size(0) : mark(0);
        }

        private int size(int deep) {
            return sizeBy(bodyFor(SIZE_BODIES), deep + 1);
        }

        private int mark(int deep) {
            return markBy(bodyFor(MARK_BODIES), deep + 1);
        }

        private int bodyFor(int[] bodies) {
            int kind = board.kinds[asked];
            for (int step = 0; step < KINDS && kind > 0; step++) {
                if (bodies[kind] != 0) {
                    return bodies[kind];
                }
                kind = KIND_ABOVE[kind];
            }
            return bodies[0];
        }

        private int sizeBy(int body, int deep) {
            if (deep > DEEPEST) {
                return 0;
            }
            leaveNumber(body);
            switch (body) {
                case 11:
                    return sizeBy(10, deep + 1) + mark(deep + 1);
                case 12:
                    return -sizeBy(11, deep + 1);
                case 13:
                    return sizeBy(10, deep + 1) - 100;
                case 14:
                    return 2 * sizeBy(13, deep + 1);
                default:
                    return board.coins[asked];
            }
        }

        private int markBy(int body, int deep) {
            if (deep > DEEPEST) {
                return 0;
            }
            leaveNumber(body);
            switch (body) {
                case 21:
                    return markBy(20, deep + 1) + board.heads[asked];
                case 22:
                    return markBy(21, deep + 1) - 1000;
                case 23:
                    return markBy(20, deep + 1) - size(deep + 1);
                case 24:
                    return 2 * markBy(21, deep + 1);
                default:
                    return asked;
            }
        }

        private void leaveNumber(int body) {
            if (left < MOST_TRACED) {
                numbers[left] = body;
                left++;
            }
        }
    }
}
