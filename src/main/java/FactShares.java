/**
 * Facts worked out in rounds by shares that workers take by turns. Whoever does a share, the facts
 * are the same: shares see the facts as they were ahead of the round, and are joined by number.
 *
 * <p>All rows are made once, by the constructor, so that no later call makes an object.
 */
public final class FactShares {
    public static final int NONE = -2000000, UNKNOWN = -2000001, OUTSIDE = -2000002, ROOM = -2000003;

    private static final int LEAST_END = -1000000, GREATEST_END = 1000000;
    private static final int FACT_COUNT = 10;
    private static final int MOST_SHARES = 10;
    private static final int MOST_ROUNDS = 10;
    private static final int MOST_WIDEN = 20;
    private static final int MOST_BUDGET = 10000;
    private static final int MOST_LOSE_TURN = 100000;

    /* What a round came to; these are also what run answers. */
    private static final int UNCHANGED = 0, CHANGED = 1, SPOILT = 2, CLOSED = 3, SPENT = 4;

    /* A round needs some thousands of turns at the very most: every worker's turn comes again soon. */
    private static final int TURN_GUARD = 1000000;

    private final Facts facts = new Facts();
    private final Share[] shares = new Share[MOST_SHARES];
    private final Line line = new Line();
    private final Crew crew = new Crew();
    private final Tally tally = new Tally();
    private int shareCount = 0;
    private int undone = 0;
    private int widenFrom = 3;
    private int budget = 1000;

    public FactShares() {
        for (int i = 0; i < MOST_SHARES; i++) {
            shares[i] = new Share();
        }
    }

    public int share(int aim) {
        if (!isFact(aim)) {
            return UNKNOWN;
        }
        if (shareCount >= MOST_SHARES) {
            return ROOM;
        }
        shares[shareCount].aim = aim;
        shareCount++;
        return shareCount - 1;
    }

    public int act(int share, int sort, int a, int b) {
        if (!isShare(share)) {
            return UNKNOWN;
        }
        if (sort < Bench.PUT || sort > Bench.TAKE) {
            return OUTSIDE;
        }
        if (sort == Bench.PUT && !(isEnd(a) && isEnd(b))) {
            return OUTSIDE;
        }
        return shares[share].addAct(sort, a, b) ? shares[share].actCount : ROOM;
    }

    public int fact(int f, int low, int high) {
        if (!isFact(f)) {
            return UNKNOWN;
        }
        if (!isEnd(low) || !isEnd(high) || low > high) {
            return OUTSIDE;
        }
        facts.put(f, low, high);
        return 1;
    }

    public int end(int f, int end) {
        if (!isFact(f)) {
            return UNKNOWN;
        }
        if (end < 0 || end > 1) {
            return OUTSIDE;
        }
        if (!facts.known[f]) {
            return NONE;
        }
        return end == 0 ? facts.low[f] : facts.high[f];
    }

    public int workers(int n) {
        if (n < 1 || n > Crew.MOST_WORKERS) {
            return OUTSIDE;
        }
        int before = crew.left;
        crew.hire(n);
        return before;
    }

    public int lose(int worker, int turn) {
        if (!crew.isHere(worker)) {
            return UNKNOWN;
        }
        if (turn < 1 || turn > MOST_LOSE_TURN) {
            return OUTSIDE;
        }
        crew.all[worker].loseFrom = turn;
        return 1;
    }

    public int seed(int x) {
        int before = crew.x;
        crew.x = x;
        return before;
    }

    public int set(int widen, int budget) {
        if (widen < 1 || widen > MOST_WIDEN || budget < 0 || budget > MOST_BUDGET) {
            return OUTSIDE;
        }
        int before = widenFrom;
        widenFrom = widen;
        this.budget = budget;
        return before;
    }

    public int run(int n) {
        if (n < 1 || n > MOST_ROUNDS) {
            return OUTSIDE;
        }
        tally.beginRun();
        int outcome = CHANGED;
        for (int round = 1; round <= n && outcome == CHANGED; round++) {
            outcome = playRound(round);
        }
        return outcome;
    }

    public int told(int what) {
        switch (what) {
            case 0: return tally.rounds;
            case 1: return tally.spoilt;
            case 2: return tally.refusal;
            case 3: return tally.acts;
            case 4: return tally.taken;
            case 5: return tally.left;
            case 6: return crew.turns;
            case 7: return crew.left;
            case 8: return shareCount;
            case 9: return crew.latest;
            default: return OUTSIDE;
        }
    }

    public int doer(int share) {
        return isShare(share) ? shares[share].doneBy : UNKNOWN;
    }

    public int clear() {
        crew.turns = 0;
        crew.x = 0;
        return facts.forgetAll();
    }

    private static boolean isFact(int f) {
        return f >= 0 && f < FACT_COUNT;
    }

    private static boolean isEnd(int end) {
        return end >= LEAST_END && end <= GREATEST_END;
    }

    private static int nearestEnd(int end) {
        if (end < LEAST_END) {
            return LEAST_END;
        }
        return end > GREATEST_END ? GREATEST_END : end;
    }

    private boolean isShare(int share) {
        return share >= 0 && share < shareCount;
    }

    private int playRound(int round) {
        beginRound();
        for (int i = 0; i < TURN_GUARD && undone > 0 && crew.left > 0; i++) {
            playTurn();
        }
        if (undone > 0) {
            return CLOSED;
        }
        int spoilt = leastSpoilt();
        if (spoilt != NONE) {
            tally.spoilt = spoilt;
            tally.refusal = shares[spoilt].refusal;
            return SPOILT;
        }
        int acts = tally.acts + actsOfAllShares();
        if (acts > budget) {
            return SPENT;
        }
        tally.acts = acts;
        tally.rounds++;
        return joinAnswers(round >= widenFrom) ? CHANGED : UNCHANGED;
    }

    private void beginRound() {
        line.fill(shares, shareCount);
        for (int i = 0; i < shareCount; i++) {
            shares[i].doneBy = NONE;
        }
        undone = shareCount;
    }

    private void playTurn() {
        Worker worker = crew.nextToMove();
        if (worker == null) {
            return;
        }
        if (worker.isToBeLost(crew.turns)) {
            loseNow(worker);
        } else if (worker.share == null) {
            takeShare(worker);
        } else {
            doNextAct(worker, worker.share);
        }
    }

    private void loseNow(Worker worker) {
        if (worker.share != null) {
            line.putInFront(worker.share);
            worker.share = null;
            tally.left++;
        }
        crew.remove(worker);
    }

    private void takeShare(Worker worker) {
        Share first = line.takeFirst();
        if (first == null) {
            return;
        }
        tally.taken++;
        worker.begin(first);
        if (first.actCount == 0) {
            finish(worker, first, Bench.FINE);
        }
    }

    private void doNextAct(Worker worker, Share share) {
        int i = worker.nextAct;
        if (i < 0 || i >= share.actCount) {
            return;
        }
        int refusal = worker.bench.doAct(share.sort[i], share.a[i], share.b[i], facts);
        worker.nextAct = i + 1;
        if (refusal != Bench.FINE || worker.nextAct >= share.actCount) {
            finish(worker, share, refusal);
        }
    }

    private void finish(Worker worker, Share share, int refusal) {
        share.refusal = refusal == Bench.FINE ? worker.bench.giveAnswer(share) : refusal;
        share.doneBy = worker.number;
        worker.share = null;
        tally.left++;
        undone--;
    }

    private int leastSpoilt() {
        for (int i = 0; i < shareCount; i++) {
            if (shares[i].refusal != Bench.FINE) {
                return i;
            }
        }
        return NONE;
    }

    private int actsOfAllShares() {
        int acts = 0;
        for (int i = 0; i < shareCount; i++) {
            acts += shares[i].actCount;
        }
        return acts;
    }

    /** Whether a fact was changed. */
    private boolean joinAnswers(boolean widens) {
        boolean changed = false;
        for (int i = 0; i < shareCount; i++) {
            if (facts.join(shares[i], widens)) {
                changed = true;
            }
        }
        return changed;
    }

    private static final class Facts {
        private static final int[] BOUNDS = {-1000000, -1000, -100, -10, 0, 10, 100, 1000, 1000000};

        final boolean[] known = new boolean[FACT_COUNT];
        final int[] low = new int[FACT_COUNT];
        final int[] high = new int[FACT_COUNT];

        void put(int f, int newLow, int newHigh) {
            if (!isFact(f)) {
                return;
            }
            known[f] = true;
            low[f] = newLow;
            high[f] = newHigh;
        }

        /** Whether the share's aim was changed by its answer. */
        boolean join(Share share, boolean widens) {
            int f = share.aim;
            if (!isFact(f)) {
                return false;
            }
            if (!known[f]) {
                put(f, share.answerLow, share.answerHigh);
                return true;
            }
            boolean lowMoves = share.answerLow < low[f];
            boolean highMoves = share.answerHigh > high[f];
            if (lowMoves) {
                low[f] = widens ? boundBelow(share.answerLow) : share.answerLow;
            }
            if (highMoves) {
                high[f] = widens ? boundAbove(share.answerHigh) : share.answerHigh;
            }
            return lowMoves || highMoves;
        }

        /** How many were known. */
        int forgetAll() {
            int count = 0;
            for (int f = 0; f < FACT_COUNT; f++) {
                if (known[f]) {
                    count++;
                    known[f] = false;
                }
            }
            return count;
        }

        /* An end that is a bound already has come to it: it stays. */
        private static int boundBelow(int end) {
            for (int i = BOUNDS.length - 1; i >= 0; i--) {
                if (BOUNDS[i] <= end) {
                    return BOUNDS[i];
                }
            }
            return LEAST_END;
        }

        private static int boundAbove(int end) {
            for (int i = 0; i < BOUNDS.length; i++) {
                if (BOUNDS[i] >= end) {
                    return BOUNDS[i];
                }
            }
            return GREATEST_END;
        }
    }

    /** What is to be done, and how it went in the latest round. */
    private static final class Share {
        static final int MOST_ACTS = 8;

        final int[] sort = new int[MOST_ACTS];
        final int[] a = new int[MOST_ACTS];
        final int[] b = new int[MOST_ACTS];
        int aim = 0;
        int actCount = 0;
        int doneBy = NONE;
        int refusal = Bench.FINE;
        int answerLow = 0;
        int answerHigh = 0;

        /** Whether there was room. */
        boolean addAct(int newSort, int newA, int newB) {
            if (actCount >= MOST_ACTS) {
                return false;
            }
            sort[actCount] = newSort;
            a[actCount] = newA;
            b[actCount] = newB;
            actCount++;
            return true;
        }
    }

    /** The shares of a round that nobody has. Only what was taken comes back, so there is room in front. */
    private static final class Line {
        private final Share[] waiting = new Share[MOST_SHARES];
        private int first = 0;
        private int behindLast = 0;

        void fill(Share[] shares, int count) {
            first = 0;
            behindLast = Math.min(count, Math.min(shares.length, MOST_SHARES));
            for (int i = 0; i < behindLast; i++) {
                waiting[i] = shares[i];
            }
        }

        Share takeFirst() {
            if (first >= behindLast) {
                return null;
            }
            first++;
            return waiting[first - 1];
        }

        void putInFront(Share share) {
            if (first > 0) {
                first--;
                waiting[first] = share;
            }
        }
    }

    /** The workers, and whose turn it is. */
    private static final class Crew {
        static final int MOST_WORKERS = 4;

        final Worker[] all = new Worker[MOST_WORKERS];
        int left = 0;
        int x = 0;
        int turns = 0;
        int latest = NONE;

        Crew() {
            for (int i = 0; i < MOST_WORKERS; i++) {
                all[i] = new Worker(i);
            }
            hire(1);
        }

        void hire(int n) {
            left = n;
            for (int i = 0; i < MOST_WORKERS; i++) {
                all[i].here = i < n;
                all[i].loseFrom = Worker.NEVER;
            }
        }

        boolean isHere(int worker) {
            return worker >= 0 && worker < MOST_WORKERS && all[worker].here;
        }

        void remove(Worker worker) {
            worker.here = false;
            left--;
        }

        /** Null if nobody is left: then there is no turn. */
        Worker nextToMove() {
            if (left <= 0) {
                return null;
            }
            x = x * 1103515245 + 12345;
            turns++;
            Worker worker = leftAt((x >>> 16) % left);
            if (worker != null) {
                latest = worker.number;
            }
            return worker;
        }

        private Worker leftAt(int place) {
            int ahead = 0;
            for (int i = 0; i < MOST_WORKERS; i++) {
                if (all[i].here) {
                    if (ahead == place) {
                        return all[i];
                    }
                    ahead++;
                }
            }
            return null;
        }
    }

    private static final class Worker {
        /* Turns are numbered from 1. */
        static final int NEVER = 0;

        final int number;
        final Bench bench = new Bench();
        boolean here = false;
        int loseFrom = NEVER;
        Share share = null;
        int nextAct = 0;

        Worker(int number) {
            this.number = number;
        }

        boolean isToBeLost(int turn) {
            return loseFrom != NEVER && turn >= loseFrom;
        }

        void begin(Share first) {
            share = first;
            nextAct = 0;
            bench.empty();
        }
    }

    /** The stack and the row on which one share is worked. */
    private static final class Bench {
        static final int PUT = 0, FACT = 1, ADD = 2, LESS = 3, MEET = 4, HULL = 5, BY = 6, POINT = 7, KEEP = 8, TAKE = 9;
        static final int FINE = 0, NOTHING = 1, INDEX = 2, ZERO = 3, CAST = 4, SIZE = 5;
        private static final int PLACES = 3;

        private final int[] low = new int[PLACES];
        private final int[] high = new int[PLACES];
        private int height = 0;
        private final boolean[] rowKnown = new boolean[PLACES];
        private final int[] rowLow = new int[PLACES];
        private final int[] rowHigh = new int[PLACES];

        void empty() {
            height = 0;
            for (int i = 0; i < PLACES; i++) {
                rowKnown[i] = false;
            }
        }

        /** What the machine refused, or FINE; behind a refusal the bench is not used again until it is emptied. */
        int doAct(int sort, int a, int b, Facts facts) {
            switch (sort) {
                case PUT: return b < a ? SIZE : push(a, b);
                case FACT: return pushFact(a, facts);
                case ADD:
                case LESS:
                case MEET:
                case HULL: return joinUpperTwo(sort);
                case BY: return divideUpper(a);
                case POINT: return testPoint();
                case KEEP: return keepUpper(a);
                default: return takeItem(a);
            }
        }

        /** INDEX if there is no upper one, else FINE, and the share has it as its answer. */
        int giveAnswer(Share share) {
            if (height < 1) {
                return INDEX;
            }
            share.answerLow = low[height - 1];
            share.answerHigh = high[height - 1];
            return FINE;
        }

        private int push(int newLow, int newHigh) {
            if (height >= PLACES) {
                return INDEX;
            }
            low[height] = newLow;
            high[height] = newHigh;
            height++;
            return FINE;
        }

        private int pushFact(int f, Facts facts) {
            if (!isFact(f)) {
                return INDEX;
            }
            return facts.known[f] ? push(facts.low[f], facts.high[f]) : NOTHING;
        }

        private int joinUpperTwo(int sort) {
            if (height < 2) {
                return INDEX;
            }
            int x = height - 2;
            int y = height - 1;
            height = x;
            switch (sort) {
                case ADD: return push(nearestEnd(low[x] + low[y]), nearestEnd(high[x] + high[y]));
                case LESS: return push(nearestEnd(low[x] - high[y]), nearestEnd(high[x] - low[y]));
                case MEET:
                    if (low[x] > high[y] || low[y] > high[x]) {
                        return SIZE;
                    }
                    return push(Math.max(low[x], low[y]), Math.min(high[x], high[y]));
                default: return push(Math.min(low[x], low[y]), Math.max(high[x], high[y]));
            }
        }

        private int divideUpper(int by) {
            if (height < 1) {
                return INDEX;
            }
            if (by == 0) {
                return ZERO;
            }
            int top = height - 1;
            int fromLow = low[top] / by;
            int fromHigh = high[top] / by;
            low[top] = Math.min(fromLow, fromHigh);
            high[top] = Math.max(fromLow, fromHigh);
            return FINE;
        }

        private int testPoint() {
            if (height < 1) {
                return INDEX;
            }
            return low[height - 1] == high[height - 1] ? FINE : CAST;
        }

        private int keepUpper(int item) {
            if (height < 1 || !isItem(item)) {
                return INDEX;
            }
            height--;
            rowKnown[item] = true;
            rowLow[item] = low[height];
            rowHigh[item] = high[height];
            return FINE;
        }

        private int takeItem(int item) {
            if (!isItem(item)) {
                return INDEX;
            }
            return rowKnown[item] ? push(rowLow[item], rowHigh[item]) : NOTHING;
        }

        private static boolean isItem(int item) {
            return item >= 0 && item < PLACES;
        }
    }

    /** What is told of the latest run. */
    private static final class Tally {
        int rounds = 0;
        int spoilt = NONE;
        int refusal = Bench.FINE;
        int acts = 0;
        int taken = 0;
        int left = 0;

        void beginRun() {
            rounds = 0;
            spoilt = NONE;
            refusal = Bench.FINE;
            acts = 0;
            taken = 0;
            left = 0;
        }
    }
}
