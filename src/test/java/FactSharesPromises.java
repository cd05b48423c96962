/** Hand-worked runs of calls, a method (or more) for each promise of the document. */
public final class FactSharesPromises {
    private static final int NONE = FactShares.NONE;
    private static final int UNKNOWN = FactShares.UNKNOWN;
    private static final int OUTSIDE = FactShares.OUTSIDE;
    private static final int ROOM = FactShares.ROOM;
    private static final int MIN = Integer.MIN_VALUE;
    private static final int MAX = Integer.MAX_VALUE;

    private static final int PUT = 0, FACT = 1, ADD = 2, LESS = 3, MEET = 4, HULL = 5, BY = 6, POINT = 7, KEEP = 8, TAKE = 9;
    private static final int NOTHING = 1, INDEX = 2, ZERO = 3, CAST = 4, SIZE = 5;

    private static int wrong = 0;
    private static int promise = 0;

    private static void due(String call, int got, int want) {
        if (got != want) {
            wrong++;
            System.out.println("promise " + promise + ": " + call + " answered " + got + ", due is " + want);
        }
    }

    public static void main(String[] args) {
        promise = 1;
        newObject();
        promise = 2;
        shares();
        promise = 3;
        actsAreTaken();
        actsOfOneUpper();
        actsOfTwo();
        actsOfTheRow();
        refusals();
        eachShareBeginsEmpty();
        severalRefusals();
        promise = 4;
        factsAreSet();
        promise = 5;
        ends();
        promise = 6;
        workersCome();
        promise = 7;
        workersAreLost();
        lostShareStandsInFront();
        lostShareBeginsAnew();
        workersComeAgain();
        loseEdges();
        promise = 8;
        seeds();
        promise = 9;
        settings();
        promise = 10;
        runsOfRounds();
        factsAsAheadOfTheRound();
        widening();
        wideningToEachBound();
        closedRuns();
        spentRuns();
        spoiltRuns();
        promise = 11;
        toldOfRuns();
        turnsWithoutShare();
        promise = 12;
        doers();
        promise = 13;
        clearing();
        System.out.println(wrong == 0 ? "all answers are as due" : wrong + " answers are not as due");
        if (wrong != 0) {
            System.exit(1);
        }
    }

    /** A new share with the acts told as sort, a, b one behind the other. */
    private static int shareOf(FactShares x, int aim, int... acts) {
        int number = x.share(aim);
        for (int i = 0; i < acts.length; i += 3) {
            due("act " + i / 3, x.act(number, acts[i], acts[i + 1], acts[i + 2]), i / 3 + 1);
        }
        return number;
    }

    private static void factIs(FactShares x, int f, int low, int high) {
        due("end(" + f + ", 0)", x.end(f, 0), low);
        due("end(" + f + ", 1)", x.end(f, 1), high);
    }

    /** Share 0 of a new object, with fact 0 at -7 .. 9 and fact 1 at 4 .. 4, aims at fact 9. */
    private static FactShares oneShare(int... acts) {
        FactShares x = new FactShares();
        x.fact(0, -7, 9);
        x.fact(1, 4, 4);
        shareOf(x, 9, acts);
        return x;
    }

    private static void answerIs(int low, int high, int... acts) {
        FactShares x = oneShare(acts);
        due("run(1)", x.run(1), 1);
        factIs(x, 9, low, high);
    }

    private static void refusalIs(int refusal, int turns, int... acts) {
        FactShares x = oneShare(acts);
        due("run(1)", x.run(1), 2);
        due("told(1)", x.told(1), 0);
        due("told(2)", x.told(2), refusal);
        due("told(6)", x.told(6), turns);
        due("end(9, 0)", x.end(9, 0), NONE);
    }

    private static void newObject() {
        FactShares x = new FactShares();
        for (int f = 0; f < 10; f++) {
            factIs(x, f, NONE, NONE);
        }
        int[] told = {0, NONE, 0, 0, 0, 0, 0, 1, 0, NONE};
        for (int what = 0; what < told.length; what++) {
            due("told(" + what + ")", x.told(what), told[what]);
        }
        due("doer(0)", x.doer(0), UNKNOWN);
        due("seed(0)", x.seed(0), 0);
        due("workers(1)", x.workers(1), 1);
        due("set(3, 1000)", x.set(3, 1000), 3);
        due("clear()", x.clear(), 0);
        budgetOfNewObject(8);
    }

    /** 80 acts in each of ten rounds are fewer than 1000: only a lesser budget is ever spent. */
    private static void budgetOfNewObject(int acts) {
        FactShares x = new FactShares();
        x.fact(0, 0, 0);
        for (int s = 0; s < 10; s++) {
            int number = shareOf(x, 0, FACT, 0, 0, PUT, 1, 1, ADD, 0, 0);
            for (int i = 3; i < acts; i++) {
                x.act(number, BY, 1, 0);
            }
        }
        x.set(20, 1000);
        due("run(10)", x.run(10), 1);
        due("told(3)", x.told(3), 800);
        x.set(20, 799);
        due("run(10)", x.run(10), 4);
        due("told(3)", x.told(3), 720);
    }

    private static void shares() {
        FactShares x = new FactShares();
        due("share(-1)", x.share(-1), UNKNOWN);
        due("share(10)", x.share(10), UNKNOWN);
        due("share(MIN)", x.share(MIN), UNKNOWN);
        due("share(MAX)", x.share(MAX), UNKNOWN);
        due("told(8)", x.told(8), 0);
        for (int i = 0; i < 10; i++) {
            due("share", x.share(9 - i), i);
            due("told(8)", x.told(8), i + 1);
        }
        due("share(0)", x.share(0), ROOM);
        due("share(10)", x.share(10), UNKNOWN);
        due("told(8)", x.told(8), 10);
        for (int i = 0; i < 10; i++) {
            due("act", x.act(i, PUT, i, i), 1);
        }
        due("run(1)", x.run(1), 1);
        for (int i = 0; i < 10; i++) {
            factIs(x, 9 - i, i, i);
        }
    }

    private static void actsAreTaken() {
        FactShares x = new FactShares();
        due("act(0, 0, 0, 0)", x.act(0, PUT, 0, 0), UNKNOWN);
        due("act(0, 10, 0, 0)", x.act(0, 10, 0, 0), UNKNOWN);
        x.share(0);
        due("act(-1, 0, 0, 0)", x.act(-1, PUT, 0, 0), UNKNOWN);
        due("act(1, -1, 0, 0)", x.act(1, -1, 0, 0), UNKNOWN);
        due("act(MAX, 0, 0, 0)", x.act(MAX, 0, 0, 0), UNKNOWN);
        due("act(MIN, 0, 0, 0)", x.act(MIN, 0, 0, 0), UNKNOWN);
        due("act(0, -1, 0, 0)", x.act(0, -1, 0, 0), OUTSIDE);
        due("act(0, 10, 0, 0)", x.act(0, 10, 0, 0), OUTSIDE);
        due("act(0, MIN, 0, 0)", x.act(0, MIN, 0, 0), OUTSIDE);
        due("act(0, 0, 1000001, 0)", x.act(0, PUT, 1000001, 0), OUTSIDE);
        due("act(0, 0, -1000001, 0)", x.act(0, PUT, -1000001, 0), OUTSIDE);
        due("act(0, 0, 0, 1000001)", x.act(0, PUT, 0, 1000001), OUTSIDE);
        due("act(0, 0, 0, -1000001)", x.act(0, PUT, 0, -1000001), OUTSIDE);
        due("act(0, 0, -1000000, 1000000)", x.act(0, PUT, -1000000, 1000000), 1);
        due("act(0, 0, 1000000, -1000000)", x.act(0, PUT, 1000000, -1000000), 2);
        for (int sort = 1; sort <= 6; sort++) {
            due("act(0, " + sort + ", MIN, MAX)", x.act(0, sort, MIN, MAX), sort + 2);
        }
        for (int sort = 0; sort <= 9; sort++) {
            due("act(0, " + sort + ", 0, 0)", x.act(0, sort, 0, 0), ROOM);
        }
        due("act(0, 10, 0, 0)", x.act(0, 10, 0, 0), OUTSIDE);
        due("act(0, 0, 0, 1000001)", x.act(0, PUT, 0, 1000001), OUTSIDE);
        x.share(0);
        for (int i = 1; i <= 3; i++) {
            due("act(1, " + (6 + i) + ", MAX, MIN)", x.act(1, 6 + i, MAX, MIN), i);
        }
    }

    private static void actsOfOneUpper() {
        answerIs(-3, 5, PUT, -3, 5);
        answerIs(-1000000, 1000000, PUT, -1000000, 1000000);
        answerIs(-7, 9, FACT, 0, 77);
        answerIs(4, 4, FACT, 0, 0, FACT, 1, 0);
        answerIs(-2, 3, FACT, 0, 0, BY, 3, 0);
        answerIs(-3, 2, FACT, 0, 0, BY, -3, 0);
        answerIs(0, 0, FACT, 0, 0, BY, 10, 0);
        answerIs(0, 0, FACT, 0, 0, BY, MIN, 0);
        answerIs(-9, 7, FACT, 0, 0, BY, -1, 0);
        answerIs(-1, 0, PUT, -1000000, 999999, BY, 1000000, 0);
        answerIs(4, 4, FACT, 1, 0, POINT, 9, 9);
    }

    private static void actsOfTwo() {
        answerIs(-3, 14, FACT, 0, 0, PUT, 4, 5, ADD, 0, 0);
        answerIs(-12, 5, FACT, 0, 0, PUT, 4, 5, LESS, 0, 0);
        answerIs(-5, 12, PUT, 4, 5, FACT, 0, 0, LESS, 0, 0);
        answerIs(4, 9, FACT, 0, 0, PUT, 4, 15, MEET, 0, 0);
        answerIs(-7, -7, FACT, 0, 0, PUT, -20, -7, MEET, 0, 0);
        answerIs(9, 9, FACT, 0, 0, PUT, 9, 20, MEET, 0, 0);
        answerIs(5, 6, PUT, 5, 6, FACT, 0, 0, MEET, 0, 0);
        answerIs(-7, 30, FACT, 0, 0, PUT, 20, 30, HULL, 0, 0);
        answerIs(-30, 9, FACT, 0, 0, PUT, -30, -20, HULL, 0, 0);
        answerIs(-7, 9, FACT, 0, 0, PUT, 1, 2, HULL, 0, 0);
        answerIs(999999, 1000000, PUT, 999998, 999999, PUT, 1, 2, ADD, 0, 0);
        answerIs(-1000000, -999999, PUT, -999998, -999997, PUT, -3, -2, ADD, 0, 0);
        answerIs(-1000000, 1000000, PUT, -600000, 600000, PUT, -600000, 600000, LESS, 0, 0);
        answerIs(1000000, 1000000, PUT, 1000000, 1000000, PUT, 1000000, 1000000, ADD, 0, 0);
        // The one below the two stays, and there is room again for two.
        answerIs(111, 111, PUT, 100, 100, PUT, 10, 10, PUT, 1, 1, ADD, 0, 0, ADD, 0, 0);
        answerIs(6, 6, PUT, 1, 1, PUT, 2, 2, PUT, 3, 3, ADD, 0, 0, PUT, 1, 1, ADD, 0, 0);
    }

    private static void actsOfTheRow() {
        answerIs(1, 2, PUT, 1, 2, KEEP, 2, 0, PUT, 5, 5, TAKE, 2, 0);
        answerIs(1, 2, PUT, 5, 5, PUT, 1, 2, KEEP, 0, 0, TAKE, 0, 0);
        answerIs(2, 4, PUT, 1, 2, KEEP, 0, 0, TAKE, 0, 0, TAKE, 0, 0, ADD, 0, 0);
        answerIs(8, 8, PUT, 3, 3, KEEP, 1, 0, PUT, 8, 8, KEEP, 1, 0, TAKE, 1, 0);
        answerIs(5, 5, PUT, 5, 5, PUT, 1, 2, KEEP, 2, 0);
        answerIs(-3, -3, PUT, 7, 7, KEEP, 0, 0, PUT, 4, 4, KEEP, 1, 0, TAKE, 1, 0, TAKE, 0, 0, LESS, 0, 0);
    }

    private static void refusals() {
        refusalIs(NOTHING, 2, FACT, 2, 0);
        refusalIs(NOTHING, 2, TAKE, 0, 0);
        refusalIs(NOTHING, 4, PUT, 1, 1, KEEP, 0, 0, TAKE, 1, 0);
        refusalIs(INDEX, 2, FACT, 10, 0);
        refusalIs(INDEX, 2, FACT, -1, 0);
        refusalIs(INDEX, 2, FACT, MAX, 0);
        refusalIs(INDEX, 2, FACT, MIN, 0);
        refusalIs(INDEX, 2, TAKE, 3, 0);
        refusalIs(INDEX, 2, TAKE, -1, 0);
        refusalIs(INDEX, 3, PUT, 1, 1, KEEP, 3, 0);
        refusalIs(INDEX, 3, PUT, 1, 1, KEEP, -1, 0);
        refusalIs(INDEX, 3, PUT, 1, 1, KEEP, MIN, 0);
        for (int sort = ADD; sort <= KEEP; sort++) {
            refusalIs(INDEX, 2, sort, 1, 0);
        }
        for (int sort = ADD; sort <= HULL; sort++) {
            refusalIs(INDEX, 3, PUT, 1, 1, sort, 1, 0);
        }
        refusalIs(INDEX, 5, PUT, 1, 1, PUT, 1, 1, PUT, 1, 1, PUT, 1, 1);
        refusalIs(INDEX, 5, PUT, 1, 1, PUT, 1, 1, PUT, 1, 1, FACT, 0, 0);
        refusalIs(INDEX, 7, PUT, 1, 1, KEEP, 0, 0, PUT, 1, 1, PUT, 1, 1, PUT, 1, 1, TAKE, 0, 0);
        refusalIs(INDEX, 3, PUT, 1, 1, KEEP, 0, 0);
        refusalIs(INDEX, 1);
        refusalIs(ZERO, 3, PUT, 1, 1, BY, 0, 0);
        refusalIs(CAST, 3, PUT, 1, 2, POINT, 0, 0);
        refusalIs(SIZE, 2, PUT, 2, 1);
        refusalIs(SIZE, 4, PUT, 1, 2, PUT, 3, 4, MEET, 0, 0);
        refusalIs(SIZE, 4, PUT, 3, 4, PUT, 1, 2, MEET, 0, 0);
        // What stands behind the refused act is not done.
        refusalIs(ZERO, 3, PUT, 1, 1, BY, 0, 0, PUT, 2, 1, PUT, 1, 1);
    }

    /** The stack and the row of the share before are not there any more. */
    private static void eachShareBeginsEmpty() {
        FactShares x = new FactShares();
        shareOf(x, 0, PUT, 1, 1, PUT, 2, 2, KEEP, 0, 0);
        shareOf(x, 1, TAKE, 0, 0);
        due("run(1)", x.run(1), 2);
        due("told(1)", x.told(1), 1);
        due("told(2)", x.told(2), NOTHING);
        x = new FactShares();
        shareOf(x, 0, PUT, 1, 1, PUT, 2, 2);
        shareOf(x, 1, BY, 1, 0);
        due("run(1)", x.run(1), 2);
        due("told(1)", x.told(1), 1);
        due("told(2)", x.told(2), INDEX);
    }

    private static void severalRefusals() {
        refusalIs(INDEX, 2, BY, 0, 0);
        refusalIs(SIZE, 5, PUT, 1, 1, PUT, 1, 1, PUT, 1, 1, PUT, 2, 1);
        refusalIs(NOTHING, 5, PUT, 1, 1, PUT, 1, 1, PUT, 1, 1, FACT, 2, 0);
        refusalIs(NOTHING, 5, PUT, 1, 1, PUT, 1, 1, PUT, 1, 1, TAKE, 2, 0);
    }

    private static void factsAreSet() {
        FactShares x = new FactShares();
        due("fact(0, -1000000, 1000000)", x.fact(0, -1000000, 1000000), 1);
        factIs(x, 0, -1000000, 1000000);
        due("fact(9, 5, 5)", x.fact(9, 5, 5), 1);
        factIs(x, 9, 5, 5);
        due("fact(0, 3, 4)", x.fact(0, 3, 4), 1);
        factIs(x, 0, 3, 4);
        due("fact(-1, 0, 0)", x.fact(-1, 0, 0), UNKNOWN);
        due("fact(10, 1, 0)", x.fact(10, 1, 0), UNKNOWN);
        due("fact(MIN, 0, 0)", x.fact(MIN, 0, 0), UNKNOWN);
        due("fact(0, 1, 0)", x.fact(0, 1, 0), OUTSIDE);
        due("fact(0, -1000001, 0)", x.fact(0, -1000001, 0), OUTSIDE);
        due("fact(0, 0, 1000001)", x.fact(0, 0, 1000001), OUTSIDE);
        due("fact(0, 1000001, 1000001)", x.fact(0, 1000001, 1000001), OUTSIDE);
        due("fact(0, -1000001, -1000001)", x.fact(0, -1000001, -1000001), OUTSIDE);
        due("fact(0, MIN, MAX)", x.fact(0, MIN, MAX), OUTSIDE);
        factIs(x, 0, 3, 4);
        factIs(x, 1, NONE, NONE);
    }

    private static void ends() {
        FactShares x = new FactShares();
        x.fact(3, -4, 6);
        factIs(x, 3, -4, 6);
        factIs(x, 2, NONE, NONE);
        due("end(-1, 0)", x.end(-1, 0), UNKNOWN);
        due("end(10, 5)", x.end(10, 5), UNKNOWN);
        due("end(MAX, 0)", x.end(MAX, 0), UNKNOWN);
        due("end(3, -1)", x.end(3, -1), OUTSIDE);
        due("end(3, 2)", x.end(3, 2), OUTSIDE);
        due("end(2, 2)", x.end(2, 2), OUTSIDE);
        due("end(3, MIN)", x.end(3, MIN), OUTSIDE);
    }

    private static void workersCome() {
        FactShares x = new FactShares();
        due("workers(4)", x.workers(4), 1);
        due("told(7)", x.told(7), 4);
        due("workers(0)", x.workers(0), OUTSIDE);
        due("workers(5)", x.workers(5), OUTSIDE);
        due("workers(-1)", x.workers(-1), OUTSIDE);
        due("workers(MIN)", x.workers(MIN), OUTSIDE);
        due("workers(MAX)", x.workers(MAX), OUTSIDE);
        due("told(7)", x.told(7), 4);
        due("lose(3, 1)", x.lose(3, 1), 1);
        due("workers(2)", x.workers(2), 4);
        due("lose(2, 1)", x.lose(2, 1), UNKNOWN);
        due("lose(0, 1)", x.lose(0, 1), 1);
        due("workers(1)", x.workers(1), 2);
        // Worker 0 was to be lost: nobody is, now.
        shareOf(x, 0, PUT, 1, 1);
        due("run(1)", x.run(1), 1);
        due("told(7)", x.told(7), 1);
    }

    /** Turns of two workers from x = 0: 0 0 0 1 0 1 1 1 0. */
    private static FactShares twoAtThree() {
        FactShares x = new FactShares();
        x.workers(2);
        shareOf(x, 0, PUT, 1, 2);
        shareOf(x, 1, PUT, 3, 4, PUT, 5, 5);
        shareOf(x, 2, PUT, 7, 7);
        return x;
    }

    private static void workersAreLost() {
        FactShares x = twoAtThree();
        due("lose(0, 5)", x.lose(0, 5), 1);
        due("told(7)", x.told(7), 2);
        due("run(1)", x.run(1), 1);
        due("told(4)", x.told(4), 4);
        due("told(5)", x.told(5), 4);
        due("told(6)", x.told(6), 9);
        due("told(7)", x.told(7), 1);
        due("told(9)", x.told(9), 1);
        due("doer(0)", x.doer(0), 0);
        due("doer(1)", x.doer(1), 1);
        due("doer(2)", x.doer(2), 1);
        factIs(x, 0, 1, 2);
        factIs(x, 1, 5, 5);
        factIs(x, 2, 7, 7);
        due("lose(0, 1)", x.lose(0, 1), UNKNOWN);
        due("workers(3)", x.workers(3), 1);
        due("lose(0, 1)", x.lose(0, 1), 1);
    }

    /** Turns of three from x = 0: 0 2 0; then of workers 1 and 2: 2 1 2 2 2 1 1 2 1 2. */
    private static void lostShareStandsInFront() {
        FactShares x = new FactShares();
        x.workers(3);
        shareOf(x, 0, PUT, 1, 1);
        shareOf(x, 1, PUT, 1, 1, PUT, 2, 2);
        shareOf(x, 2, PUT, 1, 1, PUT, 2, 2, PUT, 3, 3);
        x.lose(0, 3);
        due("run(1)", x.run(1), 1);
        due("doer(0)", x.doer(0), 1);
        due("doer(1)", x.doer(1), 2);
        due("doer(2)", x.doer(2), 2);
        due("told(4)", x.told(4), 4);
        due("told(5)", x.told(5), 4);
        due("told(6)", x.told(6), 13);
        due("told(7)", x.told(7), 2);
        due("told(9)", x.told(9), 2);
    }

    /** Turns of two from x = 0: 0 0 0, the third of which loses worker 0 behind one act; then 1 alone. */
    private static void lostShareBeginsAnew() {
        FactShares x = new FactShares();
        x.workers(2);
        shareOf(x, 0, PUT, 1, 1, PUT, 2, 2, PUT, 3, 3);
        x.lose(0, 3);
        due("run(1)", x.run(1), 1);
        due("told(3)", x.told(3), 3);
        due("told(6)", x.told(6), 7);
        factIs(x, 0, 3, 3);
    }

    /** A worker that comes again has nothing of the share that it was lost with. */
    private static void workersComeAgain() {
        FactShares x = new FactShares();
        shareOf(x, 0, PUT, 1, 1, PUT, 2, 2);
        x.lose(0, 3);
        due("run(1)", x.run(1), 3);
        due("workers(1)", x.workers(1), 0);
        due("run(1)", x.run(1), 1);
        due("told(4)", x.told(4), 1);
        due("told(5)", x.told(5), 1);
        due("told(6)", x.told(6), 6);
    }

    private static void loseEdges() {
        FactShares x = new FactShares();
        due("lose(1, 5)", x.lose(1, 5), UNKNOWN);
        due("lose(-1, 5)", x.lose(-1, 5), UNKNOWN);
        due("lose(4, 0)", x.lose(4, 0), UNKNOWN);
        due("lose(MIN, 0)", x.lose(MIN, 0), UNKNOWN);
        due("lose(MAX, 1)", x.lose(MAX, 1), UNKNOWN);
        due("lose(0, 0)", x.lose(0, 0), OUTSIDE);
        due("lose(0, -1)", x.lose(0, -1), OUTSIDE);
        due("lose(0, 100001)", x.lose(0, 100001), OUTSIDE);
        due("lose(0, 100000)", x.lose(0, 100000), 1);
        shareOf(x, 0, PUT, 1, 1);
        due("run(1)", x.run(1), 1);
        due("told(7)", x.told(7), 1);
        // The number is past: the next turn of its own is the first from it on.
        due("lose(0, 1)", x.lose(0, 1), 1);
        due("run(1)", x.run(1), 3);
        due("told(4)", x.told(4), 0);
        due("told(5)", x.told(5), 0);
        due("told(6)", x.told(6), 3);
        due("told(7)", x.told(7), 0);
        due("lose(0, 1)", x.lose(0, 1), UNKNOWN);
        due("lose(0, 0)", x.lose(0, 0), UNKNOWN);
        due("workers(1)", x.workers(1), 0);
        // The latest word counts.
        x.lose(0, 4);
        x.lose(0, 50);
        due("run(1)", x.run(1), 0);
    }

    private static void seeds() {
        FactShares x = new FactShares();
        due("seed(MAX)", x.seed(MAX), 0);
        due("seed(MIN)", x.seed(MIN), MAX);
        due("seed(0)", x.seed(0), MIN);
        shareOf(x, 0, PUT, 1, 1);
        x.run(1);
        due("seed(0)", x.seed(0), -740551042);
        due("seed(0)", x.seed(0), 0);
        // From -740551042 on the turns of four are 0 1 2 3 1 1 2 2 1 0.
        x = new FactShares();
        x.workers(4);
        x.seed(-740551042);
        for (int i = 0; i < 4; i++) {
            shareOf(x, i, PUT, 1, 1);
        }
        due("run(1)", x.run(1), 1);
        due("doer(0)", x.doer(0), 0);
        due("doer(1)", x.doer(1), 1);
        due("doer(2)", x.doer(2), 2);
        due("doer(3)", x.doer(3), 3);
        due("told(6)", x.told(6), 11);
        due("told(9)", x.told(9), 3);
    }

    private static void settings() {
        FactShares x = new FactShares();
        due("set(20, 10000)", x.set(20, 10000), 3);
        due("set(1, 0)", x.set(1, 0), 20);
        due("set(0, 5)", x.set(0, 5), OUTSIDE);
        due("set(21, 5)", x.set(21, 5), OUTSIDE);
        due("set(5, -1)", x.set(5, -1), OUTSIDE);
        due("set(5, 10001)", x.set(5, 10001), OUTSIDE);
        due("set(MIN, MAX)", x.set(MIN, MAX), OUTSIDE);
        shareOf(x, 0, PUT, 1, 1);
        due("run(1)", x.run(1), 4);
        due("set(2, 1)", x.set(2, 1), 1);
        due("run(1)", x.run(1), 1);
    }

    /** Fact 0 grows upward by one in each round. */
    private static FactShares counting() {
        FactShares x = new FactShares();
        x.fact(0, 0, 0);
        shareOf(x, 0, FACT, 0, 0, PUT, 1, 1, ADD, 0, 0);
        return x;
    }

    private static void runsOfRounds() {
        FactShares x = counting();
        due("run(0)", x.run(0), OUTSIDE);
        due("run(11)", x.run(11), OUTSIDE);
        due("run(-1)", x.run(-1), OUTSIDE);
        due("run(MAX)", x.run(MAX), OUTSIDE);
        due("told(6)", x.told(6), 0);
        x.set(20, 1000);
        due("run(1)", x.run(1), 1);
        factIs(x, 0, 0, 1);
        due("run(10)", x.run(10), 1);
        factIs(x, 0, 0, 11);
        due("told(0)", x.told(0), 10);
        due("told(3)", x.told(3), 30);
        due("told(6)", x.told(6), 44);
        due("run(11)", x.run(11), OUTSIDE);
        due("told(0)", x.told(0), 10);
        // A round that changes nothing ends the run, and counts.
        x = new FactShares();
        shareOf(x, 4, PUT, 1, 3);
        due("run(5)", x.run(5), 0);
        due("told(0)", x.told(0), 2);
        due("told(3)", x.told(3), 2);
        due("run(1)", x.run(1), 0);
        due("told(0)", x.told(0), 1);
        x.fact(4, 0, 9);
        due("run(1)", x.run(1), 0);
        factIs(x, 4, 0, 9);
        x.fact(4, 2, 2);
        due("run(2)", x.run(2), 0);
        factIs(x, 4, 1, 3);
        due("told(0)", x.told(0), 2);
    }

    private static void factsAsAheadOfTheRound() {
        FactShares x = new FactShares();
        x.fact(0, 1, 1);
        x.fact(1, 5, 5);
        shareOf(x, 1, FACT, 0, 0);
        shareOf(x, 0, FACT, 1, 0);
        due("run(1)", x.run(1), 1);
        factIs(x, 0, 1, 5);
        factIs(x, 1, 1, 5);
        // Share 1 is not helped by what share 0 finds in the same round.
        x = new FactShares();
        shareOf(x, 0, PUT, 1, 1);
        shareOf(x, 1, FACT, 0, 0);
        due("run(1)", x.run(1), 2);
        due("told(1)", x.told(1), 1);
        due("told(2)", x.told(2), NOTHING);
        factIs(x, 0, NONE, NONE);
    }

    private static void widening() {
        FactShares x = counting();
        due("run(2)", x.run(2), 1);
        factIs(x, 0, 0, 2);
        x.fact(0, 0, 0);
        due("run(3)", x.run(3), 1);
        factIs(x, 0, 0, 10);
        x.fact(0, 0, 0);
        due("run(4)", x.run(4), 1);
        factIs(x, 0, 0, 100);
        x.fact(0, 0, 0);
        due("run(10)", x.run(10), 0);
        factIs(x, 0, 0, 1000000);
        due("told(0)", x.told(0), 7);
        // What was nothing becomes the answer as it is; what is moved behind that is widened, by shares.
        x = new FactShares();
        x.set(1, 1000);
        shareOf(x, 0, PUT, 3, 3);
        shareOf(x, 0, PUT, 5, 5);
        shareOf(x, 0, PUT, 9, 9);
        shareOf(x, 1, PUT, 7, 8);
        due("run(1)", x.run(1), 1);
        factIs(x, 0, 3, 10);
        factIs(x, 1, 7, 8);
        x.clear();
        x.set(2, 1000);
        due("run(2)", x.run(2), 0);
        factIs(x, 0, 3, 9);
    }

    private static void wideningToEachBound() {
        widensTo(-7, 0, -7, 5, 10);
        widensTo(-7, 0, -8, 0, -10);
        widensTo(4, 6, 3, 5, 0);
        widensTo(-9, -5, -9, -4, 0);
        widensTo(4, 6, 5, 10, 10);
        widensTo(4, 6, 0, 5, 0);
        widensTo(4, 6, 5, 11, 100);
        widensTo(4, 6, 5, 101, 1000);
        widensTo(4, 6, 5, 1001, 1000000);
        widensTo(4, 6, -10, 5, -10);
        widensTo(4, 6, -11, 5, -100);
        widensTo(4, 6, -101, 5, -1000);
        widensTo(4, 6, -1001, 5, -1000000);
        widensTo(4, 6, -1000000, 5, -1000000);
        widensTo(4, 6, 5, 1000000, 1000000);
    }

    /** One end of the fact is moved by the answer, and goes on to the bound; the other stays. */
    private static void widensTo(int low, int high, int answerLow, int answerHigh, int bound) {
        FactShares x = new FactShares();
        x.set(1, 1000);
        x.fact(0, low, high);
        shareOf(x, 0, PUT, answerLow, answerHigh);
        due("run(1)", x.run(1), 1);
        factIs(x, 0, answerLow < low ? bound : low, answerHigh > high ? bound : high);
    }

    private static void closedRuns() {
        FactShares x = new FactShares();
        shareOf(x, 0);
        shareOf(x, 1, PUT, 1, 1);
        x.lose(0, 3);
        due("run(2)", x.run(2), 3);
        int[] told = {0, NONE, 0, 0, 2, 2, 3, 0, 2, 0};
        for (int what = 0; what < told.length; what++) {
            due("told(" + what + ")", x.told(what), told[what]);
        }
        due("doer(0)", x.doer(0), 0);
        due("doer(1)", x.doer(1), NONE);
        due("run(2)", x.run(2), 3);
        due("told(4)", x.told(4), 0);
        due("told(6)", x.told(6), 3);
        due("doer(0)", x.doer(0), NONE);
        // What was joined ahead of the closed round stays.
        x = counting();
        x.lose(0, 10);
        x.set(20, 6);
        due("run(5)", x.run(5), 3);
        factIs(x, 0, 0, 2);
        due("told(0)", x.told(0), 2);
        due("told(3)", x.told(3), 6);
        due("told(4)", x.told(4), 3);
        due("told(5)", x.told(5), 3);
    }

    private static void spentRuns() {
        FactShares x = counting();
        x.set(20, 6);
        due("run(2)", x.run(2), 1);
        due("run(5)", x.run(5), 4);
        factIs(x, 0, 0, 4);
        int[] told = {2, NONE, 0, 6, 3, 3, 20, 1, 1, 0};
        for (int what = 0; what < told.length; what++) {
            due("told(" + what + ")", x.told(what), told[what]);
        }
        x.set(20, 2);
        due("run(1)", x.run(1), 4);
        due("told(0)", x.told(0), 0);
        due("told(3)", x.told(3), 0);
        factIs(x, 0, 0, 4);
        // A round that would change nothing is spent, too.
        x.fact(0, -1000000, 1000000);
        due("run(1)", x.run(1), 4);
        // Acts that were done anew are not counted twice.
        x = counting();
        x.workers(2);
        x.lose(0, 3);
        x.set(20, 3);
        due("run(1)", x.run(1), 1);
        due("told(7)", x.told(7), 1);
        // No acts are never more than the budget.
        x = new FactShares();
        x.set(3, 0);
        due("run(1)", x.run(1), 0);
    }

    private static void spoiltRuns() {
        FactShares x = counting();
        shareOf(x, 1, FACT, 0, 0, POINT, 0, 0);
        shareOf(x, 2, PUT, 1, 0);
        x.set(1, 0);
        due("run(3)", x.run(3), 2);
        due("told(1)", x.told(1), 2);
        due("told(2)", x.told(2), SIZE);
        factIs(x, 0, 0, 0);
        // Joined in the first round, spoilt in the second: the first counts.
        x = counting();
        shareOf(x, 1, FACT, 0, 0, POINT, 0, 0);
        due("run(3)", x.run(3), 2);
        int[] told = {1, 1, CAST, 5, 4, 4, 14, 1, 2, 0};
        for (int what = 0; what < told.length; what++) {
            due("told(" + what + ")", x.told(what), told[what]);
        }
        factIs(x, 0, 0, 1);
        factIs(x, 1, 0, 0);
        // A share is not spoilt for good.
        x.fact(0, 5, 5);
        due("run(1)", x.run(1), 1);
        due("told(1)", x.told(1), NONE);
        due("told(2)", x.told(2), 0);
    }

    private static void toldOfRuns() {
        FactShares x = twoAtThree();
        due("run(1)", x.run(1), 1);
        int[] told = {1, NONE, 0, 4, 3, 3, 9, 2, 3, 0};
        for (int what = 0; what < told.length; what++) {
            due("told(" + what + ")", x.told(what), told[what]);
        }
        due("told(-1)", x.told(-1), OUTSIDE);
        due("told(10)", x.told(10), OUTSIDE);
        due("told(MIN)", x.told(MIN), OUTSIDE);
        due("told(MAX)", x.told(MAX), OUTSIDE);
        // The least number is told, though share 1 is spoilt earlier; all others are done all the same.
        x = new FactShares();
        x.workers(2);
        shareOf(x, 0, PUT, 1, 1, PUT, 1, 1, PUT, 1, 1, BY, 1, 0, BY, 0, 0);
        shareOf(x, 0, TAKE, 0, 0);
        due("run(1)", x.run(1), 2);
        due("told(1)", x.told(1), 0);
        due("told(2)", x.told(2), ZERO);
        due("told(4)", x.told(4), 2);
        due("told(5)", x.told(5), 2);
        due("doer(0)", x.doer(0), 0);
        due("doer(1)", x.doer(1), 1);
    }

    /** Ten shares of four workers: some have turns when nobody waits in the line. */
    private static void turnsWithoutShare() {
        FactShares x = new FactShares();
        x.workers(4);
        for (int i = 0; i < 10; i++) {
            shareOf(x, i, PUT, 1, 1, BY, 1, 0, BY, 1, 0, BY, 1, 0, BY, 1, 0, BY, 1, 0, BY, 1, 0, POINT, 0, 0);
        }
        due("run(2)", x.run(2), 0);
        due("told(3)", x.told(3), 160);
        due("told(4)", x.told(4), 20);
        due("told(5)", x.told(5), 20);
        if (x.told(6) <= 180) {
            due("told(6), beyond all that take and do", x.told(6), 181);
        }
    }

    private static void doers() {
        FactShares x = twoAtThree();
        due("doer(0)", x.doer(0), NONE);
        due("doer(3)", x.doer(3), UNKNOWN);
        due("doer(-1)", x.doer(-1), UNKNOWN);
        due("doer(MIN)", x.doer(MIN), UNKNOWN);
        due("doer(MAX)", x.doer(MAX), UNKNOWN);
        due("run(1)", x.run(1), 1);
        due("doer(0)", x.doer(0), 0);
        due("doer(1)", x.doer(1), 0);
        due("doer(2)", x.doer(2), 1);
        shareOf(x, 3, PUT, 1, 1);
        due("doer(3)", x.doer(3), NONE);
        due("run(0)", x.run(0), OUTSIDE);
        due("doer(2)", x.doer(2), 1);
        x.workers(1);
        due("doer(2)", x.doer(2), 1);
        due("run(1)", x.run(1), 1);
        due("doer(2)", x.doer(2), 0);
    }

    private static void clearing() {
        FactShares x = twoAtThree();
        due("clear()", x.clear(), 0);
        due("run(1)", x.run(1), 1);
        x.fact(9, 1, 1);
        x.lose(1, 6);
        x.set(7, 500);
        due("clear()", x.clear(), 4);
        for (int f = 0; f < 10; f++) {
            factIs(x, f, NONE, NONE);
        }
        due("told(6)", x.told(6), 0);
        due("told(7)", x.told(7), 2);
        due("told(8)", x.told(8), 3);
        due("seed(0)", x.seed(0), 0);
        due("set(3, 1000)", x.set(3, 1000), 7);
        // Turns are counted anew, and worker 1 is still to be lost, at turn 6, with share 2.
        due("run(1)", x.run(1), 1);
        due("told(4)", x.told(4), 4);
        due("told(7)", x.told(7), 1);
        due("doer(2)", x.doer(2), 0);
        due("clear()", x.clear(), 3);
        due("clear()", x.clear(), 0);
        due("told(7)", x.told(7), 1);
    }
}
