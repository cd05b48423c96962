import java.lang.annotation.Retention;
import java.lang.annotation.RetentionPolicy;
import java.lang.reflect.InvocationTargetException;
import java.lang.reflect.Method;
import java.util.Arrays;
import java.util.Comparator;

/**
 * A test of its own for each sentence of the document that names a boundary case. The sentence stands above its test in
 * the document's words, and is printed when an answer is not the one that is due.
 */
public final class FactSharesSentences {
    /** The document's words, and where it has them. */
    @Retention(RetentionPolicy.RUNTIME)
    private @interface Says {
        String in();

        String value();
    }

    private static final int NONE = FactShares.NONE;
    private static final int UNKNOWN = FactShares.UNKNOWN;
    private static final int OUTSIDE = FactShares.OUTSIDE;
    private static final int ROOM = FactShares.ROOM;
    private static final int MIN = Integer.MIN_VALUE;
    private static final int MAX = Integer.MAX_VALUE;
    private static final int MILLION = 1000000;

    private static final int PUT = 0, FACT = 1, ADD = 2, LESS = 3, MEET = 4, HULL = 5, BY = 6, POINT = 7, KEEP = 8, TAKE = 9;
    private static final int NOTHING = 1, INDEX = 2, ZERO = 3, CAST = 4, SIZE = 5;
    private static final int UNCHANGED = 0, SO_MANY = 1, SPOILT = 2, CLOSED = 3, SPENT = 4;

    private static final int[] BOUNDS = {-MILLION, -1000, -100, -10, 0, 10, 100, 1000, MILLION};

    private static int wrong = 0;
    private static Method test = null;

    public static void main(String[] args) throws IllegalAccessException {
        Method[] methods = FactSharesSentences.class.getDeclaredMethods();
        Arrays.sort(methods, Comparator.comparing(Method::getName));
        int count = 0;
        for (Method method : methods) {
            if (method.isAnnotationPresent(Says.class)) {
                test = method;
                count++;
                runTest();
            }
        }
        System.out.println(count + " sentences, " + (wrong == 0 ? "all answers are as due" : wrong + " faults"));
        if (wrong != 0 || count == 0) {
            System.exit(1);
        }
    }

    private static void runTest() throws IllegalAccessException {
        try {
            test.invoke(null);
        } catch (InvocationTargetException e) {
            fault("a call threw " + e.getCause());
        }
    }

    private static void fault(String what) {
        Says says = test.getAnnotation(Says.class);
        wrong++;
        System.out.println(test.getName() + " (" + says.in() + ": \"" + says.value() + "\"): " + what);
    }

    private static void due(String call, int got, int want) {
        if (got != want) {
            fault(call + " answered " + got + ", due is " + want);
        }
    }

    /** A new share with the acts told as sort, a, b one behind the other. */
    private static int shareOf(FactShares x, int aim, int... acts) {
        int number = x.share(aim);
        for (int i = 0; i < acts.length; i += 3) {
            due("act " + i / 3 + " of share " + number, x.act(number, acts[i], acts[i + 1], acts[i + 2]), i / 3 + 1);
        }
        return number;
    }

    /** A new object with one share that aims at fact 9. */
    private static FactShares oneShare(int... acts) {
        FactShares x = new FactShares();
        shareOf(x, 9, acts);
        return x;
    }

    /** Fact 0 grows upward by one in each round; three acts. */
    private static FactShares counting() {
        FactShares x = new FactShares();
        x.fact(0, 0, 0);
        shareOf(x, 0, FACT, 0, 0, PUT, 1, 1, ADD, 0, 0);
        return x;
    }

    /** A share without acts is done as it is taken: with nobody lost, a round of it is one turn, and spoilt. */
    private static FactShares oneTurnRounds(int workers) {
        FactShares x = new FactShares();
        x.workers(workers);
        x.share(0);
        return x;
    }

    private static void factIs(FactShares x, int f, int low, int high) {
        due("end(" + f + ", 0)", x.end(f, 0), low);
        due("end(" + f + ", 1)", x.end(f, 1), high);
    }

    private static void toldIs(FactShares x, int what, int... want) {
        for (int i = 0; i < want.length; i++) {
            due("told(" + (what + i) + ")", x.told(what + i), want[i]);
        }
    }

    private static void doersAre(FactShares x, int... want) {
        for (int i = 0; i < want.length; i++) {
            due("doer(" + i + ")", x.doer(i), want[i]);
        }
    }

    private static void answerIs(int low, int high, int... acts) {
        FactShares x = oneShare(acts);
        due("run(1)", x.run(1), SO_MANY);
        factIs(x, 9, low, high);
    }

    /** The share is spoilt so, by the last of the acts told (one turn takes it, each act is one more). */
    private static void refusalIs(int refusal, int... acts) {
        FactShares x = oneShare(acts);
        due("run(1)", x.run(1), SPOILT);
        toldIs(x, 1, 0, refusal);
        due("told(6)", x.told(6), Math.max(1, 1 + acts.length / 3));
    }

    // What it is

    @Says(in = "What it is", value = "An object is used for at most 512 calls after it has been made")
    static void callsOfOneObject() {
        FactShares x = counting();
        x.set(20, 1000);
        int calls = 6;
        for (; calls < 511; calls++) {
            due("run(10)", x.run(10), SO_MANY);
        }
        due("call 512, end(0, 1)", x.end(0, 1), (511 - 6) * 10);
        // Later answers are free; but no call may throw.
        for (; calls < 2000; calls++) {
            x.run(10);
        }
    }

    @Says(in = "What it is", value = "the same facts whoever does them.")
    static void theSameFactsWhoeverDoesThem() {
        for (int i = 0; i < 100; i++) {
            FactShares x = new FactShares();
            x.fact(0, 0, 0);
            shareOf(x, 1, FACT, 0, 0, PUT, 15, 15, ADD, 0, 0);
            shareOf(x, 1, FACT, 0, 0, PUT, -3, 2, ADD, 0, 0);
            shareOf(x, 0, PUT, -5, 5, FACT, 0, 0, LESS, 0, 0);
            shareOf(x, 2, FACT, 0, 0, BY, -2, 0);
            x.workers(1 + i % 4);
            x.seed(i * 7919);
            // The last of them is never lost.
            for (int worker = 0; worker < i % 4; worker++) {
                x.lose(worker, 1 + i % 23 * (worker + 1));
            }
            due("run(3), seed " + i * 7919, x.run(3), SO_MANY);
            factIs(x, 0, -100, 100);
            factIs(x, 1, -100, 100);
            factIs(x, 2, -10, 10);
        }
    }

    @Says(in = "What it is", value = "joined in one order, widened, done anew when a worker is lost, told when the machine refuses one")
    static void whatItIs() {
        for (int i = 0; i < 100; i++) {
            FactShares x = new FactShares();
            x.set(1, 1000);
            shareOf(x, 0, PUT, 15, 15, POINT, 0, 0, POINT, 0, 0);
            shareOf(x, 0, PUT, 10, 20);
            shareOf(x, 1, FACT, 2, 0, POINT, 0, 0);
            x.fact(2, 8, 8);
            x.workers(3);
            x.seed(i * 7919);
            x.lose(i % 3, 1 + i % 7);
            // Share 1 may be done ahead of share 0; joined ahead of it, fact 0 would be 10 .. 20.
            due("run(1), seed " + i * 7919, x.run(1), SO_MANY);
            factIs(x, 0, 10, 100);
            factIs(x, 1, 8, 8);
            x.fact(2, 8, 9);
            due("run(1), seed " + i * 7919, x.run(1), SPOILT);
            toldIs(x, 1, 2, CAST);
        }
    }

    @Says(in = "The public face", value = "NONE = -2000000, UNKNOWN = -2000001, OUTSIDE = -2000002, ROOM = -2000003")
    static void constants() {
        due("NONE", NONE, -2000000);
        due("UNKNOWN", UNKNOWN, -2000001);
        due("OUTSIDE", OUTSIDE, -2000002);
        due("ROOM", ROOM, -2000003);
    }

    // Terms: the facts

    @Says(in = "Terms", value = "FACTS 0 .. 9")
    static void factNumbers() {
        FactShares x = new FactShares();
        for (int f : new int[] {0, 9}) {
            due("fact(" + f + ", 1, 1)", x.fact(f, 1, 1), 1);
            due("end(" + f + ", 0)", x.end(f, 0), 1);
            due("share(" + f + ")", x.share(f), f / 9);
        }
        for (int f : new int[] {-1, 10, MIN, MAX}) {
            due("fact(" + f + ", 1, 1)", x.fact(f, 1, 1), UNKNOWN);
            due("end(" + f + ", 0)", x.end(f, 0), UNKNOWN);
            due("share(" + f + ")", x.share(f), UNKNOWN);
        }
    }

    @Says(in = "Terms", value = "are NOTHING at first")
    static void factsAtFirst() {
        for (int f = 0; f < 10; f++) {
            factIs(new FactShares(), f, NONE, NONE);
            refusalIs(NOTHING, FACT, f, 0);
        }
    }

    @Says(in = "Terms", value = "FACTS 0 .. 9 are NOTHING at first, or a RANGE LOW .. HIGH")
    static void factsAreRanges() {
        FactShares x = new FactShares();
        for (int f = 0; f < 10; f++) {
            x.fact(f, -f, 2 * f);
            for (int other = 0; other < 10; other++) {
                factIs(x, other, other <= f ? -other : NONE, other <= f ? 2 * other : NONE);
            }
        }
    }

    @Says(in = "Terms", value = "ends are -1000000 .. 1000000")
    static void endsOfFacts() {
        FactShares x = new FactShares();
        due("fact(0, -1000000, -1000000)", x.fact(0, -MILLION, -MILLION), 1);
        factIs(x, 0, -MILLION, -MILLION);
        due("fact(0, 1000000, 1000000)", x.fact(0, MILLION, MILLION), 1);
        factIs(x, 0, MILLION, MILLION);
        due("fact(0, -1000001, 0)", x.fact(0, -MILLION - 1, 0), OUTSIDE);
        due("fact(0, 0, 1000001)", x.fact(0, 0, MILLION + 1), OUTSIDE);
        factIs(x, 0, MILLION, MILLION);
    }

    @Says(in = "Terms", value = "(what is worked out beyond becomes the nearest of these)")
    static void workedOutBeyond() {
        answerIs(999999, MILLION, PUT, 999990, 999991, PUT, 9, 9, ADD, 0, 0);
        answerIs(999999, MILLION, PUT, 999990, 999992, PUT, 9, 9, ADD, 0, 0);
        answerIs(MILLION, MILLION, PUT, MILLION, MILLION, PUT, MILLION, MILLION, ADD, 0, 0);
        answerIs(-MILLION, -999999, PUT, -999991, -999990, PUT, -9, -9, ADD, 0, 0);
        answerIs(-MILLION, -999999, PUT, -999992, -999990, PUT, -9, -9, ADD, 0, 0);
        answerIs(-MILLION, -MILLION, PUT, -MILLION, -MILLION, PUT, -MILLION, -MILLION, ADD, 0, 0);
        answerIs(-MILLION, MILLION, PUT, -MILLION, MILLION, PUT, -MILLION, MILLION, LESS, 0, 0);
        answerIs(-MILLION, -999999, PUT, -999991, -999990, PUT, 9, 10, LESS, 0, 0);
        answerIs(999999, MILLION, PUT, 999990, 999992, PUT, -9, -9, LESS, 0, 0);
        // At once, not only in the answer.
        answerIs(999999, 999999, PUT, MILLION, MILLION, PUT, 7, 7, ADD, 0, 0, PUT, 1, 1, LESS, 0, 0);
        answerIs(-999999, -999999, PUT, -MILLION, -MILLION, PUT, 7, 7, LESS, 0, 0, PUT, 1, 1, ADD, 0, 0);
    }

    // Terms 1: shares and acts

    @Says(in = "Terms 1", value = "SHARES (10 at most), numbered from 0")
    static void tenShares() {
        FactShares x = new FactShares();
        for (int i = 0; i < 10; i++) {
            due("share(5)", x.share(5), i);
        }
        due("share(5)", x.share(5), ROOM);
        due("act(9, 0, 1, 1)", x.act(9, PUT, 1, 1), 1);
        due("act(10, 0, 1, 1)", x.act(10, PUT, 1, 1), UNKNOWN);
        due("told(8)", x.told(8), 10);
    }

    @Says(in = "Terms 1", value = "have an AIM (a FACT)")
    static void aimOfAShare() {
        for (int aim = 0; aim < 10; aim++) {
            FactShares x = new FactShares();
            shareOf(x, aim, PUT, 1, 2);
            x.run(1);
            for (int f = 0; f < 10; f++) {
                factIs(x, f, f == aim ? 1 : NONE, f == aim ? 2 : NONE);
            }
        }
    }

    @Says(in = "Terms 1", value = "up to 8 ACTS")
    static void eightActs() {
        FactShares x = oneShare(PUT, 0, 0, PUT, 1, 1, PUT, 2, 2, HULL, 0, 0, HULL, 0, 0, PUT, 7, 7, PUT, 8, 8);
        due("act 8", x.act(0, ADD, 0, 0), 8);
        due("act 9", x.act(0, BY, 0, 0), ROOM);
        due("run(1)", x.run(1), SO_MANY);
        factIs(x, 9, 15, 15);
        due("told(3)", x.told(3), 8);
        due("told(6)", x.told(6), 9);
    }

    @Says(in = "Terms 1", value = "ACTS, each with numbers a, b.")
    static void numbersOfEachAct() {
        FactShares x = new FactShares();
        shareOf(x, 0, PUT, 1, 2, PUT, 30, 40, ADD, 0, 0, BY, 2, 0, BY, -3, 0, PUT, -1000, 500, MEET, 0, 0);
        shareOf(x, 1, PUT, 5, 6, KEEP, 2, 0, PUT, 7, 9, KEEP, 0, 0, TAKE, 2, 0, TAKE, 0, 0, LESS, 0, 0);
        due("run(1)", x.run(1), SO_MANY);
        // 31 .. 42, then 15 .. 21, then -7 .. -5; and 5 .. 6 less 7 .. 9.
        factIs(x, 0, -7, -5);
        factIs(x, 1, -4, -1);
    }

    @Says(in = "Terms 1", value = "A SHARE is worked on a STACK of 3 places")
    static void stackOfThree() {
        answerIs(111, 111, PUT, 100, 100, PUT, 10, 10, PUT, 1, 1, ADD, 0, 0, ADD, 0, 0);
        refusalIs(INDEX, PUT, 100, 100, PUT, 10, 10, PUT, 1, 1, PUT, 1, 1);
    }

    @Says(in = "Terms 1", value = "and a ROW of 3")
    static void rowOfThree() {
        int[] kept = {PUT, 3, 3, KEEP, 0, 0, PUT, 4, 4, KEEP, 1, 0, PUT, 5, 5, KEEP, 2, 0};
        for (int item = 0; item < 3; item++) {
            int[] acts = Arrays.copyOf(kept, kept.length + 3);
            acts[kept.length] = TAKE;
            acts[kept.length + 1] = item;
            answerIs(3 + item, 3 + item, acts);
        }
    }

    @Says(in = "Terms 1", value = "empty and NOTHING at its beginning")
    static void stackIsEmptyAtItsBeginning() {
        FactShares x = oneShare(PUT, 1, 1, PUT, 2, 2);
        due("run(3)", x.run(3), UNCHANGED);
        due("told(0)", x.told(0), 2);
        shareOf(x, 8, POINT, 0, 0);
        due("run(1)", x.run(1), SPOILT);
        toldIs(x, 1, 1, INDEX);
        // Turns of two: 0 0 0 1 0 1 1 1 0. Worker 0 is lost at turn 9 with three ranges on the stack; 1 does it anew.
        x = oneShare(PUT, 1, 1, PUT, 2, 2, PUT, 3, 3, HULL, 0, 0);
        x.workers(2);
        x.lose(0, 6);
        due("run(1)", x.run(1), SO_MANY);
        doersAre(x, 1);
        factIs(x, 9, 2, 3);
    }

    @Says(in = "Terms 1", value = "empty and NOTHING at its beginning")
    static void rowIsNothingAtItsBeginning() {
        for (int item = 0; item < 3; item++) {
            refusalIs(NOTHING, TAKE, item, 0);
            FactShares x = oneShare(PUT, 1, 1, PUT, 2, 2, KEEP, item, 0);
            shareOf(x, 8, TAKE, item, 0);
            due("run(1)", x.run(1), SPOILT);
            toldIs(x, 1, 1, NOTHING);
        }
    }

    @Says(in = "Terms 1", value = "FACTS are as ahead of the ROUND")
    static void factsAheadOfTheRound() {
        FactShares x = new FactShares();
        shareOf(x, 0, PUT, 1, 1);
        shareOf(x, 1, FACT, 0, 0);
        due("run(2)", x.run(2), SPOILT);
        toldIs(x, 0, 0, 1, NOTHING);
        x.fact(0, 4, 4);
        due("run(1)", x.run(1), SO_MANY);
        factIs(x, 0, 1, 4);
        factIs(x, 1, 4, 4);
    }

    @Says(in = "Terms 1", value = "0 PUT: a .. b comes on the STACK.")
    static void put() {
        answerIs(-MILLION, MILLION, PUT, -MILLION, MILLION);
        answerIs(-MILLION, -MILLION, PUT, -MILLION, -MILLION);
        answerIs(MILLION, MILLION, PUT, MILLION, MILLION);
        answerIs(0, 0, PUT, 0, 0);
        answerIs(-1, 0, PUT, -1, 0);
    }

    @Says(in = "Terms 1", value = "1 FACT: FACT a (any number may be told) comes on it.")
    static void factOfAnyNumber() {
        for (int f : new int[] {MIN, -MILLION - 1, -1, 10, MILLION + 1, MAX}) {
            FactShares x = new FactShares();
            x.share(0);
            due("act(0, 1, " + f + ", 0)", x.act(0, FACT, f, f), 1);
        }
        for (int f : new int[] {0, 9}) {
            FactShares x = new FactShares();
            x.fact(f, -3, 4);
            shareOf(x, 5, PUT, 0, 0, FACT, f, MIN);
            due("run(1)", x.run(1), SO_MANY);
            factIs(x, 5, -3, 4);
        }
    }

    @Says(in = "Terms 1", value = "2 ADD, 3 LESS, 4 MEET, 5 HULL: the two upper ones (y the upper one, x below) go, and come back as one")
    static void theTwoUpperOnes() {
        // What stands below them stays, and there are two places again.
        for (int sort = ADD; sort <= HULL; sort++) {
            answerIs(7, 7, PUT, 7, 7, PUT, 1, 1, PUT, 1, 1, sort, 0, 0, KEEP, 0, 0);
            refusalIs(INDEX, PUT, 7, 7, PUT, 1, 1, PUT, 1, 1, sort, 0, 0, PUT, 1, 1, PUT, 1, 1);
        }
    }

    @Says(in = "Terms 1", value = "x + y (LOW and LOW, HIGH and HIGH)")
    static void add() {
        answerIs(11, 25, PUT, 1, 5, PUT, 10, 20, ADD, 0, 0);
        answerIs(-19, -5, PUT, 1, 5, PUT, -20, -10, ADD, 0, 0);
        answerIs(0, 0, PUT, -MILLION, -MILLION, PUT, MILLION, MILLION, ADD, 0, 0);
    }

    @Says(in = "Terms 1", value = "x - y (LOW less HIGH, HIGH less LOW)")
    static void less() {
        answerIs(-19, -5, PUT, 1, 5, PUT, 10, 20, LESS, 0, 0);
        answerIs(5, 19, PUT, 10, 20, PUT, 1, 5, LESS, 0, 0);
        answerIs(-4, 4, PUT, 1, 5, PUT, 1, 5, LESS, 0, 0);
        answerIs(0, 0, PUT, MILLION, MILLION, PUT, MILLION, MILLION, LESS, 0, 0);
    }

    @Says(in = "Terms 1", value = "what is in both")
    static void meet() {
        answerIs(5, 5, PUT, 1, 5, PUT, 5, 9, MEET, 0, 0);
        answerIs(5, 5, PUT, 5, 9, PUT, 1, 5, MEET, 0, 0);
        answerIs(4, 5, PUT, 1, 5, PUT, 4, 9, MEET, 0, 0);
        answerIs(3, 4, PUT, 1, 9, PUT, 3, 4, MEET, 0, 0);
        answerIs(3, 4, PUT, 3, 4, PUT, 1, 9, MEET, 0, 0);
    }

    @Says(in = "Terms 1", value = "from the lesser LOW to the greater HIGH")
    static void hull() {
        answerIs(1, 9, PUT, 1, 2, PUT, 8, 9, HULL, 0, 0);
        answerIs(1, 9, PUT, 8, 9, PUT, 1, 2, HULL, 0, 0);
        answerIs(1, 9, PUT, 1, 9, PUT, 3, 4, HULL, 0, 0);
        answerIs(1, 9, PUT, 3, 4, PUT, 1, 9, HULL, 0, 0);
        answerIs(-MILLION, MILLION, PUT, MILLION, MILLION, PUT, -MILLION, -MILLION, HULL, 0, 0);
    }

    @Says(in = "Terms 1", value = "6 BY: the upper one's ends are divided by a")
    static void by() {
        answerIs(-3, 4, PUT, 100, 100, PUT, -6, 8, BY, 2, 0);
        answerIs(100, 100, PUT, 100, 100, PUT, -6, 8, BY, 2, 0, KEEP, 0, 0);
        answerIs(-MILLION, MILLION, PUT, -MILLION, MILLION, BY, 1, 0);
        answerIs(-1, 1, PUT, -MILLION, MILLION, BY, MILLION, 0);
        answerIs(0, 0, PUT, -MILLION, MILLION, BY, MILLION + 1, 0);
        answerIs(0, 0, PUT, -MILLION, MILLION, BY, MAX, 0);
        answerIs(0, 0, PUT, -MILLION, MILLION, BY, MIN, 0);
    }

    @Says(in = "Terms 1", value = "(cut toward 0; put in order)")
    static void byCutsAndOrders() {
        answerIs(-3, 3, PUT, -7, 7, BY, 2, 0);
        answerIs(-3, -3, PUT, -7, -6, BY, 2, 0);
        answerIs(0, 0, PUT, -1, 1, BY, 2, 0);
        answerIs(-4, 3, PUT, -7, 9, BY, -2, 0);
        answerIs(-4, -1, PUT, 3, 9, BY, -2, 0);
        answerIs(1, 4, PUT, -9, -3, BY, -2, 0);
        answerIs(MILLION, MILLION, PUT, -MILLION, -MILLION, BY, -1, 0);
    }

    @Says(in = "Terms 1", value = "7 POINT: the upper one, meant as a POINT (LOW is HIGH), stays.")
    static void point() {
        answerIs(5, 5, PUT, 1, 2, PUT, 5, 5, POINT, 0, 0);
        answerIs(-MILLION, -MILLION, PUT, -MILLION, -MILLION, POINT, 7, 8);
        answerIs(8, 8, PUT, 1, 1, PUT, 2, 2, PUT, 5, 5, POINT, 0, 0, ADD, 0, 0, ADD, 0, 0);
    }

    @Says(in = "Terms 1", value = "8 KEEP: the upper one goes, and is item a of the ROW.")
    static void keep() {
        for (int item = 0; item < 3; item++) {
            answerIs(1, 2, PUT, 1, 2, PUT, 5, 6, KEEP, item, 0);
            answerIs(5, 6, PUT, 1, 2, PUT, 5, 6, KEEP, item, 0, TAKE, item, 0);
            // The later one is the item.
            answerIs(8, 9, PUT, 1, 2, KEEP, item, 0, PUT, 8, 9, KEEP, item, 0, TAKE, item, 0);
            refusalIs(NOTHING, PUT, 1, 2, KEEP, item, 0, TAKE, (item + 1) % 3, 0);
        }
    }

    @Says(in = "Terms 1", value = "9 TAKE: item a of the ROW comes on the STACK.")
    static void take() {
        for (int item = 0; item < 3; item++) {
            answerIs(3, 6, PUT, 1, 2, KEEP, item, 0, TAKE, item, 0, TAKE, item, 0, TAKE, item, 0, ADD, 0, 0, ADD, 0, 0);
        }
    }

    // Terms 1: what the machine refuses

    @Says(in = "Terms 1", value = "What the machine refuses SPOILS it")
    static void spoiltByAnAct() {
        // What stands behind the refused act is not done: the turn in which it is spoilt is the last.
        FactShares x = oneShare(PUT, 1, 1, BY, 0, 0, PUT, 2, 1, PUT, 1, 1);
        due("run(1)", x.run(1), SPOILT);
        toldIs(x, 1, 0, ZERO);
        due("told(6)", x.told(6), 3);
        doersAre(x, 0);
    }

    @Says(in = "Terms 1", value = "1 NOTHING (FACT, item)")
    static void nothing() {
        FactShares x = new FactShares();
        x.fact(0, 1, 1);
        x.fact(2, 1, 1);
        shareOf(x, 0, FACT, 0, 0, FACT, 2, 0, FACT, 1, 0);
        due("run(1)", x.run(1), SPOILT);
        toldIs(x, 1, 0, NOTHING);
        refusalIs(NOTHING, PUT, 1, 1, KEEP, 0, 0, PUT, 1, 1, KEEP, 2, 0, TAKE, 1, 0);
    }

    @Says(in = "Terms 1", value = "2 INDEX (no such FACT, item;")
    static void noSuchFact() {
        for (int f : new int[] {-1, 10, MIN, MAX}) {
            refusalIs(INDEX, FACT, f, 0);
        }
        refusalIs(NOTHING, FACT, 0, 0);
        refusalIs(NOTHING, FACT, 9, 0);
    }

    @Says(in = "Terms 1", value = "2 INDEX (no such FACT, item;")
    static void noSuchItem() {
        for (int item : new int[] {-1, 3, MIN, MAX}) {
            refusalIs(INDEX, TAKE, item, 0);
            refusalIs(INDEX, PUT, 1, 1, KEEP, item, 0);
        }
    }

    @Says(in = "Terms 1", value = "nothing there to go from the STACK;")
    static void nothingThereToGo() {
        for (int sort = ADD; sort <= KEEP; sort++) {
            refusalIs(INDEX, sort, 1, 0);
            refusalIs(INDEX, PUT, 1, 1, KEEP, 0, 0, sort, 1, 0);
        }
        for (int sort = ADD; sort <= HULL; sort++) {
            refusalIs(INDEX, PUT, 1, 1, sort, 0, 0);
        }
        answerIs(1, 1, PUT, 1, 1, BY, 1, 0);
        answerIs(1, 1, PUT, 1, 1, POINT, 0, 0);
    }

    @Says(in = "Terms 1", value = "a fourth RANGE on it)")
    static void fourthRange() {
        refusalIs(INDEX, PUT, 1, 1, PUT, 2, 2, PUT, 3, 3, PUT, 4, 4);
        refusalIs(INDEX, PUT, 1, 1, KEEP, 0, 0, PUT, 1, 1, PUT, 2, 2, PUT, 3, 3, TAKE, 0, 0);
        FactShares x = new FactShares();
        x.fact(0, 1, 1);
        shareOf(x, 1, FACT, 0, 0, FACT, 0, 0, FACT, 0, 0, FACT, 0, 0);
        due("run(1)", x.run(1), SPOILT);
        toldIs(x, 1, 0, INDEX);
        answerIs(3, 3, PUT, 1, 1, PUT, 2, 2, PUT, 3, 3);
    }

    @Says(in = "Terms 1", value = "3 ZERO")
    static void zero() {
        refusalIs(ZERO, PUT, 1, 1, BY, 0, 0);
        refusalIs(ZERO, PUT, 0, 0, BY, 0, 5);
    }

    @Says(in = "Terms 1", value = "4 CAST (no POINT)")
    static void cast() {
        refusalIs(CAST, PUT, 1, 2, POINT, 0, 0);
        refusalIs(CAST, PUT, 5, 5, PUT, -MILLION, MILLION, POINT, 0, 0);
    }

    @Says(in = "Terms 1", value = "5 SIZE (a .. b with b below a;")
    static void sizeOfPut() {
        refusalIs(SIZE, PUT, 2, 1);
        refusalIs(SIZE, PUT, MILLION, -MILLION);
        answerIs(2, 2, PUT, 2, 2);
        // Of other acts a and b may stand in any order.
        answerIs(1, 1, PUT, 1, 1, POINT, 2, 1);
    }

    @Says(in = "Terms 1", value = "MEET of what has no number in both)")
    static void sizeOfMeet() {
        refusalIs(SIZE, PUT, 1, 4, PUT, 5, 9, MEET, 0, 0);
        refusalIs(SIZE, PUT, 5, 9, PUT, 1, 4, MEET, 0, 0);
        answerIs(5, 5, PUT, 1, 5, PUT, 5, 9, MEET, 0, 0);
    }

    @Says(in = "Terms 1", value = "(Of several in an ACT: what goes is taken first, y ahead of x; then the ACT; then what comes.)")
    static void whatGoesAheadOfTheAct() {
        refusalIs(INDEX, BY, 0, 0);
        refusalIs(INDEX, PUT, 1, 1, KEEP, 0, 0, BY, 0, 0);
        // With one range on the stack there is y, and no x.
        refusalIs(INDEX, PUT, 1, 1, MEET, 0, 0);
        // As two go ahead of it, what comes back has its place.
        answerIs(9, 9, PUT, 1, 1, PUT, 4, 4, PUT, 5, 5, ADD, 0, 0);
        answerIs(-5, -5, PUT, 1, 1, PUT, 4, 4, PUT, 5, 5, BY, -1, 0);
    }

    @Says(in = "Terms 1", value = "(Of several in an ACT: what goes is taken first, y ahead of x; then the ACT; then what comes.)")
    static void theActAheadOfWhatComes() {
        refusalIs(SIZE, PUT, 1, 1, PUT, 1, 1, PUT, 1, 1, PUT, 2, 1);
        refusalIs(NOTHING, PUT, 1, 1, PUT, 1, 1, PUT, 1, 1, FACT, 0, 0);
        refusalIs(NOTHING, PUT, 1, 1, PUT, 1, 1, PUT, 1, 1, TAKE, 0, 0);
        refusalIs(INDEX, PUT, 1, 1, PUT, 1, 1, PUT, 1, 1, FACT, 10, 0);
        refusalIs(INDEX, PUT, 1, 1, PUT, 1, 1, PUT, 1, 1, TAKE, 3, 0);
    }

    @Says(in = "Terms 1", value = "Behind the last ACT its ANSWER is the upper one;")
    static void answerIsTheUpperOne() {
        answerIs(1, 1, PUT, 1, 1);
        answerIs(2, 3, PUT, 1, 1, PUT, 2, 3);
        answerIs(4, 5, PUT, 1, 1, PUT, 2, 3, PUT, 4, 5);
    }

    @Says(in = "Terms 1", value = "2 without.")
    static void withoutAnswer() {
        refusalIs(INDEX);
        refusalIs(INDEX, PUT, 1, 1, KEEP, 0, 0);
        refusalIs(INDEX, PUT, 1, 1, PUT, 2, 2, KEEP, 0, 0, KEEP, 1, 0);
    }

    // Terms 2: turns

    @Says(in = "Terms 2", value = "All SHARES wait in a line, by numbers.")
    static void lineByNumbers() {
        // The worker is lost at the turn in which it would take share k: those before k are done.
        for (int k = 0; k < 10; k++) {
            FactShares x = new FactShares();
            for (int i = 0; i < 10; i++) {
                shareOf(x, 9 - i, PUT, 1, 1);
            }
            x.lose(0, 2 * k + 1);
            due("run(1)", x.run(1), CLOSED);
            for (int i = 0; i < 10; i++) {
                due("doer(" + i + ")", x.doer(i), i < k ? 0 : NONE);
            }
        }
    }

    @Says(in = "Terms 2", value = "x, 0 at first and set by seed(), becomes x * 1103515245 + 12345 (ints)")
    static void xOfEachTurn() {
        FactShares x = oneTurnRounds(4);
        due("run(1)", x.run(1), SPOILT);
        due("seed", x.seed(12345), 12345);
        x.run(1);
        due("seed", x.seed(0), -740551042);
        for (int from : new int[] {MAX, MIN, -1, 1, -740551042, 65535, 65536}) {
            x.seed(from);
            x.run(1);
            due("seed, a turn behind " + from, x.seed(0), (int) (from * 1103515245L + 12345));
        }
    }

    @Says(in = "Terms 2", value = "the one at (x >>> 16) % n (from 0) has it")
    static void placeOfATurn() {
        int[] seeds = {0, 1, -1, MIN, MAX, 12345, -12345, 65535, 65536, 1 << 30, -740551042, 98765432};
        for (int n = 1; n <= 4; n++) {
            FactShares x = oneTurnRounds(n);
            for (int seed : seeds) {
                x.seed(seed);
                x.run(1);
                long unsigned = seed * 1103515245L + 12345 & 0xffffffffL;
                due("told(9), seed " + seed + " of " + n, x.told(9), (int) (unsigned / 65536 % n));
            }
        }
    }

    @Says(in = "Terms 2", value = "of the n WORKERS that are left, by numbers")
    static void workersLeftByNumbers() {
        FactShares x = oneTurnRounds(3);
        x.lose(1, 1);
        // Turns of three: 0 2 0 0 0 0, then 1, who is lost; then of workers 0 and 2: 2 0 0 2.
        int[] had = {0, 2, 0, 0, 0, 0, 2, 0, 0, 2};
        for (int i = 0; i < had.length; i++) {
            due("run(1)", x.run(1), SPOILT);
            due("told(9) of round " + i, x.told(9), had[i]);
            due("told(7) of round " + i, x.told(7), i < 6 ? 3 : 2);
        }
    }

    @Says(in = "Terms 2", value = "TURNS are counted from the last clear().")
    static void turnsCounted() {
        FactShares x = oneTurnRounds(1);
        due("told(6)", x.told(6), 0);
        x.run(1);
        x.run(10);
        due("told(6)", x.told(6), 2);
        x.workers(2);
        x.seed(9);
        due("told(6)", x.told(6), 2);
        x.clear();
        due("told(6)", x.told(6), 0);
        x.workers(1);
        x.lose(0, 2);
        due("run(1)", x.run(1), SPOILT);
        due("told(6)", x.told(6), 1);
        due("run(1)", x.run(1), CLOSED);
        due("told(6)", x.told(6), 2);
    }

    @Says(in = "Terms 2", value = "A WORKER who is to be LOST at this TURN is lost")
    static void lostInsteadOfAnAct() {
        for (int turn = 1; turn <= 3; turn++) {
            FactShares x = oneShare(PUT, 1, 1);
            x.lose(0, turn);
            due("run(1), lost at " + turn, x.run(1), turn < 3 ? CLOSED : SO_MANY);
            due("told(6)", x.told(6), Math.min(turn, 2));
            due("told(7)", x.told(7), turn < 3 ? 0 : 1);
            due("told(9)", x.told(9), 0);
            doersAre(x, turn < 3 ? NONE : 0);
        }
    }

    @Says(in = "Terms 2", value = "A WORKER who is to be LOST at this TURN is lost, and what it has of a SHARE")
    static void lostWithWhatItHas() {
        // Without a share: none is taken, none is left.
        FactShares x = oneShare(PUT, 1, 1, PUT, 2, 2);
        x.lose(0, 1);
        due("run(1)", x.run(1), CLOSED);
        toldIs(x, 4, 0, 0, 1, 0);
        // Turns of two: 0 0 0, the third of which loses worker 0 behind one act; worker 1 takes it and does all three.
        x = oneShare(PUT, 1, 1, PUT, 2, 2, PUT, 3, 3);
        x.workers(2);
        x.lose(0, 3);
        due("run(1)", x.run(1), SO_MANY);
        toldIs(x, 4, 2, 2, 7, 1);
        doersAre(x, 1);
        factIs(x, 9, 3, 3);
    }

    @Says(in = "Terms 2", value = "that one stands in front of the line again")
    static void lostShareInFront() {
        // Turns of two: 0 0 0; then 1 alone takes share 0, does it, and is lost when it would take share 1.
        FactShares x = new FactShares();
        x.workers(2);
        shareOf(x, 0, PUT, 1, 1, PUT, 2, 2);
        shareOf(x, 1, PUT, 1, 1);
        shareOf(x, 2, PUT, 1, 1);
        x.lose(0, 3);
        x.lose(1, 7);
        due("run(1)", x.run(1), CLOSED);
        doersAre(x, 1, NONE, NONE);
        toldIs(x, 4, 2, 2, 7, 0);
        // Turns: 0 takes share 0, 2 takes share 1, 0 is lost, 2 is lost: share 1 stands in front of share 0.
        x = new FactShares();
        x.workers(3);
        for (int i = 0; i < 10; i++) {
            shareOf(x, i, PUT, 1, 1);
        }
        x.lose(0, 3);
        x.lose(2, 4);
        x.lose(1, 7);
        due("run(1)", x.run(1), CLOSED);
        doersAre(x, NONE, 1, NONE, NONE, NONE, NONE, NONE, NONE, NONE, NONE);
        toldIs(x, 4, 3, 3, 7, 0);
    }

    @Says(in = "Terms 2", value = "Else, without a SHARE, it takes the first of the line (that is all;")
    static void takingIsAll() {
        for (int acts = 1; acts <= 8; acts++) {
            FactShares x = oneShare(PUT, 1, 1);
            for (int i = 2; i <= acts; i++) {
                x.act(0, POINT, 0, 0);
            }
            due("run(1)", x.run(1), SO_MANY);
            due("told(6), " + acts + " acts", x.told(6), acts + 1);
        }
    }

    @Says(in = "Terms 2", value = "nothing, if there is none)")
    static void nothingToTake() {
        // Turns of two: 0 0 0 1 0, of which the fourth finds an empty line.
        FactShares x = oneShare(PUT, 1, 1, PUT, 2, 2, PUT, 3, 3);
        x.workers(2);
        due("run(1)", x.run(1), SO_MANY);
        toldIs(x, 4, 1, 1, 5, 2);
        due("told(9)", x.told(9), 0);
        doersAre(x, 0);
        factIs(x, 9, 3, 3);
    }

    @Says(in = "Terms 2", value = "with one it does its next ACT;")
    static void nextAct() {
        // Turns of two: 0 0 0 1 0 1 1 1 0. Worker 0 does share 0 at turns 1 2 3 5 9, worker 1 share 1 at turns 4 6 7 8.
        FactShares x = new FactShares();
        shareOf(x, 0, PUT, 1, 1, PUT, 2, 2, LESS, 0, 0, BY, -1, 0);
        shareOf(x, 1, PUT, 5, 5, PUT, 7, 9, LESS, 0, 0);
        x.workers(2);
        due("run(1)", x.run(1), SO_MANY);
        factIs(x, 0, 1, 1);
        factIs(x, 1, -4, -2);
        doersAre(x, 0, 1);
        toldIs(x, 4, 2, 2, 9, 2, 2, 0);
    }

    @Says(in = "Terms 2", value = "the last ACT (or that by which it is SPOILT) ends it in the same TURN: it is DONE, and the WORKER has none.")
    static void lastActEndsIt() {
        // Lost at the turn behind the last act: it has none, so nothing comes into the line again.
        FactShares x = new FactShares();
        shareOf(x, 0, PUT, 1, 1);
        shareOf(x, 1, PUT, 2, 1, PUT, 1, 1);
        shareOf(x, 2, PUT, 1, 1);
        x.lose(0, 5);
        due("run(1)", x.run(1), CLOSED);
        doersAre(x, 0, 0, NONE);
        toldIs(x, 4, 2, 2, 5, 0);
    }

    @Says(in = "Terms 2", value = "(Without ACTS it is DONE as it is taken.)")
    static void withoutActs() {
        FactShares x = new FactShares();
        x.share(0);
        x.share(1);
        due("run(1)", x.run(1), SPOILT);
        toldIs(x, 1, 0, INDEX);
        toldIs(x, 4, 2, 2, 2);
        doersAre(x, 0, 0);
    }

    @Says(in = "Terms 2", value = "The ROUND ends when all are DONE")
    static void roundEndsWhenAllAreDone() {
        // Without shares there is no turn.
        FactShares x = new FactShares();
        x.workers(4);
        x.lose(0, 1);
        due("run(10)", x.run(10), UNCHANGED);
        toldIs(x, 0, 1, NONE, 0, 0, 0, 0, 0, 4, 0, NONE);
        // The turn at which worker 0 would be lost comes in the next round only.
        x = oneShare(PUT, 1, 1);
        x.lose(0, 3);
        due("run(1)", x.run(1), SO_MANY);
        toldIs(x, 6, 2, 1);
        due("run(1)", x.run(1), CLOSED);
        toldIs(x, 6, 3, 0);
    }

    @Says(in = "Terms 2", value = "or nobody is left: CLOSED, and nothing of it counts.")
    static void closedRound() {
        FactShares x = new FactShares();
        shareOf(x, 0, PUT, 1, 1);
        shareOf(x, 1, PUT, 2, 1);
        shareOf(x, 2, PUT, 1, 1);
        x.set(1, 0);
        x.lose(0, 6);
        // Share 0 has an answer, share 1 is spoilt, and the budget is too little: none of it counts.
        due("run(1)", x.run(1), CLOSED);
        toldIs(x, 0, 0, NONE, 0, 0, 3, 3, 6, 0);
        factIs(x, 0, NONE, NONE);
        // Nobody is left from the beginning on.
        due("run(10)", x.run(10), CLOSED);
        toldIs(x, 0, 0, NONE, 0, 0, 0, 0, 6, 0);
        doersAre(x, NONE, NONE, NONE);
        // The rounds of the run that were ahead of it count.
        x = counting();
        x.lose(0, 12);
        due("run(10)", x.run(10), CLOSED);
        toldIs(x, 0, 2, NONE, 0, 6, 3, 3, 12, 0);
        factIs(x, 0, 0, 2);
    }

    // Terms 2: what counts

    @Says(in = "Terms 2", value = "Of all SHARES SPOILT the least number is told")
    static void leastOfTheSpoilt() {
        FactShares x = new FactShares();
        x.workers(2);
        shareOf(x, 0, PUT, 1, 1);
        // Turns of two: 0 0 (share 0), 0 takes share 1, 1 takes share 2, 0, 1 (share 2 is spoilt), .. 0 (share 1).
        shareOf(x, 1, PUT, 1, 1, POINT, 0, 0, POINT, 0, 0, BY, 0, 0);
        shareOf(x, 2, PUT, 2, 1);
        due("run(1)", x.run(1), SPOILT);
        toldIs(x, 1, 1, ZERO);
        toldIs(x, 4, 3, 3);
        doersAre(x, 0, 0, 1);
        // Share 9 alone is spoilt.
        x = new FactShares();
        for (int i = 0; i < 9; i++) {
            shareOf(x, i, PUT, 1, 1);
        }
        shareOf(x, 9, PUT, 1, 2, POINT, 0, 0);
        due("run(1)", x.run(1), SPOILT);
        toldIs(x, 1, 9, CAST);
    }

    @Says(in = "Terms 2", value = "nothing of the ROUND counts then.")
    static void spoiltRoundDoesNotCount() {
        FactShares x = new FactShares();
        shareOf(x, 0, PUT, 1, 1);
        shareOf(x, 1, PUT, 2, 1);
        due("run(10)", x.run(10), SPOILT);
        toldIs(x, 0, 0, 1, SIZE, 0, 2, 2, 4);
        factIs(x, 0, NONE, NONE);
        // The round ahead of it counts.
        x = counting();
        shareOf(x, 1, FACT, 0, 0, POINT, 0, 0);
        due("run(10)", x.run(10), SPOILT);
        toldIs(x, 0, 1, 1, CAST, 5, 4, 4, 14);
        factIs(x, 0, 0, 1);
        factIs(x, 1, 0, 0);
    }

    @Says(in = "Terms 2", value = "Else, if the ACTS of all SHARES in all ROUNDS of the run together, each as often as there are, would be more than the BUDGET")
    static void moreThanTheBudget() {
        FactShares x = counting();
        shareOf(x, 1, PUT, 1, 1, POINT, 0, 0);
        x.set(20, 5);
        due("run(1), as many as the budget", x.run(1), SO_MANY);
        x.set(20, 4);
        due("run(1), one more than it", x.run(1), SPENT);
        x.set(20, 15);
        due("run(3)", x.run(3), SO_MANY);
        x.set(20, 14);
        due("run(3)", x.run(3), SPENT);
        due("told(3)", x.told(3), 10);
        // Those of each run anew; a budget of 0 suffices where there is no act.
        due("run(2)", x.run(2), SO_MANY);
        due("run(2)", x.run(2), SO_MANY);
        x = new FactShares();
        x.set(1, 0);
        due("run(1)", x.run(1), UNCHANGED);
    }

    @Says(in = "Terms 2", value = "each as often as there are")
    static void actsDoneAnewAreNotCounted() {
        FactShares x = counting();
        x.workers(2);
        x.lose(0, 3);
        x.set(20, 3);
        due("run(1)", x.run(1), SO_MANY);
        due("told(3)", x.told(3), 3);
        due("told(6)", x.told(6), 7);
    }

    @Says(in = "Terms 2", value = "SPENT, likewise.")
    static void spentRoundDoesNotCount() {
        FactShares x = counting();
        x.set(20, 7);
        due("run(10)", x.run(10), SPENT);
        toldIs(x, 0, 2, NONE, 0, 6, 3, 3, 12);
        factIs(x, 0, 0, 2);
        doersAre(x, 0);
        // A round that would change nothing, too.
        x.fact(0, -MILLION, MILLION);
        x.set(20, 2);
        due("run(1)", x.run(1), SPENT);
        toldIs(x, 0, 0, NONE, 0, 0);
    }

    @Says(in = "Terms 2", value = "Of all SHARES SPOILT the least number is told: nothing of the ROUND counts then. Else")
    static void spoiltAheadOfSpent() {
        FactShares x = oneShare(PUT, 2, 1);
        x.set(1, 0);
        due("run(1)", x.run(1), SPOILT);
        toldIs(x, 1, 0, SIZE);
    }

    @Says(in = "Terms 2", value = "Else JOINED: by SHARES, the AIM becomes the ANSWER, if it is NOTHING, else the hull of both")
    static void joined() {
        FactShares x = new FactShares();
        shareOf(x, 0, PUT, 4, 5);
        due("run(1)", x.run(1), SO_MANY);
        factIs(x, 0, 4, 5);
        // Within, on one side, on both sides, apart.
        int[][] joins = {{0, 9, 0, 9}, {4, 5, 4, 5}, {5, 5, 4, 5}, {4, 4, 4, 5}, {7, 9, 4, 9}, {-3, -2, -3, 5}};
        for (int[] j : joins) {
            x.fact(0, j[0], j[1]);
            x.run(1);
            factIs(x, 0, j[2], j[3]);
        }
    }

    @Says(in = "Terms 2", value = "JOINED: by SHARES")
    static void joinedByShares() {
        // The first of them becomes the fact; each that comes behind it moves an end, and widens it.
        FactShares x = new FactShares();
        x.set(1, 1000);
        shareOf(x, 0, PUT, 15, 16);
        shareOf(x, 0, PUT, 12, 17);
        due("run(1)", x.run(1), SO_MANY);
        factIs(x, 0, 10, 100);
        x = new FactShares();
        x.set(1, 1000);
        shareOf(x, 0, PUT, 12, 17);
        shareOf(x, 0, PUT, 15, 16);
        due("run(1)", x.run(1), SO_MANY);
        factIs(x, 0, 12, 17);
    }

    @Says(in = "Terms 2", value = "from ROUND WIDEN of the run on (counted from 1)")
    static void widensFromItsRoundOn() {
        for (int widen = 1; widen <= 10; widen++) {
            for (int rounds = 1; rounds <= 10; rounds++) {
                FactShares x = new FactShares();
                // HIGH is above 20 by as many rounds as there were, up to the first that widens it to 100.
                x.fact(0, 20, 20);
                shareOf(x, 0, FACT, 0, 0, PUT, 1, 1, ADD, 0, 0);
                x.set(widen, 1000);
                x.run(rounds);
                due("end(0, 1), widen " + widen + ", round " + rounds, x.end(0, 1), widenedAt(rounds - widen, rounds));
            }
        }
        // Each run counts from 1 anew.
        FactShares x = counting();
        x.run(2);
        x.run(2);
        x.run(2);
        factIs(x, 0, 0, 6);
        x.run(3);
        factIs(x, 0, 0, 10);
    }

    private static int widenedAt(int roundsBehind, int rounds) {
        int[] steps = {100, 1000, MILLION};
        return roundsBehind < 0 ? 20 + rounds : steps[Math.min(roundsBehind, 2)];
    }

    @Says(in = "Terms 2", value = "an end that it moves goes on to the next BOUND")
    static void widensTheEndThatMoves() {
        // LOW, HIGH ahead of the round; the answer; LOW, HIGH behind it.
        int[][] joins = {{3, 6, 3, 6, 3, 6}, {3, 6, 4, 5, 3, 6}, {3, 6, 3, 7, 3, 10}, {3, 6, 2, 6, 0, 6}, {3, 6, 2, 7, 0, 10},
            {-6, -3, -6, -2, -6, 0}, {-6, -3, -7, -3, -10, -3}, {-6, -3, -7, -2, -10, 0}};
        for (int[] j : joins) {
            widensTo(j);
        }
        // What was NOTHING has no end that moves.
        FactShares x = oneShare(PUT, 3, 7);
        x.set(1, 1000);
        due("run(1)", x.run(1), SO_MANY);
        factIs(x, 9, 3, 7);
    }

    @Says(in = "Terms 2", value = "the next BOUND: -1000000, -1000, -100, -10, 0, 10, 100, 1000, 1000000.")
    static void nextBound() {
        for (int i = 0; i + 1 < BOUNDS.length; i++) {
            int lower = BOUNDS[i];
            int upper = BOUNDS[i + 1];
            widensTo(new int[] {-MILLION, lower, lower, lower + 1, -MILLION, upper});
            widensTo(new int[] {-MILLION, lower, lower, upper - 1, -MILLION, upper});
            widensTo(new int[] {-MILLION, lower, lower, upper, -MILLION, upper});
            widensTo(new int[] {upper, MILLION, upper - 1, upper, lower, MILLION});
            widensTo(new int[] {upper, MILLION, lower + 1, upper, lower, MILLION});
            widensTo(new int[] {upper, MILLION, lower, upper, lower, MILLION});
        }
    }

    private static void widensTo(int[] j) {
        FactShares x = new FactShares();
        x.set(1, 1000);
        x.fact(0, j[0], j[1]);
        shareOf(x, 0, PUT, j[2], j[3]);
        x.run(1);
        factIs(x, 0, j[4], j[5]);
    }

    @Says(in = "Terms 2", value = "A run: ROUNDS, up to one that changes no FACT (that one counts), or so many as told.")
    static void roundsOfARun() {
        FactShares x = oneShare(PUT, 1, 1);
        due("run(10)", x.run(10), UNCHANGED);
        toldIs(x, 0, 2, NONE, 0, 2, 2, 2, 4);
        // The first of them changes nothing.
        due("run(10)", x.run(10), UNCHANGED);
        toldIs(x, 0, 1, NONE, 0, 1, 1, 1, 6);
        // Fact 9 alone changes in the second.
        x = new FactShares();
        x.fact(0, 1, 1);
        x.fact(8, 0, 0);
        x.fact(9, 0, 1);
        shareOf(x, 9, FACT, 8, 0);
        shareOf(x, 8, PUT, 2, 2);
        due("run(10)", x.run(10), UNCHANGED);
        toldIs(x, 0, 3);
        factIs(x, 9, 0, 2);
        x = counting();
        x.set(20, 1000);
        for (int n = 1; n <= 10; n++) {
            due("run(" + n + ")", x.run(n), SO_MANY);
            due("told(0)", x.told(0), n);
        }
    }

    // Terms: what is refused

    private interface Call {
        int on(FactShares x);
    }

    private static FactShares readyToRun() {
        FactShares x = counting();
        for (int i = 1; i < 10; i++) {
            shareOf(x, i, PUT, i, i, PUT, i, 2 * i, ADD, 0, 0, BY, 1, 0, BY, 1, 0, BY, 1, 0, BY, 1, 0, BY, 1, 0);
        }
        x.workers(3);
        x.seed(77);
        x.set(2, 300);
        x.run(2);
        x.lose(1, 230);
        x.lose(2, 240);
        return x;
    }

    /** Every answer that tells of the state, ahead of a run and behind it. */
    private static int[] allThatCanBeTold(FactShares x) {
        int[] all = new int[86];
        int at = 0;
        for (int i = 0; i < 2; i++) {
            for (int n = 0; n < 10; n++) {
                all[at++] = x.told(n);
                all[at++] = x.doer(n);
                all[at++] = x.end(n, 0);
                all[at++] = x.end(n, 1);
            }
            all[at++] = x.run(10);
        }
        all[at++] = x.seed(0);
        all[at++] = x.set(1, 10000);
        all[at++] = x.act(0, BY, 1, 1);
        all[at++] = x.workers(2);
        return all;
    }

    private static void changesNothing(String call, int refusal, Call refused) {
        FactShares x = readyToRun();
        due(call, refused.on(x), refusal);
        if (!Arrays.equals(allThatCanBeTold(x), allThatCanBeTold(readyToRun()))) {
            fault(call + " changed what is told");
        }
    }

    @Says(in = "Terms", value = "Refused, and nothing is changed")
    static void refusedChangesNothing() {
        changesNothing("share(10)", UNKNOWN, x -> x.share(10));
        changesNothing("share(-1)", UNKNOWN, x -> x.share(-1));
        changesNothing("share(0)", ROOM, x -> x.share(0));
        changesNothing("act(10, 0, 1, 1)", UNKNOWN, x -> x.act(10, PUT, 1, 1));
        changesNothing("act(-1, 0, 1, 1)", UNKNOWN, x -> x.act(-1, PUT, 1, 1));
        changesNothing("act(0, 10, 1, 1)", OUTSIDE, x -> x.act(0, 10, 1, 1));
        changesNothing("act(0, -1, 1, 1)", OUTSIDE, x -> x.act(0, -1, 1, 1));
        changesNothing("act(0, 0, 1000001, 1)", OUTSIDE, x -> x.act(0, PUT, MILLION + 1, 1));
        changesNothing("act(0, 0, 1, -1000001)", OUTSIDE, x -> x.act(0, PUT, 1, -MILLION - 1));
        changesNothing("act(9, 0, 1, 1)", ROOM, x -> x.act(9, PUT, 1, 1));
        changesNothing("fact(10, 7, 7)", UNKNOWN, x -> x.fact(10, 7, 7));
        changesNothing("fact(0, 8, 7)", OUTSIDE, x -> x.fact(0, 8, 7));
        changesNothing("fact(0, -1000001, 7)", OUTSIDE, x -> x.fact(0, -MILLION - 1, 7));
        changesNothing("fact(0, 7, 1000001)", OUTSIDE, x -> x.fact(0, 7, MILLION + 1));
        changesNothing("end(10, 0)", UNKNOWN, x -> x.end(10, 0));
        changesNothing("end(0, 2)", OUTSIDE, x -> x.end(0, 2));
        changesNothing("workers(0)", OUTSIDE, x -> x.workers(0));
        changesNothing("workers(5)", OUTSIDE, x -> x.workers(5));
        changesNothing("lose(3, 1)", UNKNOWN, x -> x.lose(3, 1));
        changesNothing("lose(0, 0)", OUTSIDE, x -> x.lose(0, 0));
        changesNothing("lose(1, 0)", OUTSIDE, x -> x.lose(1, 0));
        changesNothing("lose(1, 100001)", OUTSIDE, x -> x.lose(1, 100001));
        changesNothing("set(0, 5)", OUTSIDE, x -> x.set(0, 5));
        changesNothing("set(21, 5)", OUTSIDE, x -> x.set(21, 5));
        changesNothing("set(1, -1)", OUTSIDE, x -> x.set(1, -1));
        changesNothing("set(1, 10001)", OUTSIDE, x -> x.set(1, 10001));
        changesNothing("run(0)", OUTSIDE, x -> x.run(0));
        changesNothing("run(11)", OUTSIDE, x -> x.run(11));
        changesNothing("told(10)", OUTSIDE, x -> x.told(10));
        changesNothing("doer(10)", UNKNOWN, x -> x.doer(10));
    }

    @Says(in = "Terms", value = "UNKNOWN (no such SHARE, FACT, WORKER), OUTSIDE (a number out of its bounds), ROOM; the first that fits.")
    static void theFirstThatFits() {
        FactShares x = readyToRun();
        due("share(10), no room", x.share(10), UNKNOWN);
        due("act(10, 10, 0, 0)", x.act(10, 10, 0, 0), UNKNOWN);
        due("act(10, 0, 1000001, 0)", x.act(10, PUT, MILLION + 1, 0), UNKNOWN);
        due("act(9, 10, 0, 0), no room", x.act(9, 10, 0, 0), OUTSIDE);
        due("act(9, 0, 0, 1000001), no room", x.act(9, PUT, 0, MILLION + 1), OUTSIDE);
        due("act(9, 0, 0, 0), no room", x.act(9, PUT, 0, 0), ROOM);
        due("fact(10, 1, 0)", x.fact(10, 1, 0), UNKNOWN);
        due("fact(-1, 1000001, 1000001)", x.fact(-1, MILLION + 1, MILLION + 1), UNKNOWN);
        due("end(10, 2)", x.end(10, 2), UNKNOWN);
        due("lose(3, 0)", x.lose(3, 0), UNKNOWN);
        due("lose(4, 100001)", x.lose(4, 100001), UNKNOWN);
        x.clear();
        due("end(0, 2), of NOTHING", x.end(0, 2), OUTSIDE);
    }

    // The promises

    @Says(in = "Promise 1", value = "No SHARES; all FACTS are NOTHING")
    static void newObjectHasNothing() {
        FactShares x = new FactShares();
        toldIs(x, 0, 0, NONE, 0, 0, 0, 0, 0, 1, 0, NONE);
        due("act(0, 0, 0, 0)", x.act(0, PUT, 0, 0), UNKNOWN);
        due("doer(0)", x.doer(0), UNKNOWN);
        for (int f = 0; f < 10; f++) {
            factIs(x, f, NONE, NONE);
        }
        due("clear()", x.clear(), 0);
        due("share(0)", x.share(0), 0);
    }

    @Says(in = "Promise 1", value = "one WORKER")
    static void newObjectHasOneWorker() {
        FactShares x = new FactShares();
        due("lose(1, 1)", x.lose(1, 1), UNKNOWN);
        due("lose(0, 1)", x.lose(0, 1), 1);
        due("workers(1)", x.workers(1), 1);
        // Nobody is to be lost at first.
        x = oneTurnRounds(1);
        for (int i = 0; i < 100; i++) {
            due("run(1)", x.run(1), SPOILT);
        }
    }

    @Says(in = "Promise 1", value = "WIDEN 3")
    static void widenOfNewObject() {
        due("set(1, 0)", new FactShares().set(1, 0), 3);
        FactShares x = counting();
        x.run(2);
        factIs(x, 0, 0, 2);
        x = counting();
        x.run(3);
        factIs(x, 0, 0, 10);
    }

    @Says(in = "Promise 1", value = "BUDGET 1000")
    static void budgetOfNewObject() {
        // No run has more acts than these 800: fact f + 1 learns of fact f, so that ten rounds are needed.
        FactShares x = new FactShares();
        x.fact(0, 0, 5);
        for (int i = 0; i < 10; i++) {
            x.fact(i, 0, i == 0 ? 5 : 0);
            shareOf(x, i == 9 ? 0 : i + 1, FACT, i == 9 ? 0 : i, 0, BY, 1, 0, BY, 1, 0, BY, 1, 0, BY, 1, 0, BY, 1, 0, BY, 1, 0,
                BY, 1, 0);
        }
        due("run(10)", x.run(10), UNCHANGED);
        toldIs(x, 0, 10, NONE, 0, 800);
    }

    @Says(in = "Promise 2", value = "A SHARE: its number. UNKNOWN: the FACT; ROOM.")
    static void share() {
        FactShares x = new FactShares();
        due("share(10)", x.share(10), UNKNOWN);
        due("share(-1)", x.share(-1), UNKNOWN);
        for (int i = 0; i < 10; i++) {
            due("share(" + i + ")", x.share(i), i);
            due("told(8)", x.told(8), i + 1);
        }
        due("share(0)", x.share(0), ROOM);
        due("share(9)", x.share(9), ROOM);
        // A run, or clear(), makes no room.
        x.run(1);
        x.clear();
        due("share(0)", x.share(0), ROOM);
    }

    @Says(in = "Promise 3", value = "An ACT more of a SHARE: how many.")
    static void actsOfEachShare() {
        FactShares x = new FactShares();
        x.share(0);
        x.share(0);
        for (int i = 1; i <= 8; i++) {
            due("act(0, 0, 1, 1)", x.act(0, PUT, 1, 1), i);
        }
        due("act(1, 0, 1, 1)", x.act(1, PUT, 1, 1), 1);
    }

    @Says(in = "Promise 3", value = "UNKNOWN;")
    static void actOfUnknownShare() {
        FactShares x = new FactShares();
        due("act(0, 0, 1, 1)", x.act(0, PUT, 1, 1), UNKNOWN);
        x.share(0);
        due("act(-1, 0, 1, 1)", x.act(-1, PUT, 1, 1), UNKNOWN);
        due("act(1, 0, 1, 1)", x.act(1, PUT, 1, 1), UNKNOWN);
        due("act(MIN, 0, 1, 1)", x.act(MIN, PUT, 1, 1), UNKNOWN);
        due("act(MAX, 0, 1, 1)", x.act(MAX, PUT, 1, 1), UNKNOWN);
        due("act(0, 0, 1, 1)", x.act(0, PUT, 1, 1), 1);
    }

    @Says(in = "Promise 3", value = "OUTSIDE: sort is not 0 .. 9")
    static void sortOfAnAct() {
        FactShares x = new FactShares();
        x.share(0);
        x.share(0);
        for (int sort : new int[] {-1, 10, MIN, MAX}) {
            due("act(0, " + sort + ", 0, 0)", x.act(0, sort, 0, 0), OUTSIDE);
        }
        for (int sort = 0; sort <= 9; sort++) {
            due("act(" + sort / 5 + ", " + sort + ", 0, 0)", x.act(sort / 5, sort, 0, 0), sort % 5 + 1);
        }
    }

    @Says(in = "Promise 3", value = "a, b (of PUT alone) not -1000000 .. 1000000")
    static void numbersOfAnAct() {
        FactShares x = new FactShares();
        x.share(0);
        x.share(0);
        for (int n : new int[] {-MILLION - 1, MILLION + 1, MIN, MAX}) {
            due("act(0, 0, " + n + ", 0)", x.act(0, PUT, n, 0), OUTSIDE);
            due("act(0, 0, 0, " + n + ")", x.act(0, PUT, 0, n), OUTSIDE);
        }
        due("act(0, 0, -1000000, 1000000)", x.act(0, PUT, -MILLION, MILLION), 1);
        due("act(0, 0, 1000000, -1000000)", x.act(0, PUT, MILLION, -MILLION), 2);
        for (int sort = 1; sort <= 6; sort++) {
            due("act(0, " + sort + ", MIN, MAX)", x.act(0, sort, MIN, MAX), sort + 2);
        }
        for (int sort = 7; sort <= 9; sort++) {
            due("act(1, " + sort + ", 1000001, -1000001)", x.act(1, sort, MILLION + 1, -MILLION - 1), sort - 6);
        }
    }

    @Says(in = "Promise 3", value = "ROOM.")
    static void roomForActs() {
        FactShares x = oneShare(PUT, 1, 1, PUT, 1, 1, PUT, 1, 1, ADD, 0, 0, ADD, 0, 0, BY, 1, 0, BY, 1, 0, BY, 1, 0);
        for (int sort = 0; sort <= 9; sort++) {
            due("act(0, " + sort + ", 0, 0)", x.act(0, sort, 0, 0), ROOM);
        }
        // A run, or clear(), makes no room.
        x.run(1);
        x.clear();
        due("act(0, 0, 0, 0)", x.act(0, PUT, 0, 0), ROOM);
    }

    @Says(in = "Promise 4", value = "A FACT becomes LOW .. HIGH; 1.")
    static void factBecomes() {
        FactShares x = new FactShares();
        due("fact(0, -1000000, 1000000)", x.fact(0, -MILLION, MILLION), 1);
        factIs(x, 0, -MILLION, MILLION);
        // Not the hull of both: it may become narrower; and the same again.
        due("fact(0, 3, 3)", x.fact(0, 3, 3), 1);
        factIs(x, 0, 3, 3);
        due("fact(0, 3, 3)", x.fact(0, 3, 3), 1);
        due("fact(9, 0, 0)", x.fact(9, 0, 0), 1);
        factIs(x, 9, 0, 0);
        factIs(x, 8, NONE, NONE);
    }

    @Says(in = "Promise 4", value = "UNKNOWN;")
    static void factUnknown() {
        for (int f : new int[] {-1, 10, MIN, MAX}) {
            due("fact(" + f + ", 0, 0)", new FactShares().fact(f, 0, 0), UNKNOWN);
        }
    }

    @Says(in = "Promise 4", value = "OUTSIDE: an end, LOW above HIGH.")
    static void factOutside() {
        FactShares x = new FactShares();
        int[][] outside = {{-MILLION - 1, 0}, {0, MILLION + 1}, {-MILLION - 1, -MILLION - 1}, {MILLION + 1, MILLION + 1},
            {MIN, MAX}, {MIN, 0}, {0, MAX}, {1, 0}, {MILLION, -MILLION}, {MAX, MIN}};
        for (int[] o : outside) {
            due("fact(0, " + o[0] + ", " + o[1] + ")", x.fact(0, o[0], o[1]), OUTSIDE);
        }
        factIs(x, 0, NONE, NONE);
    }

    @Says(in = "Promise 5", value = "LOW (end = 0), HIGH (1) of a FACT; NONE: it is NOTHING.")
    static void endOfAFact() {
        FactShares x = new FactShares();
        due("end(4, 0)", x.end(4, 0), NONE);
        due("end(4, 1)", x.end(4, 1), NONE);
        x.fact(4, -6, 7);
        due("end(4, 0)", x.end(4, 0), -6);
        due("end(4, 1)", x.end(4, 1), 7);
        x.clear();
        due("end(4, 0)", x.end(4, 0), NONE);
        due("end(4, 1)", x.end(4, 1), NONE);
    }

    @Says(in = "Promise 5", value = "UNKNOWN; OUTSIDE.")
    static void endRefused() {
        FactShares x = new FactShares();
        x.fact(0, 1, 1);
        for (int n : new int[] {-1, 10, MIN, MAX}) {
            due("end(" + n + ", 0)", x.end(n, 0), UNKNOWN);
        }
        for (int n : new int[] {-1, 2, MIN, MAX}) {
            due("end(0, " + n + ")", x.end(0, n), OUTSIDE);
            due("end(1, " + n + ")", x.end(1, n), OUTSIDE);
        }
    }

    @Says(in = "Promise 6", value = "n WORKERS (1 .. 4) are there from now on")
    static void workersAreThere() {
        for (int n = 1; n <= 4; n++) {
            FactShares x = new FactShares();
            due("workers(" + n + ")", x.workers(n), 1);
            due("told(7)", x.told(7), n);
            for (int worker = 0; worker < 4; worker++) {
                due("lose(" + worker + ", 1), of " + n, x.lose(worker, 1), worker < n ? 1 : UNKNOWN);
            }
        }
        // A lost one comes again, and has nothing of the share that it had.
        FactShares x = oneShare(PUT, 1, 1, PUT, 2, 2);
        x.lose(0, 3);
        due("run(1)", x.run(1), CLOSED);
        due("workers(1)", x.workers(1), 0);
        due("run(1)", x.run(1), SO_MANY);
        toldIs(x, 4, 1, 1, 6, 1);
    }

    @Says(in = "Promise 6", value = "none is to be LOST")
    static void noneIsToBeLost() {
        FactShares x = oneTurnRounds(4);
        for (int worker = 0; worker < 4; worker++) {
            x.lose(worker, 1);
        }
        due("workers(4)", x.workers(4), 4);
        for (int i = 0; i < 30; i++) {
            x.run(1);
        }
        due("told(7)", x.told(7), 4);
        // Nor the one that went when they were fewer.
        x.lose(3, 1);
        x.workers(3);
        x.workers(4);
        for (int i = 0; i < 30; i++) {
            x.run(1);
        }
        due("told(7)", x.told(7), 4);
    }

    @Says(in = "Promise 6", value = "how many were there.")
    static void howManyWereThere() {
        FactShares x = oneTurnRounds(4);
        due("workers(2)", x.workers(2), 4);
        due("workers(1)", x.workers(1), 2);
        x.lose(0, 1);
        due("run(1)", x.run(1), CLOSED);
        due("workers(4)", x.workers(4), 0);
        x.lose(0, 1);
        x.run(1);
        due("told(7)", x.told(7), 3);
        due("workers(1)", x.workers(1), 3);
    }

    @Says(in = "Promise 6", value = "OUTSIDE.")
    static void workersOutside() {
        FactShares x = new FactShares();
        x.workers(3);
        for (int n : new int[] {0, 5, -1, MIN, MAX}) {
            due("workers(" + n + ")", x.workers(n), OUTSIDE);
        }
        due("told(7)", x.told(7), 3);
    }

    @Says(in = "Promise 7", value = "A WORKER (0 .. 3)")
    static void whoIsLost() {
        for (int worker = 0; worker < 4; worker++) {
            FactShares x = oneTurnRounds(4);
            due("lose(" + worker + ", 1)", x.lose(worker, 1), 1);
            for (int i = 0; i < 20; i++) {
                x.run(1);
                if (x.told(9) == worker) {
                    fault("worker " + worker + " had a turn behind that at which it is lost");
                }
            }
            due("told(7)", x.told(7), 3);
            for (int other = 0; other < 4; other++) {
                due("lose(" + other + ", 1)", x.lose(other, 1), other == worker ? UNKNOWN : 1);
            }
        }
    }

    @Says(in = "Promise 7", value = "is LOST at the first TURN of its own from that number on")
    static void firstTurnOfItsOwn() {
        // Turns of two: 0 0 0 1 0 1 1; told 1 to 4, worker 1 is lost at turn 4, told 5 or 6 at turn 6, told 7 at turn 7.
        int[] lostAt = {4, 4, 4, 4, 6, 6, 7};
        for (int number = 1; number <= 7; number++) {
            FactShares x = oneTurnRounds(2);
            due("lose(1, " + number + ")", x.lose(1, number), 1);
            for (int i = 0; i < 20 && x.told(7) == 2; i++) {
                x.run(1);
            }
            // The round in which it is lost has one turn more, that of worker 0.
            due("told(6), lost from " + number, x.told(6), lostAt[number - 1] + 1);
            due("told(9)", x.told(9), 0);
        }
        // The number is past: its next turn is the first.
        FactShares x = oneTurnRounds(1);
        x.run(1);
        x.run(1);
        x.lose(0, 1);
        due("run(1)", x.run(1), CLOSED);
        due("told(6)", x.told(6), 3);
    }

    @Says(in = "Promise 7", value = "from that number on (1 .. 100000): 1.")
    static void numberOfTheTurn() {
        FactShares x = counting();
        for (int i = 3; i < 8; i++) {
            x.act(0, BY, 1, 0);
        }
        for (int i = 1; i < 10; i++) {
            shareOf(x, i, PUT, 1, 1, BY, 1, 0, BY, 1, 0, BY, 1, 0, BY, 1, 0, BY, 1, 0, BY, 1, 0, BY, 1, 0);
        }
        x.set(20, 1000);
        for (int number : new int[] {0, -1, 100001, MIN, MAX}) {
            due("lose(0, " + number + ")", x.lose(0, number), OUTSIDE);
        }
        due("lose(0, 100000)", x.lose(0, 100000), 1);
        // 900 turns in each run: the 100000th is in the run behind 111 of them.
        for (int i = 0; i < 111; i++) {
            due("run(10)", x.run(10), SO_MANY);
        }
        due("told(6)", x.told(6), 99900);
        due("run(10)", x.run(10), CLOSED);
        due("told(6)", x.told(6), 100000);
        x = oneTurnRounds(1);
        due("lose(0, 1)", x.lose(0, 1), 1);
        due("run(1)", x.run(1), CLOSED);
        due("told(6)", x.told(6), 1);
    }

    @Says(in = "Promise 7", value = "UNKNOWN: it is not there;")
    static void loseWhoIsNotThere() {
        FactShares x = oneTurnRounds(2);
        for (int worker : new int[] {-1, 2, 3, 4, MIN, MAX}) {
            due("lose(" + worker + ", 1)", x.lose(worker, 1), UNKNOWN);
        }
        // One who is lost is not there any more; one who is to be lost still is.
        due("lose(0, 1)", x.lose(0, 1), 1);
        due("lose(0, 1)", x.lose(0, 1), 1);
        x.run(1);
        due("lose(0, 1)", x.lose(0, 1), UNKNOWN);
        due("lose(1, 100000)", x.lose(1, 100000), 1);
        x.clear();
        due("lose(0, 1)", x.lose(0, 1), UNKNOWN);
    }

    @Says(in = "Promise 7", value = "OUTSIDE.")
    static void loseOutside() {
        FactShares x = new FactShares();
        for (int number : new int[] {0, -1, 100001, MIN, MAX}) {
            due("lose(0, " + number + ")", x.lose(0, number), OUTSIDE);
        }
    }

    @Says(in = "Promise 8", value = "x: what it was.")
    static void seed() {
        FactShares x = oneTurnRounds(1);
        due("seed(MIN)", x.seed(MIN), 0);
        due("seed(MAX)", x.seed(MAX), MIN);
        due("seed(-2000000)", x.seed(NONE), MAX);
        due("seed(-1)", x.seed(-1), NONE);
        x.run(1);
        due("seed(0)", x.seed(0), -1103515245 + 12345);
        due("seed(0)", x.seed(0), 0);
    }

    @Says(in = "Promise 9", value = "WIDEN (1 .. 20) and BUDGET (0 .. 10000): what WIDEN was.")
    static void set() {
        FactShares x = new FactShares();
        due("set(1, 0)", x.set(1, 0), 3);
        due("set(20, 10000)", x.set(20, 10000), 1);
        due("set(20, 0)", x.set(20, 0), 20);
        due("set(1, 10000)", x.set(1, 10000), 20);
        due("set(5, 5)", x.set(5, 5), 1);
        due("set(5, 5)", x.set(5, 5), 5);
        // WIDEN 1 widens in the first round, WIDEN 20 in none of ten; a budget of 0 lets no act pass.
        x = counting();
        x.set(1, 3);
        due("run(1)", x.run(1), SO_MANY);
        factIs(x, 0, 0, 10);
        x.set(20, 10000);
        due("run(10)", x.run(10), SO_MANY);
        factIs(x, 0, 0, 20);
        x.set(20, 0);
        due("run(1)", x.run(1), SPENT);
    }

    @Says(in = "Promise 9", value = "OUTSIDE.")
    static void setOutside() {
        FactShares x = new FactShares();
        int[][] outside = {{0, 0}, {21, 0}, {1, -1}, {1, 10001}, {MIN, 0}, {MAX, 0}, {1, MIN}, {1, MAX}, {0, -1}};
        for (int[] o : outside) {
            due("set(" + o[0] + ", " + o[1] + ")", x.set(o[0], o[1]), OUTSIDE);
        }
        due("set(3, 1000)", x.set(3, 1000), 3);
    }

    @Says(in = "Promise 10", value = "A run of at most n ROUNDS (1 .. 10)")
    static void numberOfRounds() {
        FactShares x = counting();
        x.set(20, 1000);
        for (int n : new int[] {0, 11, -1, MIN, MAX}) {
            due("run(" + n + ")", x.run(n), OUTSIDE);
        }
        due("told(6)", x.told(6), 0);
        due("run(1)", x.run(1), SO_MANY);
        due("told(0)", x.told(0), 1);
        due("run(10)", x.run(10), SO_MANY);
        due("told(0)", x.told(0), 10);
        factIs(x, 0, 0, 11);
    }

    @Says(in = "Promise 10", value = "0 the last one changed nothing; 1 there were so many;")
    static void lastRoundOfARun() {
        // The second round is the last that may be, and changes nothing.
        FactShares x = oneShare(PUT, 1, 1);
        due("run(2)", x.run(2), UNCHANGED);
        x.clear();
        due("run(1)", x.run(1), SO_MANY);
        due("run(1)", x.run(1), UNCHANGED);
        due("run(1), without shares", new FactShares().run(1), UNCHANGED);
        // NOTHING that becomes a range is a change, and so is an end of a fact.
        x.fact(9, 0, 0);
        due("run(1)", x.run(1), SO_MANY);
        x.fact(9, 2, 2);
        due("run(1)", x.run(1), SO_MANY);
        x.fact(9, 0, 2);
        due("run(1)", x.run(1), UNCHANGED);
    }

    @Says(in = "Promise 10", value = "2 SPOILT; 3 CLOSED; 4 SPENT.")
    static void endsOfARun() {
        FactShares x = oneShare(PUT, 1, 1);
        x.set(3, 0);
        due("run(10)", x.run(10), SPENT);
        x.act(0, BY, 0, 0);
        due("run(10)", x.run(10), SPOILT);
        x.lose(0, 1);
        due("run(10)", x.run(10), CLOSED);
    }

    @Says(in = "Promise 10", value = "OUTSIDE.")
    static void runOutside() {
        FactShares x = counting();
        x.run(2);
        for (int n : new int[] {0, 11, -1, MIN, MAX}) {
            due("run(" + n + ")", x.run(n), OUTSIDE);
        }
        toldIs(x, 0, 2, NONE, 0, 6, 2, 2, 8);
        doersAre(x, 0);
        factIs(x, 0, 0, 2);
    }

    @Says(in = "Promise 11", value = "Of the latest run: 0 ROUNDS that counted")
    static void toldOfTheLatestRun() {
        FactShares x = counting();
        x.set(20, 1000);
        x.run(10);
        toldIs(x, 0, 10, NONE, 0, 30, 10, 10, 40);
        x.run(2);
        toldIs(x, 0, 2, NONE, 0, 6, 2, 2, 48);
        // A run that is refused is none.
        due("run(11)", x.run(11), OUTSIDE);
        toldIs(x, 0, 2, NONE, 0, 6, 2, 2, 48);
    }

    @Says(in = "Promise 11", value = "1 the SHARE that was SPOILT (NONE), 2 what the machine refused it (0)")
    static void toldOfTheSpoilt() {
        FactShares x = new FactShares();
        toldIs(x, 1, NONE, 0);
        shareOf(x, 0, FACT, 1, 0);
        due("run(1)", x.run(1), SPOILT);
        toldIs(x, 1, 0, NOTHING);
        x.fact(1, 1, 1);
        due("run(1)", x.run(1), SO_MANY);
        toldIs(x, 1, NONE, 0);
        x.clear();
        due("run(1)", x.run(1), SPOILT);
        toldIs(x, 1, 0, NOTHING);
        x.fact(1, 1, 1);
        x.set(3, 0);
        due("run(1)", x.run(1), SPENT);
        toldIs(x, 1, NONE, 0);
        x.clear();
        x.run(1);
        x.lose(0, 1);
        due("run(1)", x.run(1), CLOSED);
        toldIs(x, 1, NONE, 0);
    }

    @Says(in = "Promise 11", value = "3 ACTS that counted")
    static void toldOfActs() {
        FactShares x = new FactShares();
        x.run(1);
        due("told(3), without shares", x.told(3), 0);
        shareOf(x, 0, PUT, 1, 1);
        shareOf(x, 1, PUT, 1, 1, PUT, 2, 2);
        due("run(1)", x.run(1), SO_MANY);
        due("told(3)", x.told(3), 3);
        due("run(10)", x.run(10), UNCHANGED);
        due("told(3)", x.told(3), 3);
        x.set(3, 2);
        due("run(1)", x.run(1), SPENT);
        due("told(3)", x.told(3), 0);
        x.act(0, BY, 0, 0);
        due("run(1)", x.run(1), SPOILT);
        due("told(3)", x.told(3), 0);
        x.lose(0, 1);
        due("run(1)", x.run(1), CLOSED);
        due("told(3)", x.told(3), 0);
    }

    @Says(in = "Promise 11", value = "4 how often a SHARE was taken, 5 how often one was left (DONE, or its WORKER LOST).")
    static void toldOfTakenAndLeft() {
        // Turns of two: 0 takes share 0, does it, takes share 1; 1 takes share 2; 0 is lost; 1 does share 2, then share 1.
        FactShares x = new FactShares();
        x.workers(2);
        for (int i = 0; i < 3; i++) {
            shareOf(x, i, PUT, 1, 1);
        }
        x.lose(0, 5);
        due("run(1)", x.run(1), SO_MANY);
        toldIs(x, 4, 4, 4, 8, 1);
        doersAre(x, 0, 1, 1);
        // In rounds that do not count, too: of two rounds the second is spoilt.
        x = counting();
        shareOf(x, 1, FACT, 0, 0, POINT, 0, 0);
        due("run(5)", x.run(5), SPOILT);
        toldIs(x, 4, 4, 4);
        x = counting();
        x.set(20, 0);
        due("run(5)", x.run(5), SPENT);
        toldIs(x, 4, 1, 1);
    }

    @Says(in = "Promise 11", value = "Of all: 6 TURNS, 7 WORKERS left, 8 SHARES, 9 who had the latest TURN (NONE).")
    static void toldOfAll() {
        FactShares x = new FactShares();
        x.workers(4);
        toldIs(x, 6, 0, 4, 0, NONE);
        x.run(1);
        toldIs(x, 6, 0, 4, 0, NONE);
        x.share(0);
        // Turns of four: 0 0 0 1 2 3 1 1.
        int[] had = {0, 0, 0, 1, 2, 3, 1, 1};
        for (int i = 0; i < had.length; i++) {
            x.run(1);
            toldIs(x, 6, i + 1, 4, 1, had[i]);
        }
        // The latest turn was that of one who is lost by it.
        x.workers(1);
        x.lose(0, 1);
        x.run(1);
        toldIs(x, 6, 9, 0, 1, 0);
    }

    @Says(in = "Promise 11", value = "OUTSIDE.")
    static void toldOutside() {
        for (int what : new int[] {-1, 10, MIN, MAX}) {
            due("told(" + what + ")", new FactShares().told(what), OUTSIDE);
        }
    }

    @Says(in = "Promise 12", value = "Who did a SHARE in the latest ROUND that began (NONE: it was not DONE).")
    static void doer() {
        FactShares x = new FactShares();
        shareOf(x, 0, PUT, 1, 1);
        doersAre(x, NONE);
        x.run(1);
        doersAre(x, 0);
        // A share that came behind the latest round.
        shareOf(x, 1, PUT, 2, 1);
        doersAre(x, 0, NONE);
        // One that is spoilt is done.
        due("run(1)", x.run(1), SPOILT);
        doersAre(x, 0, 0);
        // A run that is refused, workers() and clear() begin no round.
        x.run(0);
        x.workers(4);
        x.clear();
        doersAre(x, 0, 0);
        // The round closes with share 0 done, share 1 not; then with none.
        x.workers(1);
        x.lose(0, 4);
        due("run(1)", x.run(1), CLOSED);
        doersAre(x, 0, NONE);
        due("run(1)", x.run(1), CLOSED);
        doersAre(x, NONE, NONE);
        // Turns of two: 0 0 0 1 0 in the first round, 1 1 1 0 0 1 in the second, whether of one run or of two.
        x = counting();
        x.workers(2);
        x.set(20, 1000);
        due("run(1)", x.run(1), SO_MANY);
        doersAre(x, 0);
        due("run(1)", x.run(1), SO_MANY);
        doersAre(x, 1);
        x.clear();
        x.fact(0, 0, 0);
        due("run(2)", x.run(2), SO_MANY);
        doersAre(x, 1);
    }

    @Says(in = "Promise 12", value = "UNKNOWN.")
    static void doerUnknown() {
        FactShares x = new FactShares();
        due("doer(0)", x.doer(0), UNKNOWN);
        x.share(0);
        due("doer(0)", x.doer(0), NONE);
        for (int share : new int[] {1, -1, 10, MIN, MAX}) {
            due("doer(" + share + ")", x.doer(share), UNKNOWN);
        }
    }

    @Says(in = "Promise 13", value = "All FACTS are NOTHING, TURNS 0, x 0;")
    static void clearForgets() {
        FactShares x = oneTurnRounds(3);
        for (int f = 0; f < 10; f++) {
            x.fact(f, f, f);
        }
        x.run(1);
        x.seed(99);
        x.clear();
        for (int f = 0; f < 10; f++) {
            factIs(x, f, NONE, NONE);
        }
        due("told(6)", x.told(6), 0);
        due("seed(99)", x.seed(99), 0);
        x.clear();
        // Turns of three from x = 0: 0 2.
        x.run(1);
        due("told(9)", x.told(9), 0);
        x.run(1);
        due("told(9)", x.told(9), 2);
    }

    @Says(in = "Promise 13", value = "SHARES, WORKERS that are left, who is to be LOST stay")
    static void clearLeaves() {
        FactShares x = new FactShares();
        x.workers(3);
        shareOf(x, 5, PUT, 7, 7);
        x.lose(0, 1);
        x.lose(2, 4);
        // Turns: 0 is lost, then of workers 1 and 2: 1 takes, 1 does.
        due("run(1)", x.run(1), SO_MANY);
        toldIs(x, 6, 3, 2, 1, 1);
        x.set(8, 900);
        x.clear();
        toldIs(x, 6, 0, 2, 1);
        due("lose(0, 1)", x.lose(0, 1), UNKNOWN);
        // Turns are counted anew: 1 takes, 1 does; in the second round 1 takes, 2 is lost at turn 4, 1 does.
        due("run(2)", x.run(2), UNCHANGED);
        toldIs(x, 6, 5, 1, 1, 1);
        factIs(x, 5, 7, 7);
        due("set(3, 1000)", x.set(3, 1000), 8);
    }

    @Says(in = "Promise 13", value = "how many FACTS were not NOTHING.")
    static void clearCounts() {
        FactShares x = new FactShares();
        due("clear()", x.clear(), 0);
        for (int n = 1; n <= 10; n++) {
            for (int f = 0; f < n; f++) {
                x.fact(9 - f, 0, 0);
            }
            due("clear()", x.clear(), n);
            due("clear()", x.clear(), 0);
        }
        shareOf(x, 3, PUT, 1, 1);
        x.run(1);
        due("clear()", x.clear(), 1);
    }
}
