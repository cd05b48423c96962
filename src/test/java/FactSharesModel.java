import java.util.ArrayDeque;
import java.util.ArrayList;
import java.util.Arrays;
import java.util.Deque;
import java.util.List;
import java.util.TreeMap;

/**
 * Long mixed runs of calls against a second model of the document. The model works a share out in one go, from the
 * facts alone, and lets the turns decide only who has done it and when: so it also tests that the facts are the same
 * whoever does them.
 */
public final class FactSharesModel {
    private static final int OBJECTS = 1000;
    private static final int CALLS = 512;

    public static void main(String[] args) {
        for (int object = 0; object < OBJECTS; object++) {
            if (!sameAnswers(object)) {
                System.exit(1);
            }
        }
        System.out.println("the class and the model agree");
    }

    private static boolean sameAnswers(int object) {
        Draw draw = new Draw(object);
        FactShares x = new FactShares();
        Model model = new Model();
        StringBuilder calls = new StringBuilder();
        for (int[] call : draw.script(object % 4 != 0)) {
            calls.append(Arrays.toString(call)).append('\n');
            int want = model.answer(call);
            int got = answer(x, call);
            if (got != want) {
                System.out.println(calls + "object " + object + " answered " + got + ", the model " + want);
                return false;
            }
        }
        return true;
    }

    private static int answer(FactShares x, int[] c) {
        switch (c[0]) {
            case 0: return x.share(c[1]);
            case 1: return x.act(c[1], c[2], c[3], c[4]);
            case 2: return x.fact(c[1], c[2], c[3]);
            case 3: return x.end(c[1], c[2]);
            case 4: return x.workers(c[1]);
            case 5: return x.lose(c[1], c[2]);
            case 6: return x.seed(c[1]);
            case 7: return x.set(c[1], c[2]);
            case 8: return x.run(c[1]);
            case 9: return x.told(c[1]);
            case 10: return x.doer(c[1]);
            default: return x.clear();
        }
    }

    /** The same numbers in every run of the test. */
    private static final class Draw {
        private static final int[] EXTREMES = {Integer.MIN_VALUE, Integer.MAX_VALUE, -1000001, 1000001, -1000000, 1000000,
            -1, 0, 1, 2, 3, 4, 5, 8, 9, 10, 11, 20, 21, 10000, 10001, 100000, 100001};
        private long state;

        Draw(int number) {
            state = number * 7919L + 17;
            below(2);
        }

        int below(int n) {
            state = state * 6364136223846793005L + 1442695040888963407L;
            return (int) ((state >>> 33) % n);
        }

        int from(int low, int high) {
            return low + below(high - low + 1);
        }

        int wild() {
            return below(2) == 0 ? from(-2, 12) : EXTREMES[below(EXTREMES.length)];
        }

        int[] anyCall() {
            return new int[] {below(12), wild(), below(2) == 0 ? below(10) : wild(), wild(), wild()};
        }

        /** Calls of one object: any at all, or shares that are seldom spoilt and runs of them, with a few wild calls. */
        List<int[]> script(boolean tame) {
            List<int[]> calls = new ArrayList<>();
            if (tame) {
                setFacts(calls);
                int shares = from(1, 10);
                for (int share = 0; share < shares; share++) {
                    addShare(calls, share);
                }
            }
            while (calls.size() < CALLS) {
                if (!tame || below(40) == 0) {
                    calls.add(anyCall());
                } else if (below(60) == 0) {
                    calls.add(new int[] {11});
                    setFacts(calls);
                } else {
                    calls.add(tameCall());
                }
            }
            return calls;
        }

        private void setFacts(List<int[]> calls) {
            int unset = below(12);
            for (int f = 0; f < 10; f++) {
                if (f != unset) {
                    int low = from(-40, 20);
                    calls.add(new int[] {2, f, low, low + below(3) * below(40)});
                }
            }
        }

        /** Acts that find what they need, but for one in a hundred. */
        private void addShare(List<int[]> calls, int share) {
            calls.add(new int[] {0, below(10)});
            int height = 0;
            int kept = -1;
            int acts = from(1, 8);
            for (int i = 0; i < acts; i++) {
                int sort = below(10);
                int a = below(3);
                if (below(100) == 0) {
                    calls.add(new int[] {1, share, sort, a, below(3)});
                    continue;
                }
                if (sort == 8 && height > 1) {
                    kept = a;
                    height--;
                } else if (sort == 9 && kept >= 0 && height < 3) {
                    a = kept;
                    height++;
                } else if ((sort == 2 || sort == 3 || sort == 5) && height > 1) {
                    height--;
                } else if (sort == 6 && height > 0) {
                    a = below(2) == 0 ? from(1, 5) : from(-5, -1);
                } else if (height < 3) {
                    sort = below(2);
                    a = sort == 0 ? from(-9, 1) * from(1, 9) : below(10);
                    height++;
                } else {
                    sort = 5;
                    height--;
                }
                calls.add(new int[] {1, share, sort, a, from(1, 9) * from(1, 9)});
            }
        }

        private int[] tameCall() {
            switch (below(16)) {
                case 0: return new int[] {4, from(1, 4)};
                case 1: return new int[] {5, below(4), from(1, below(2) == 0 ? 100 : 3000)};
                case 2: return new int[] {6, below(1000000) * 4001};
                case 3: return new int[] {7, from(1, 6), below(3) == 0 ? below(120) : 1000};
                case 4:
                case 5:
                case 6: return new int[] {8, from(1, 10)};
                case 7:
                case 8:
                case 9:
                case 10: return new int[] {9, below(10)};
                case 11: return new int[] {10, below(10)};
                case 12: return new int[] {2, below(10), from(-50, 0), from(0, 50)};
                case 13:
                case 14: return new int[] {3, below(10), below(2)};
                default: return new int[] {4, from(1, 4)};
            }
        }
    }

    private record Range(int low, int high) {
        static Range near(int low, int high) {
            return new Range(Math.max(-1000000, Math.min(1000000, low)), Math.max(-1000000, Math.min(1000000, high)));
        }
    }

    private record Act(int sort, int a, int b) { }

    /** What comes of a share: how many acts are done (the refused one too), what was refused, or the answer. */
    private record Outcome(int acts, int refusal, Range answer) { }

    private static final class Task {
        final int aim;
        final List<Act> acts = new ArrayList<>();
        int doer = FactShares.NONE;

        Task(int aim) {
            this.aim = aim;
        }

        Outcome outcome(Range[] facts) {
            Deque<Range> stack = new ArrayDeque<>();
            TreeMap<Integer, Range> row = new TreeMap<>();
            for (int i = 0; i < acts.size(); i++) {
                int refusal = step(acts.get(i), stack, row, facts);
                if (refusal != 0) {
                    return new Outcome(i + 1, refusal, null);
                }
            }
            return stack.isEmpty() ? new Outcome(acts.size(), 2, null) : new Outcome(acts.size(), 0, stack.peek());
        }

        private static int step(Act act, Deque<Range> stack, TreeMap<Integer, Range> row, Range[] facts) {
            int goes = act.sort >= 2 && act.sort <= 5 ? 2 : act.sort >= 6 && act.sort <= 8 ? 1 : 0;
            if (stack.size() < goes) {
                return 2;
            }
            Range y = goes > 0 ? stack.pop() : null;
            Range x = goes > 1 ? stack.pop() : null;
            Range comes = null;
            if (act.sort == 0) {
                if (act.b < act.a) {
                    return 5;
                }
                comes = new Range(act.a, act.b);
            } else if (act.sort == 1) {
                if (act.a < 0 || act.a > 9) {
                    return 2;
                }
                comes = facts[act.a];
                if (comes == null) {
                    return 1;
                }
            } else if (act.sort == 2) {
                comes = Range.near(x.low + y.low, x.high + y.high);
            } else if (act.sort == 3) {
                comes = Range.near(x.low - y.high, x.high - y.low);
            } else if (act.sort == 4) {
                comes = new Range(Math.max(x.low, y.low), Math.min(x.high, y.high));
                if (comes.low > comes.high) {
                    return 5;
                }
            } else if (act.sort == 5) {
                comes = new Range(Math.min(x.low, y.low), Math.max(x.high, y.high));
            } else if (act.sort == 6) {
                if (act.a == 0) {
                    return 3;
                }
                comes = act.a > 0 ? new Range(y.low / act.a, y.high / act.a) : new Range(y.high / act.a, y.low / act.a);
            } else if (act.sort == 7) {
                if (y.low != y.high) {
                    return 4;
                }
                comes = y;
            } else if (act.sort == 8) {
                if (act.a < 0 || act.a > 2) {
                    return 2;
                }
                row.put(act.a, y);
                return 0;
            } else {
                if (act.a < 0 || act.a > 2) {
                    return 2;
                }
                comes = row.get(act.a);
                if (comes == null) {
                    return 1;
                }
            }
            if (stack.size() == 3) {
                return 2;
            }
            stack.push(comes);
            return 0;
        }
    }

    private static final class Model {
        private static final int[] BOUNDS = {-1000000, -1000, -100, -10, 0, 10, 100, 1000, 1000000};

        private final Range[] facts = new Range[10];
        private final List<Task> tasks = new ArrayList<>();
        /* The workers that are left, each with the turn from which it is to be lost. */
        private final TreeMap<Integer, Integer> left = new TreeMap<>();
        private int x = 0, turns = 0, widen = 3, budget = 1000, latest = FactShares.NONE;
        private int rounds = 0, spoilt = FactShares.NONE, refusal = 0, counted = 0, taken = 0, leftOff = 0;

        Model() {
            left.put(0, Integer.MAX_VALUE);
        }

        private static boolean in(int number, int low, int high) {
            return number >= low && number <= high;
        }

        int answer(int[] c) {
            switch (c[0]) {
                case 0: return share(c[1]);
                case 1: return act(c[1], new Act(c[2], c[3], c[4]));
                case 2: return fact(c[1], c[2], c[3]);
                case 3: return end(c[1], c[2]);
                case 4: return workers(c[1]);
                case 5: return lose(c[1], c[2]);
                case 6: return seed(c[1]);
                case 7: return set(c[1], c[2]);
                case 8: return in(c[1], 1, 10) ? run(c[1]) : FactShares.OUTSIDE;
                case 9: return told(c[1]);
                case 10: return in(c[1], 0, tasks.size() - 1) ? tasks.get(c[1]).doer : FactShares.UNKNOWN;
                default: return clear();
            }
        }

        private int share(int aim) {
            if (!in(aim, 0, 9)) {
                return FactShares.UNKNOWN;
            }
            if (tasks.size() == 10) {
                return FactShares.ROOM;
            }
            tasks.add(new Task(aim));
            return tasks.size() - 1;
        }

        private int act(int share, Act act) {
            if (!in(share, 0, tasks.size() - 1)) {
                return FactShares.UNKNOWN;
            }
            boolean put = act.sort == 0;
            if (!in(act.sort, 0, 9) || put && !(in(act.a, -1000000, 1000000) && in(act.b, -1000000, 1000000))) {
                return FactShares.OUTSIDE;
            }
            List<Act> acts = tasks.get(share).acts;
            if (acts.size() == 8) {
                return FactShares.ROOM;
            }
            acts.add(act);
            return acts.size();
        }

        private int fact(int f, int low, int high) {
            if (!in(f, 0, 9)) {
                return FactShares.UNKNOWN;
            }
            if (!in(low, -1000000, high) || !in(high, low, 1000000)) {
                return FactShares.OUTSIDE;
            }
            facts[f] = new Range(low, high);
            return 1;
        }

        private int end(int f, int end) {
            if (!in(f, 0, 9)) {
                return FactShares.UNKNOWN;
            }
            if (!in(end, 0, 1)) {
                return FactShares.OUTSIDE;
            }
            return facts[f] == null ? FactShares.NONE : end == 0 ? facts[f].low : facts[f].high;
        }

        private int workers(int n) {
            if (!in(n, 1, 4)) {
                return FactShares.OUTSIDE;
            }
            int before = left.size();
            left.clear();
            for (int i = 0; i < n; i++) {
                left.put(i, Integer.MAX_VALUE);
            }
            return before;
        }

        private int lose(int worker, int turn) {
            if (!left.containsKey(worker)) {
                return FactShares.UNKNOWN;
            }
            if (!in(turn, 1, 100000)) {
                return FactShares.OUTSIDE;
            }
            left.put(worker, turn);
            return 1;
        }

        private int seed(int newX) {
            int before = x;
            x = newX;
            return before;
        }

        private int set(int newWiden, int newBudget) {
            if (!in(newWiden, 1, 20) || !in(newBudget, 0, 10000)) {
                return FactShares.OUTSIDE;
            }
            int before = widen;
            widen = newWiden;
            budget = newBudget;
            return before;
        }

        private int told(int what) {
            int[] all = {rounds, spoilt, refusal, counted, taken, leftOff, turns, left.size(), tasks.size(), latest};
            return in(what, 0, 9) ? all[what] : FactShares.OUTSIDE;
        }

        private int clear() {
            int known = 0;
            for (Range fact : facts) {
                known += fact == null ? 0 : 1;
            }
            Arrays.fill(facts, null);
            turns = 0;
            x = 0;
            return known;
        }

        private int run(int n) {
            rounds = 0;
            spoilt = FactShares.NONE;
            refusal = 0;
            counted = 0;
            taken = 0;
            leftOff = 0;
            int actsOfRound = 0;
            for (Task task : tasks) {
                actsOfRound += task.acts.size();
            }
            for (int round = 1; round <= n; round++) {
                List<Outcome> outcomes = new ArrayList<>();
                for (Task task : tasks) {
                    outcomes.add(task.outcome(facts));
                }
                if (!turnsOfRound(outcomes)) {
                    return 3;
                }
                for (int i = 0; i < outcomes.size(); i++) {
                    if (outcomes.get(i).refusal != 0) {
                        spoilt = i;
                        refusal = outcomes.get(i).refusal;
                        return 2;
                    }
                }
                if (round * actsOfRound > budget) {
                    return 4;
                }
                rounds = round;
                counted = round * actsOfRound;
                Range[] before = facts.clone();
                for (int i = 0; i < outcomes.size(); i++) {
                    int aim = tasks.get(i).aim;
                    facts[aim] = joined(facts[aim], outcomes.get(i).answer, round >= widen);
                }
                if (Arrays.equals(before, facts)) {
                    return 0;
                }
            }
            return 1;
        }

        private static Range joined(Range old, Range answer, boolean widens) {
            if (old == null) {
                return answer;
            }
            int low = Math.min(old.low, answer.low);
            int high = Math.max(old.high, answer.high);
            if (widens && low != old.low) {
                int from = low;
                low = Arrays.stream(BOUNDS).filter(b -> b <= from).max().getAsInt();
            }
            if (widens && high != old.high) {
                int from = high;
                high = Arrays.stream(BOUNDS).filter(b -> b >= from).min().getAsInt();
            }
            return new Range(low, high);
        }

        /** Whether all were done. */
        private boolean turnsOfRound(List<Outcome> outcomes) {
            List<Integer> line = new ArrayList<>();
            for (int i = 0; i < tasks.size(); i++) {
                line.add(i);
                tasks.get(i).doer = FactShares.NONE;
            }
            TreeMap<Integer, int[]> held = new TreeMap<>();
            while (!(line.isEmpty() && held.isEmpty())) {
                if (left.isEmpty()) {
                    return false;
                }
                x = x * 1103515245 + 12345;
                turns++;
                latest = new ArrayList<>(left.keySet()).get((x >>> 16) % left.size());
                int[] has = held.get(latest);
                if (left.get(latest) <= turns) {
                    left.remove(latest);
                    if (has != null) {
                        line.add(0, has[0]);
                        held.remove(latest);
                        leftOff++;
                    }
                    continue;
                }
                if (has != null) {
                    has[1]--;
                } else if (!line.isEmpty()) {
                    int first = line.remove(0);
                    has = new int[] {first, outcomes.get(first).acts};
                    held.put(latest, has);
                    taken++;
                }
                if (has != null && has[1] == 0) {
                    tasks.get(has[0]).doer = latest;
                    held.remove(latest);
                    leftOff++;
                }
            }
            return true;
        }
    }
}
