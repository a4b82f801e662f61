import java.util.ArrayList;
import java.util.Arrays;
import java.util.Collections;
import java.util.HashMap;
import java.util.HashSet;
import java.util.List;
import java.util.Map;
import java.util.Random;
import java.util.Set;
import java.util.TreeMap;
import java.util.function.ToIntFunction;

/**
 * Random runs of calls on the class and on a plain model, written from the document's words alone. The model does an
 * act first and takes the whole of it back if more than 400 messages would be there. All that can be asked is compared
 * too, on objects on which the run is played anew, as one object has 512 calls. The seeds are fixed, so each run of the
 * test is the same.
 */
public final class ModelTests extends Check {
    private static final int RUNS = 700;
    private static final int ACTS = 400;
    private static final int SOME_VIEWS = 250;

    private static int wrong = 0;
    private static final Map<String, Integer> reached = new HashMap<>();

    public static void main(String[] args) {
        for (int seed = 0; seed < RUNS && wrong < 20; seed++) {
            play(seed);
        }
        // A run that never comes to these would compare nothing worth comparing.
        for (String what : new String[] {"full", "no room for VOTE", "no room for VOTED", "no room for TOLD",
            "no room for begin", "commit", "abort", "commit after a ballot", "ballot above 20", "views asked"}) {
            due("how often runs reached: " + what, reached.getOrDefault(what, 0) > 0, true);
        }
        System.out.println(new TreeMap<>(reached));
        end();
    }

    private static void play(int seed) {
        section = "seed " + seed;
        Random random = new Random(seed);
        int managers = random.nextInt(9);
        int f = random.nextInt(4);
        Run run = new Run(new Council(managers, f), new Model(managers, f), new ArrayList<>());
        int[] weights = weights(random, seed);
        for (int k = 0; k < ACTS && wrong == 0; k++) {
            if (seed % 5 == 1) {
                actInAFullRow(run, random);
            } else {
                act(run, random, weights);
            }
            if (k == ACTS - 1) {
                compare(run, managers, f, viewsOf(run.model));
            } else if (seed % 50 == 0 || random.nextInt(16) == 0) {
                List<View> views = viewsOf(run.model);
                Collections.shuffle(views, random);
                compare(run, managers, f, views.subList(0, Math.min(SOME_VIEWS, views.size())));
            }
        }
        note(run.model);
    }

    private static int[] weights(Random random, int seed) {
        int[] weights = new int[13];
        for (int k = 0; k < weights.length; k++) {
            weights[k] = random.nextInt(3) == 0 ? 0 : 1 + random.nextInt(20);
        }
        // deliver, drop, copy, calm
        weights[5] *= 4;
        weights[6] = random.nextInt(2) * weights[6] / 4;
        weights[7] *= seed % 3 == 0 ? 4 : 1;
        weights[8] = seed % 4 == 0 ? weights[8] : 1;
        // falls are rare, and those that are down come up again
        weights[9] = seed % 2 == 0 ? weights[9] / 3 : 0;
        weights[10] = weights[9] * 2;
        weights[1] = random.nextInt(3) == 0 ? weights[1] : 0;
        return weights;
    }

    private static void note(Model model) {
        boolean commit = Arrays.stream(model.state.managerState).anyMatch(s -> s == 3);
        boolean abort = Arrays.stream(model.state.managerState).anyMatch(s -> s == 4);
        reach(commit ? "commit" : "no commit");
        reach(abort ? "abort" : "no abort");
        int top = 0;
        for (int l = 0; l < 3; l++) {
            top = Math.max(top, model.state.ballot[l]);
        }
        if (commit && top > 0) {
            reach("commit after a ballot");
        }
        if (top > 20) {
            reach("ballot above 20");
        }
    }

    private static void reach(String what) {
        reached.merge(what, 1, Integer::sum);
    }

    private static int pick(Random random, int[] weights) {
        int sum = 0;
        for (int w : weights) {
            sum += w;
        }
        int at = random.nextInt(Math.max(1, sum));
        for (int k = 0; k < weights.length; k++) {
            at -= weights[k];
            if (at < 0) {
                return k;
            }
        }
        return 5;
    }

    private static int oneOf(Random random, int many) {
        return random.nextInt(40) == 0 ? random.nextInt(12) - 4 : random.nextInt(Math.max(1, many));
    }

    private record Act(String name, int... a) {
        @Override
        public String toString() {
            return name + Arrays.toString(a);
        }
    }

    private record Run(Council x, Model model, List<Act> acts) {
    }

    private static void act(Run run, Random random, int[] weights) {
        int m = oneOf(random, run.model.r);
        int l = oneOf(random, 3);
        int size = run.model.state.row.size();
        int i = random.nextInt(3) == 0 ? 0 : oneOf(random, size);
        if (random.nextInt(3) == 0) {
            i = size - 1;
        }
        int sort = oneOf(random, 3);
        int one = oneOf(random, 4);
        int n = random.nextInt(30) == 0 ? random.nextInt(500) - 40 : random.nextInt(12);
        switch (pick(random, weights)) {
            case 0: same(run, new Act("prepare", m)); break;
            case 1: same(run, new Act("refuse", m)); break;
            case 2: same(run, new Act("resend", m)); break;
            case 3: same(run, new Act("question", m)); break;
            case 4: same(run, new Act("begin", l)); break;
            case 5: case 11: same(run, new Act("deliver", i)); break;
            case 6: same(run, new Act("drop", i)); break;
            case 7: same(run, new Act("copy", i)); break;
            case 8: case 12: same(run, new Act("calm", n)); break;
            case 9: same(run, new Act("crash", sort, one)); break;
            default: same(run, new Act("recover", sort, one)); break;
        }
    }

    /** All propose, most of their VOTES come, QUESTIONS fill the row, and what is none of these comes, if it can. */
    private static void actInAFullRow(Run run, Random random) {
        State s = run.model.state;
        int done = run.acts.size();
        int i = random.nextInt(Math.max(1, s.row.size()));
        for (int k = 0; k < 400 && i < s.row.size() && s.row.get(i).parts[0] == QUESTION; k++) {
            i = (i + 1) % s.row.size();
        }
        if (done < run.model.r) {
            same(run, new Act(random.nextInt(9) == 0 ? "refuse" : "prepare", done));
        } else if (done == run.model.r) {
            same(run, new Act("calm", run.model.r * run.model.n - random.nextInt(4)));
        } else if (random.nextInt(50) == 0) {
            same(run, new Act("begin", random.nextInt(3)));
        } else if (s.row.size() < 397) {
            same(run, new Act("question", 0));
        } else if (random.nextInt(6) == 0) {
            same(run, new Act("drop", s.row.size() - 1));
        } else {
            same(run, new Act("deliver", i));
        }
    }

    private static void same(Run run, Act act) {
        run.acts.add(act);
        String got = answerOf(run.x, act);
        String want = run.model.call(act.name, act.a);
        if (!got.equals(want)) {
            wrong++;
            fault(act + " answered " + got + ", due is " + want + ", after " + run.acts);
        }
        if (run.model.state.row.size() == 400) {
            reach("full");
        }
    }

    /** The answer, or the name of what is thrown. */
    private static String answerOf(Council x, Act act) {
        try {
            return String.valueOf(callOf(x, act.name, act.a));
        } catch (RuntimeException e) {
            return e.getClass().getSimpleName();
        }
    }

    private static int callOf(Council x, String name, int[] a) {
        switch (name) {
            case "prepare": return x.prepare(a[0]) ? 1 : 0;
            case "refuse": return x.refuse(a[0]) ? 1 : 0;
            case "resend": return x.resend(a[0]) ? 1 : 0;
            case "question": return x.question(a[0]) ? 1 : 0;
            case "begin": return x.begin(a[0]);
            case "deliver": return x.deliver(a[0]);
            case "drop": x.drop(a[0]); return 0;
            case "copy": return x.copy(a[0]);
            case "calm": return x.calm(a[0]);
            case "crash": return x.crash(a[0], a[1]) ? 1 : 0;
            default: return x.recover(a[0], a[1]) ? 1 : 0;
        }
    }

    /** Something that can be asked, and what the model answers. */
    private record View(String name, ToIntFunction<Council> question, int want) {
    }

    private static void compare(Run run, int managers, int f, List<View> views) {
        Council x = null;
        for (View view : views) {
            if (x == null || x.left() == 0) {
                x = new Council(managers, f);
                for (Act act : run.acts) {
                    answerOf(x, act);
                }
            }
            int got = view.question.applyAsInt(x);
            if (got != view.want) {
                wrong++;
                fault(view.name + " answered " + got + ", due is " + view.want + ", after " + run.acts);
                return;
            }
        }
        reach("views asked");
    }

    private static List<View> viewsOf(Model y) {
        State s = y.state;
        List<View> views = new ArrayList<>();
        for (int what = 0; what < 10; what++) {
            int w = what;
            views.add(new View("count(" + w + ")", x -> x.count(w), y.count(w)));
        }
        for (int i = 0; i < s.row.size(); i++) {
            addMessage(views, i, s.row.get(i), y.r);
        }
        for (int m = 0; m < y.r; m++) {
            addManager(views, m, y);
        }
        for (int l = 0; l < 3; l++) {
            int leader = l;
            int[] want = {s.ballot[l], s.phase[l], s.highest[l], s.decision[l], s.up[2][l] ? 1 : 0,
                s.phase[l] == 1 ? s.told.get(l).size() : 0};
            for (int what = 0; what < 6; what++) {
                int w = what;
                views.add(new View("leader(" + l + ", " + w + ")", x -> x.leader(leader, w), want[w]));
            }
        }
        views.add(new View("astray()", Council::astray, 0));
        return views;
    }

    private static void addMessage(List<View> views, int i, Message p, int managers) {
        for (int what = 0; what < 6; what++) {
            int w = what;
            views.add(new View("message(" + i + ", " + w + ")", x -> x.message(i, w), p.parts[w]));
        }
        for (int manager = 0; manager < managers; manager++) {
            int m = manager;
            String name = "told(" + i + ", " + m + ", ";
            views.add(new View(name + "true)", x -> x.told(i, m, true), p.toldBallot == null ? -1 : p.toldBallot[m]));
            views.add(new View(name + "false)", x -> x.told(i, m, false), p.toldWord == null ? -1 : p.toldWord[m]));
        }
    }

    private static void addManager(List<View> views, int m, Model y) {
        State s = y.state;
        views.add(new View("manager(" + m + ", 0)", x -> x.manager(m, 0), s.managerState[m]));
        views.add(new View("manager(" + m + ", 1)", x -> x.manager(m, 1), s.up[0][m] ? 1 : 0));
        views.add(new View("chosen(" + m + ")", x -> x.chosen(m), y.chosen(m)));
        for (int acceptor = 0; acceptor < y.n; acceptor++) {
            int a = acceptor;
            int[] want = {s.promised[a], s.up[1][a] ? 1 : 0, s.acceptedBallot[a][m], s.acceptedWord[a][m]};
            for (int what = 0; what < 4; what++) {
                int w = what;
                views.add(new View("acceptor(" + a + ", " + m + ", " + w + ")", x -> x.acceptor(a, m, w), want[w]));
            }
            for (int leader = 0; leader < 3; leader++) {
                int l = leader;
                views.add(new View("seen(" + l + ", " + m + ", " + a + ")", x -> x.seen(l, m, a), s.seenBallot[l][m][a]));
            }
        }
        for (int leader = 0; leader < 3; leader++) {
            int l = leader;
            views.add(new View("outcome(" + l + ", " + m + ")", x -> x.outcome(l, m), s.outcome[l][m]));
        }
    }

    /** One that is never changed, so that states can share it. */
    private static final class Message {
        final int[] parts;
        final int[] toldBallot;
        final int[] toldWord;

        Message(int[] parts, int[] toldBallot, int[] toldWord) {
            this.parts = parts;
            this.toldBallot = toldBallot;
            this.toldWord = toldWord;
        }
    }

    private static final class State {
        List<Message> row = new ArrayList<>();
        boolean[][] up;
        int[] managerState;
        int[] proposed;
        int[] promised;
        int[][] acceptedBallot;
        int[][] acceptedWord;
        Set<String> everAccepted = new HashSet<>();
        int[] ballot = new int[3];
        int[] phase = new int[3];
        int[] highest = new int[3];
        int[] decision = new int[3];
        int[][] outcome;
        int[][][] seenBallot;
        int[][][] seenWord;
        /** Of each leader the TOLD that it kept, by acceptor. */
        List<Map<Integer, Message>> told = new ArrayList<>();
        int sent;
        int came;
        int begun;

        static State fresh(int r, int n) {
            State s = new State();
            s.up = new boolean[][] {new boolean[r], new boolean[n], new boolean[3]};
            for (boolean[] row : s.up) {
                Arrays.fill(row, true);
            }
            s.managerState = new int[r];
            s.proposed = new int[r];
            s.promised = new int[n];
            s.acceptedBallot = new int[n][r];
            for (int[] row : s.acceptedBallot) {
                Arrays.fill(row, -1);
            }
            s.acceptedWord = new int[n][r];
            s.outcome = new int[3][r];
            s.seenBallot = new int[3][r][n];
            s.seenWord = new int[3][r][n];
            for (int l = 0; l < 3; l++) {
                s.told.add(new HashMap<>());
                for (int[] row : s.seenBallot[l]) {
                    Arrays.fill(row, -1);
                }
            }
            return s;
        }

        State twin() {
            State s = new State();
            s.row = new ArrayList<>(row);
            s.up = new boolean[][] {up[0].clone(), up[1].clone(), up[2].clone()};
            s.managerState = managerState.clone();
            s.proposed = proposed.clone();
            s.promised = promised.clone();
            s.acceptedBallot = twin(acceptedBallot);
            s.acceptedWord = twin(acceptedWord);
            s.everAccepted = everAccepted;
            s.ballot = ballot.clone();
            s.phase = phase.clone();
            s.highest = highest.clone();
            s.decision = decision.clone();
            s.outcome = twin(outcome);
            s.seenBallot = new int[3][][];
            s.seenWord = new int[3][][];
            for (int l = 0; l < 3; l++) {
                s.seenBallot[l] = twin(seenBallot[l]);
                s.seenWord[l] = twin(seenWord[l]);
                s.told.add(new HashMap<>(told.get(l)));
            }
            s.sent = sent;
            s.came = came;
            s.begun = begun;
            return s;
        }

        private static int[][] twin(int[][] rows) {
            int[][] made = new int[rows.length][];
            for (int k = 0; k < rows.length; k++) {
                made[k] = rows[k].clone();
            }
            return made;
        }
    }

    private static final class Model {
        final int r;
        final int n;
        State state;

        Model(int managers, int f) {
            r = managers >= 1 && managers <= 6 ? managers : 3;
            n = f == 1 || f == 2 ? 2 * f + 1 : 3;
            state = State.fresh(r, n);
        }

        /** The answer, or the name of what is thrown. */
        String call(String name, int[] a) {
            int[] many = {r, n, 3};
            int one = a[0];
            switch (name) {
                case "calm":
                    return one < 0 || one > 400 ? "IllegalArgumentException" : String.valueOf(calm(one));
                case "crash":
                case "recover":
                    if (one < 0 || one > 2) {
                        return "IllegalArgumentException";
                    }
                    if (a[1] < 0 || a[1] >= many[one]) {
                        return "IndexOutOfBoundsException";
                    }
                    return String.valueOf(name.equals("crash") ? crash(one, a[1]) : recover(one, a[1]));
                default:
                    break;
            }
            boolean ofMessage = name.equals("deliver") || name.equals("drop") || name.equals("copy");
            int bound = ofMessage ? state.row.size() : name.equals("begin") ? 3 : r;
            if (one < 0 || one >= bound) {
                return "IndexOutOfBoundsException";
            }
            return String.valueOf(tryAct(name, one));
        }

        /** Does it, and takes it back if there is no room for it. */
        private int tryAct(String name, int one) {
            State before = state;
            state = before.twin();
            Set<String> accepted = new HashSet<>();
            int answer = doIt(name, one, accepted);
            if (state.row.size() <= 400) {
                state.everAccepted.addAll(accepted);
                return answer;
            }
            int kind = name.equals("deliver") ? before.row.get(one).parts[0] : -1;
            reach("no room for " + (kind == 0 ? "VOTE" : kind == 1 ? "VOTED" : kind == 3 ? "TOLD" : name));
            state = before;
            boolean truth = !name.equals("begin") && !name.equals("deliver") && !name.equals("copy");
            return truth ? 0 : -1;
        }

        private int doIt(String name, int one, Set<String> accepted) {
            State s = state;
            switch (name) {
                case "prepare": return propose(one, 1);
                case "refuse": return propose(one, 2);
                case "resend":
                    if (!s.up[0][one] || (s.managerState[one] != 1 && s.managerState[one] != 2)) {
                        return 0;
                    }
                    votes(one, 0, s.managerState[one]);
                    return 1;
                case "question":
                    if (!s.up[0][one]) {
                        return 0;
                    }
                    for (int l = 0; l < 3; l++) {
                        send(5, l, one, -1, -1, -1);
                    }
                    return 1;
                case "begin": return begin(one);
                case "deliver": return deliver(one, accepted);
                case "drop": s.row.remove(one); return 0;
                default:
                    s.row.add(s.row.get(one));
                    s.sent++;
                    return s.row.size();
            }
        }

        private void send(int... parts) {
            state.row.add(new Message(parts, null, null));
            state.sent++;
        }

        private void votes(int manager, int ballot, int word) {
            for (int a = 0; a < n; a++) {
                send(0, a, -1, manager, ballot, word);
            }
        }

        private void decisions(int decision) {
            for (int m = 0; m < r; m++) {
                send(4, m, -1, -1, -1, decision);
            }
        }

        private int propose(int manager, int word) {
            if (!state.up[0][manager] || state.managerState[manager] != 0) {
                return 0;
            }
            state.managerState[manager] = word;
            state.proposed[manager] = word;
            votes(manager, 0, word);
            return 1;
        }

        private int begin(int l) {
            State s = state;
            if (!s.up[2][l]) {
                return -1;
            }
            int b = l + 1;
            while (b <= s.highest[l]) {
                b += 3;
            }
            s.ballot[l] = b;
            s.highest[l] = b;
            s.phase[l] = 1;
            s.told.get(l).clear();
            s.begun++;
            for (int a = 0; a < n; a++) {
                send(2, a, -1, -1, b, -1);
            }
            if (s.decision[l] != 0) {
                decisions(s.decision[l]);
            }
            return b;
        }

        private int deliver(int i, Set<String> accepted) {
            State s = state;
            Message p = s.row.remove(i);
            s.came++;
            int kind = p.parts[0];
            int to = p.parts[1];
            int sort = kind == 0 || kind == 2 ? 1 : kind == 4 ? 0 : 2;
            if (!s.up[sort][to]) {
                return kind;
            }
            switch (kind) {
                case 0: vote(p, to, accepted); break;
                case 1: voted(p, to); break;
                case 2: ask(p, to); break;
                case 3: told(p, to); break;
                case 4: s.managerState[to] = p.parts[5] == 1 ? 3 : 4; break;
                default:
                    if (s.decision[to] != 0) {
                        send(4, p.parts[2], -1, -1, -1, s.decision[to]);
                    }
                    break;
            }
            return kind;
        }

        private void vote(Message p, int a, Set<String> accepted) {
            int m = p.parts[3];
            int b = p.parts[4];
            int w = p.parts[5];
            if (b < state.promised[a]) {
                return;
            }
            state.promised[a] = b;
            state.acceptedBallot[a][m] = b;
            state.acceptedWord[a][m] = w;
            accepted.add(m + "/" + b + "/" + w + "/" + a);
            for (int l = 0; l < 3; l++) {
                send(1, l, a, m, b, w);
            }
        }

        private void ask(Message p, int a) {
            int b = p.parts[4];
            if (b <= state.promised[a]) {
                return;
            }
            state.promised[a] = b;
            int l = 0;
            while ((b - l - 1) % 3 != 0) {
                l++;
            }
            int[] parts = {3, l, a, -1, b, -1};
            state.row.add(new Message(parts, state.acceptedBallot[a].clone(), state.acceptedWord[a].clone()));
            state.sent++;
        }

        private void told(Message p, int l) {
            State s = state;
            s.highest[l] = Math.max(s.highest[l], p.parts[4]);
            if (s.phase[l] != 1 || p.parts[4] != s.ballot[l]) {
                return;
            }
            s.told.get(l).put(p.parts[2], p);
            if (s.told.get(l).size() <= n / 2) {
                return;
            }
            s.phase[l] = 2;
            for (int m = 0; m < r; m++) {
                int best = -1;
                int word = 2;
                for (Message q : s.told.get(l).values()) {
                    if (q.toldBallot[m] > best) {
                        best = q.toldBallot[m];
                        word = q.toldWord[m];
                    }
                }
                votes(m, s.ballot[l], word);
            }
        }

        private void voted(Message p, int l) {
            State s = state;
            int a = p.parts[2];
            int m = p.parts[3];
            int b = p.parts[4];
            s.highest[l] = Math.max(s.highest[l], b);
            if (b > s.seenBallot[l][m][a]) {
                s.seenBallot[l][m][a] = b;
                s.seenWord[l][m][a] = p.parts[5];
            }
            for (int k = 0; k < n && s.outcome[l][m] == 0; k++) {
                int alike = 0;
                for (int j = 0; j < n; j++) {
                    boolean both = s.seenBallot[l][m][k] >= 0 && s.seenBallot[l][m][j] == s.seenBallot[l][m][k];
                    alike += both ? 1 : 0;
                }
                if (alike > n / 2) {
                    s.outcome[l][m] = s.seenWord[l][m][k];
                }
            }
            if (s.decision[l] == 0) {
                boolean all = Arrays.stream(s.outcome[l]).allMatch(w -> w == 1);
                boolean one = Arrays.stream(s.outcome[l]).anyMatch(w -> w == 2);
                s.decision[l] = one ? 2 : all ? 1 : 0;
                if (s.decision[l] != 0) {
                    decisions(s.decision[l]);
                }
            }
        }

        private int calm(int most) {
            int times = 0;
            while (times < most && !state.row.isEmpty() && tryAct("deliver", 0) != -1) {
                times++;
            }
            return times;
        }

        private int crash(int sort, int one) {
            State s = state;
            if (!s.up[sort][one]) {
                return 0;
            }
            s.up[sort][one] = false;
            if (sort == 2) {
                s.phase[one] = 0;
                s.decision[one] = 0;
                s.told.get(one).clear();
                s.outcome[one] = new int[r];
                s.seenWord[one] = new int[r][n];
                for (int[] row : s.seenBallot[one]) {
                    Arrays.fill(row, -1);
                }
            }
            return 1;
        }

        private int recover(int sort, int one) {
            boolean down = !state.up[sort][one];
            state.up[sort][one] = true;
            return down ? 1 : 0;
        }

        int chosen(int m) {
            Map<String, Integer> counts = new HashMap<>();
            int word = 0;
            for (String entry : state.everAccepted) {
                String[] parts = entry.split("/");
                if (Integer.parseInt(parts[0]) == m) {
                    int alike = counts.merge(parts[1] + "/" + parts[2], 1, Integer::sum);
                    word = alike > n / 2 ? Integer.parseInt(parts[2]) : word;
                }
            }
            return word;
        }

        int count(int what) {
            State s = state;
            switch (what) {
                case 0: return r;
                case 1: return n;
                case 2: return s.row.size();
                case 3: return s.sent;
                case 4: return s.came;
                case 5: return trueOnes(s.up[0]);
                case 6: return trueOnes(s.up[1]);
                case 7: return (int) Arrays.stream(s.managerState).filter(k -> k == 3).count();
                case 8: return (int) Arrays.stream(s.managerState).filter(k -> k == 4).count();
                default: return s.begun;
            }
        }

        private static int trueOnes(boolean[] row) {
            int many = 0;
            for (boolean b : row) {
                many += b ? 1 : 0;
            }
            return many;
        }
    }
}
