import java.util.ArrayList;
import java.util.List;
import java.util.function.Consumer;
import java.util.function.ToIntFunction;

/**
 * All that can be asked of a council after a run of calls. The questions are more than one object may be asked, so
 * the run is played anew on further objects: the same calls always give the same answers.
 */
final class Views {
    private static final String EQUALS = " = ";
    /** The line of count(4), how many messages came. */
    private static final int CAME = 4;

    private record View(String name, ToIntFunction<Council> question) {
    }

    private Views() {
    }

    /** Of each question a line with its answer. */
    static List<String> after(int managers, int f, Consumer<Council> run) {
        List<String> lines = new ArrayList<>();
        Council x = played(managers, f, run);
        for (View view : questions(played(managers, f, run))) {
            if (x.left() == 0) {
                x = played(managers, f, run);
            }
            lines.add(view.name + EQUALS + view.question.applyAsInt(x));
        }
        return lines;
    }

    /** After the act all is as before it, and goes on as without it. */
    static void unchangedBy(String what, int managers, int f, Consumer<Council> before, Consumer<Council> act) {
        alike(what, managers, f, before, before.andThen(act), 0);
    }

    /** The message comes and leads to nothing: all is as if it were dropped, but that it came. */
    static void comesToNothing(String what, int managers, int f, Consumer<Council> before, int i) {
        Council x = played(managers, f, before);
        int kind = x.message(i, 0);
        Check.due(what + ": its kind", x.deliver(i), kind);
        alike(what, managers, f, before.andThen(y -> y.drop(i)), before.andThen(y -> y.deliver(i)), 1);
    }

    /** Two runs come to the same and go on alike, but that so many messages more came in the second. */
    private static void alike(String what, int managers, int f, Consumer<Council> one, Consumer<Council> other, int more) {
        same(what, after(managers, f, one), after(managers, f, other), more);
        List<String> later = after(managers, f, one.andThen(Views::goOn));
        same(what + ", later", later, after(managers, f, other.andThen(Views::goOn)), more);
    }

    private static void goOn(Council x) {
        for (int k = 0; k < 3; k++) {
            x.recover(Check.LEADER, k);
            x.recover(Check.ACCEPTOR, k);
        }
        x.calm(400);
        x.begin(1);
        x.calm(400);
    }

    private static void same(String what, List<String> want, List<String> got, int more) {
        want.set(CAME, plus(want.get(CAME), more));
        for (int k = 0; k < want.size() && k < got.size(); k++) {
            if (!want.get(k).equals(got.get(k))) {
                Check.fault(what + ": " + got.get(k) + ", due is " + want.get(k));
                return;
            }
        }
        Check.due(what + ": how many views", got.size(), want.size());
    }

    private static String plus(String line, int more) {
        int at = line.indexOf(EQUALS) + EQUALS.length();
        return line.substring(0, at) + (Integer.parseInt(line.substring(at)) + more);
    }

    private static Council played(int managers, int f, Consumer<Council> run) {
        Council x = new Council(managers, f);
        run.accept(x);
        return x;
    }

    private static List<View> questions(Council x) {
        List<View> made = new ArrayList<>();
        int managers = x.count(0);
        int acceptors = x.count(1);
        int messages = x.count(2);
        for (int what = 0; what < 10; what++) {
            int w = what;
            made.add(new View("count(" + w + ")", y -> y.count(w)));
        }
        made.add(new View("astray()", Council::astray));
        for (int manager = 0; manager < managers; manager++) {
            addManager(made, manager, acceptors);
        }
        for (int leader = 0; leader < 3; leader++) {
            for (int what = 0; what < 6; what++) {
                int l = leader;
                int w = what;
                made.add(new View("leader(" + l + ", " + w + ")", y -> y.leader(l, w)));
            }
        }
        for (int i = 0; i < messages; i++) {
            addMessage(made, i, managers);
        }
        return made;
    }

    private static void addManager(List<View> made, int m, int acceptors) {
        made.add(new View("manager(" + m + ", 0)", y -> y.manager(m, 0)));
        made.add(new View("manager(" + m + ", 1)", y -> y.manager(m, 1)));
        made.add(new View("chosen(" + m + ")", y -> y.chosen(m)));
        for (int leader = 0; leader < 3; leader++) {
            int l = leader;
            made.add(new View("outcome(" + l + ", " + m + ")", y -> y.outcome(l, m)));
        }
        for (int acceptor = 0; acceptor < acceptors; acceptor++) {
            int a = acceptor;
            for (int what = 0; what < 4; what++) {
                int w = what;
                made.add(new View("acceptor(" + a + ", " + m + ", " + w + ")", y -> y.acceptor(a, m, w)));
            }
            for (int leader = 0; leader < 3; leader++) {
                int l = leader;
                made.add(new View("seen(" + l + ", " + m + ", " + a + ")", y -> y.seen(l, m, a)));
            }
        }
    }

    private static void addMessage(List<View> made, int i, int managers) {
        for (int what = 0; what < 6; what++) {
            int w = what;
            made.add(new View("message(" + i + ", " + w + ")", y -> y.message(i, w)));
        }
        for (int manager = 0; manager < managers; manager++) {
            int m = manager;
            made.add(new View("told(" + i + ", " + m + ", true)", y -> y.told(i, m, true)));
            made.add(new View("told(" + i + ", " + m + ", false)", y -> y.told(i, m, false)));
        }
    }
}
