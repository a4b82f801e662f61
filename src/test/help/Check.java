import java.util.Set;
import java.util.function.ObjIntConsumer;
import java.util.function.Supplier;

/**
 * Compares answers, prints those that are not as due, and ends a test with 1 if there was one. Tests extend it, so that
 * they can name what stands here without more ado.
 */
class Check {
    static final int VOTE = 0;
    static final int VOTED = 1;
    static final int ASK = 2;
    static final int TOLD = 3;
    static final int DECISION = 4;
    static final int QUESTION = 5;

    static final int MANAGER = 0;
    static final int ACCEPTOR = 1;
    static final int LEADER = 2;

    private static final Set<String> HELPERS = Set.of("Check", "Council", "Views");

    private static int wrong = 0;
    private static int sentences = 0;
    static String section = "";

    /** A test of its own for one sentence of the document. */
    static void sentence(String text, Runnable test) {
        section = text;
        sentences++;
        test.run();
    }

    static void due(String what, boolean got, boolean want) {
        due(what, got ? 1 : 0, want ? 1 : 0);
    }

    static void due(String what, long got, long want) {
        if (got != want) {
            fault(what + " answered " + got + ", due is " + want);
        }
    }

    static void fault(String what) {
        wrong++;
        System.out.println("[" + section + "] line " + lineOfTest() + ": " + what);
    }

    private static int lineOfTest() {
        for (StackTraceElement e : new Throwable().getStackTrace()) {
            if (!HELPERS.contains(e.getClassName())) {
                return e.getLineNumber();
            }
        }
        return 0;
    }

    static void messageIs(Council x, int i, int... parts) {
        for (int what = 0; what < parts.length; what++) {
            due("message(" + i + ", " + what + ")", x.message(i, what), parts[what]);
        }
    }

    static void leaderIs(Council x, int l, int... parts) {
        for (int what = 0; what < parts.length; what++) {
            due("leader(" + l + ", " + what + ")", x.leader(l, what), parts[what]);
        }
    }

    /** There are the ones 0 .. many - 1 and no others; each is asked for on an object of its own. */
    static void onesAre(int many, Supplier<Council> made, ObjIntConsumer<Council> call) {
        for (int one : new int[] {0, many - 1}) {
            if (many > 0) {
                Council x = made.get();
                throwsNothing("the one " + one + " of " + many, () -> call.accept(x, one));
            }
        }
        for (int one : new int[] {-1, many, many + 1, Integer.MIN_VALUE, Integer.MAX_VALUE}) {
            Council x = made.get();
            throwsIndex("the one " + one + " of " + many, () -> call.accept(x, one));
        }
    }

    static void throwsIndex(String what, Runnable call) {
        due(what + " throws (1: IndexOutOfBoundsException)", thrownBy(call), 1);
    }

    static void throwsArgument(String what, Runnable call) {
        due(what + " throws (2: IllegalArgumentException)", thrownBy(call), 2);
    }

    static void throwsNothing(String what, Runnable call) {
        due(what + " throws (0: nothing)", thrownBy(call), 0);
    }

    /** The exact class: what the machine throws by itself bears a name below these. */
    private static int thrownBy(Runnable call) {
        try {
            call.run();
            return 0;
        } catch (RuntimeException e) {
            if (e.getClass() == IndexOutOfBoundsException.class) {
                return 1;
            }
            return e.getClass() == IllegalArgumentException.class ? 2 : 3;
        }
    }

    static void end() {
        String tested = sentences > 0 ? ", of " + sentences + " sentences" : "";
        System.out.println(wrong == 0 ? "all answers are as due" + tested : wrong + " answers are not as due");
        if (wrong != 0) {
            System.exit(1);
        }
    }
}
