import java.lang.reflect.Array;
import java.lang.reflect.Field;

/**
 * Promise 22 counts what a right council never comes to, so these states are set from outside, past the face.
 */
public final class AstrayTests {
    private static final int COMMITTED = 3;
    private static final int ABORTED = 4;

    private static int wrong = 0;

    public static void main(String[] args) throws Exception {
        committedWhileOneAborted();
        committedWithoutProposing();
        unlikeWords();
        decisionsWithoutChoice();
        severalAtOnce();
        System.out.println(wrong == 0 ? "all answers are as due" : wrong + " answers are not as due");
        if (wrong != 0) {
            System.exit(1);
        }
    }

    private static void committedWhileOneAborted() throws Exception {
        CommitCouncil x = allPrepared(4);
        set(at(x, "managers", 0), "state", COMMITTED);
        set(at(x, "managers", 1), "state", COMMITTED);
        due("two COMMITTED", x.astray(), 0);
        set(at(x, "managers", 3), "state", ABORTED);
        due("two COMMITTED, one ABORTED", x.astray(), 2);
        set(at(x, "managers", 2), "state", ABORTED);
        due("two COMMITTED, two ABORTED", x.astray(), 2);
        set(at(x, "managers", 0), "state", ABORTED);
        set(at(x, "managers", 1), "state", ABORTED);
        due("all ABORTED", x.astray(), 0);
    }

    private static void committedWithoutProposing() throws Exception {
        CommitCouncil x = new CommitCouncil(3, 1);
        x.prepare(0);
        x.refuse(1);
        set(at(x, "managers", 0), "state", COMMITTED);
        due("one that proposed PREPARED", x.astray(), 0);
        set(at(x, "managers", 1), "state", COMMITTED);
        due("one that proposed ABORTED", x.astray(), 1);
        set(at(x, "managers", 2), "state", COMMITTED);
        due("one that proposed nothing", x.astray(), 2);
    }

    private static void unlikeWords() throws Exception {
        CommitCouncil x = new CommitCouncil(2, 1);
        x.prepare(0);
        x.refuse(1);
        x.calm(6);
        due("one word each", x.astray(), 0);
        Object ledger = get(x, "ledger");
        java.lang.reflect.Method enter = ledger.getClass().getDeclaredMethod(
            "enter", int.class, int.class, int.class, int.class);
        enter.setAccessible(true);
        enter.invoke(ledger, 0, 1, 2, 0);
        due("one acceptor with another word", x.astray(), 0);
        enter.invoke(ledger, 0, 1, 2, 1);
        due("two acceptors with another word", x.astray(), 1);
        enter.invoke(ledger, 0, 1, 2, 2);
        due("three acceptors with another word", x.astray(), 1);
        due("the first word stays", x.chosen(0), 1);
    }

    private static void decisionsWithoutChoice() throws Exception {
        CommitCouncil x = allPrepared(2);
        set(at(x, "leaders", 0), "decision", 1);
        due("COMMIT, nothing chosen", x.astray(), 1);
        set(at(x, "leaders", 2), "decision", 2);
        due("and ABORT, nothing chosen", x.astray(), 2);
        x.calm(3);
        due("one of two is chosen PREPARED", x.astray(), 2);
        x.calm(3);
        due("all are chosen PREPARED", x.astray(), 1);

        CommitCouncil y = new CommitCouncil(2, 1);
        y.prepare(0);
        y.refuse(1);
        y.calm(6);
        set(at(y, "leaders", 0), "decision", 1);
        set(at(y, "leaders", 1), "decision", 2);
        due("COMMIT and ABORT, one is chosen ABORTED", y.astray(), 1);
    }

    private static void severalAtOnce() throws Exception {
        CommitCouncil x = new CommitCouncil(2, 1);
        set(at(x, "managers", 0), "state", COMMITTED);
        set(at(x, "managers", 1), "state", ABORTED);
        set(at(x, "leaders", 1), "decision", 1);
        due("COMMITTED beside ABORTED, unproposed, and a leader's COMMIT", x.astray(), 3);
    }

    private static CommitCouncil allPrepared(int managers) {
        CommitCouncil x = new CommitCouncil(managers, 1);
        for (int m = 0; m < managers; m++) {
            x.prepare(m);
        }
        return x;
    }

    private static Object get(Object owner, String name) throws Exception {
        Field field = owner.getClass().getDeclaredField(name);
        field.setAccessible(true);
        return field.get(owner);
    }

    private static Object at(Object owner, String row, int i) throws Exception {
        return Array.get(get(owner, row), i);
    }

    private static void set(Object owner, String name, int value) throws Exception {
        Field field = owner.getClass().getDeclaredField(name);
        field.setAccessible(true);
        field.setInt(owner, value);
    }

    private static void due(String what, long got, long want) {
        if (got != want) {
            wrong++;
            System.out.println(what + ": astray() answered " + got + ", due is " + want);
        }
    }
}
