import java.lang.reflect.Array;
import java.lang.reflect.Field;
import java.lang.reflect.Method;

/**
 * The document also says what holds in states that a right council never comes to: what astray counts, and a DECISION
 * unlike the one before. These states are set past the face, in this class's own inner form. That form is free: a class
 * that has none of it is left alone, one that has only some of it is not.
 */
public final class UnreachableTests extends Check {
    private static final String[] FORM = {"managers", "leaders", "ledger"};
    private static final int COMMITTED = 3;
    private static final int ABORTED = 4;
    private static final int COMMIT = 1;
    private static final int ABORT = 2;

    public static void main(String[] args) {
        int known = partsOfTheForm();
        if (known == 0) {
            System.out.println("NOT TESTED: the class holds its state in another form");
            return;
        }
        due("parts of the inner form", known, FORM.length);
        sentence("22: managers COMMITTED while one is ABORTED", UnreachableTests::committedWhileOneAborted);
        sentence("22: managers COMMITTED of those that did not propose PREPARED",
            UnreachableTests::committedWithoutProposing);
        sentence("22: managers for whom unlike words were CHOSEN", UnreachableTests::unlikeWords);
        sentence("22: leaders whose DECISION is not what is CHOSEN (COMMIT: all PREPARED)",
            UnreachableTests::commitWithoutChoice);
        sentence("22: leaders whose DECISION is not what is CHOSEN (ABORT: one ABORTED)",
            UnreachableTests::abortWithoutChoice);
        sentence("22: how many of these there are", UnreachableTests::severalAtOnce);
        sentence("A MANAGER: COMMITTED, ABORTED, as that tells (also from COMMITTED, ABORTED)",
            UnreachableTests::decisionsUnlike);
        end();
    }

    private static int partsOfTheForm() {
        int known = 0;
        for (Field field : CommitCouncil.class.getDeclaredFields()) {
            for (String name : FORM) {
                known += field.getName().equals(name) ? 1 : 0;
            }
        }
        return known;
    }

    private static void committedWhileOneAborted() {
        CommitCouncil x = allPrepared(4);
        setState(x, 0, COMMITTED);
        setState(x, 1, COMMITTED);
        due("two COMMITTED", x.astray(), 0);
        setState(x, 3, ABORTED);
        due("two COMMITTED, one ABORTED", x.astray(), 2);
        setState(x, 2, ABORTED);
        due("two COMMITTED, two ABORTED", x.astray(), 2);
        setState(x, 0, ABORTED);
        due("one COMMITTED, three ABORTED", x.astray(), 1);
        setState(x, 1, ABORTED);
        due("all ABORTED", x.astray(), 0);
        CommitCouncil y = allPrepared(6);
        for (int m = 0; m < 5; m++) {
            setState(y, m, COMMITTED);
        }
        setState(y, 5, ABORTED);
        due("five COMMITTED, one ABORTED", y.astray(), 5);
    }

    private static void committedWithoutProposing() {
        CommitCouncil x = new CommitCouncil(3, 1);
        x.prepare(0);
        x.refuse(1);
        setState(x, 0, COMMITTED);
        due("one that proposed PREPARED", x.astray(), 0);
        setState(x, 1, COMMITTED);
        due("one that proposed ABORTED", x.astray(), 1);
        setState(x, 2, COMMITTED);
        due("one that proposed nothing", x.astray(), 2);
    }

    private static void unlikeWords() {
        CommitCouncil x = new CommitCouncil(2, 1);
        x.prepare(0);
        x.refuse(1);
        x.calm(6);
        due("one word each", x.astray(), 0);
        enter(x, 0, 1, ABORT, 0);
        due("one acceptor with another word", x.astray(), 0);
        enter(x, 0, 1, ABORT, 1);
        due("two acceptors with another word", x.astray(), 1);
        enter(x, 0, 1, ABORT, 2);
        due("three acceptors with another word", x.astray(), 1);
        enter(x, 0, 2, COMMIT, 0);
        enter(x, 0, 2, COMMIT, 1);
        due("one manager counts once", x.astray(), 1);
        due("the first word stays", x.chosen(0), 1);
        enter(x, 1, 1, COMMIT, 0);
        enter(x, 1, 1, COMMIT, 1);
        due("two managers", x.astray(), 2);
        due("the first word stays", x.chosen(1), 2);
    }

    private static void commitWithoutChoice() {
        CommitCouncil x = allPrepared(2);
        setDecision(x, 0, COMMIT);
        due("nothing is chosen", x.astray(), 1);
        setDecision(x, 2, COMMIT);
        due("two leaders", x.astray(), 2);
        x.calm(3);
        due("one of two is chosen PREPARED", x.astray(), 2);
        x.calm(3);
        due("all are chosen PREPARED", x.astray(), 0);

        CommitCouncil y = new CommitCouncil(2, 1);
        y.prepare(0);
        y.refuse(1);
        y.calm(6);
        setDecision(y, 1, COMMIT);
        due("one is chosen ABORTED", y.astray(), 1);
    }

    private static void abortWithoutChoice() {
        CommitCouncil x = new CommitCouncil(2, 1);
        x.prepare(0);
        x.refuse(1);
        setDecision(x, 0, ABORT);
        due("nothing is chosen", x.astray(), 1);
        x.calm(3);
        due("one is chosen PREPARED", x.astray(), 1);
        x.calm(3);
        due("one is chosen ABORTED", x.astray(), 0);

        CommitCouncil y = allPrepared(2);
        y.calm(6);
        setDecision(y, 0, ABORT);
        setDecision(y, 1, ABORT);
        setDecision(y, 2, COMMIT);
        due("all are chosen PREPARED", y.astray(), 2);
    }

    private static void severalAtOnce() {
        CommitCouncil x = new CommitCouncil(2, 1);
        setState(x, 0, COMMITTED);
        setState(x, 1, ABORTED);
        setDecision(x, 1, COMMIT);
        due("COMMITTED beside ABORTED, unproposed, and a leader's COMMIT", x.astray(), 3);
        enter(x, 1, 0, COMMIT, 0);
        enter(x, 1, 0, COMMIT, 1);
        enter(x, 1, 1, ABORT, 0);
        enter(x, 1, 1, ABORT, 1);
        due("and unlike words of a manager", x.astray(), 4);
    }

    private static void decisionsUnlike() {
        CommitCouncil x = allPrepared(2);
        answer(x, COMMIT);
        due("COMMIT", x.manager(1, 0), COMMITTED);
        answer(x, ABORT);
        due("ABORT to a COMMITTED one", x.manager(1, 0), ABORTED);
        answer(x, COMMIT);
        due("COMMIT to an ABORTED one", x.manager(1, 0), COMMITTED);
        CommitCouncil y = new CommitCouncil(2, 1);
        y.refuse(0);
        answer(y, COMMIT);
        due("COMMIT to a WORKING one", y.manager(1, 0), COMMITTED);
        due("no other is", y.manager(0, 0), 2);
    }

    /** Leader 0 has this DECISION, and manager 1 asks for it. */
    private static void answer(CommitCouncil x, int decision) {
        setDecision(x, 0, decision);
        int there = x.count(2);
        x.question(1);
        x.deliver(there);
        x.deliver(there + 2);
    }

    private static CommitCouncil allPrepared(int managers) {
        CommitCouncil x = new CommitCouncil(managers, 1);
        for (int m = 0; m < managers; m++) {
            x.prepare(m);
        }
        return x;
    }

    private static void setState(CommitCouncil x, int manager, int state) {
        set(Array.get(get(x, "managers"), manager), "state", state);
    }

    private static void setDecision(CommitCouncil x, int leader, int decision) {
        set(Array.get(get(x, "leaders"), leader), "decision", decision);
    }

    private static void enter(CommitCouncil x, int manager, int ballot, int word, int acceptor) {
        try {
            Object ledger = get(x, "ledger");
            Method enter = ledger.getClass().getDeclaredMethod("enter", int.class, int.class, int.class, int.class);
            enter.setAccessible(true);
            enter.invoke(ledger, manager, ballot, word, acceptor);
        } catch (ReflectiveOperationException e) {
            throw new AssertionError(e);
        }
    }

    private static Object get(Object owner, String name) {
        try {
            Field field = owner.getClass().getDeclaredField(name);
            field.setAccessible(true);
            return field.get(owner);
        } catch (ReflectiveOperationException e) {
            throw new AssertionError(e);
        }
    }

    private static void set(Object owner, String name, int value) {
        try {
            Field field = owner.getClass().getDeclaredField(name);
            field.setAccessible(true);
            field.setInt(owner, value);
        } catch (ReflectiveOperationException e) {
            throw new AssertionError(e);
        }
    }
}
