/**
 * A CommitCouncil whose calls are counted. The document promises 512 of them: a test that asks for more would lean on
 * answers that are free, so it ends in an error that no test takes for an exception of the class.
 */
final class Council {
    static final int PROMISED_CALLS = 512;

    private final CommitCouncil inner;
    private int calls;

    Council(int managers, int f) {
        inner = new CommitCouncil(managers, f);
    }

    /** How many of the promised calls are left. */
    int left() {
        return PROMISED_CALLS - calls;
    }

    private CommitCouncil call() {
        calls++;
        if (calls > PROMISED_CALLS) {
            throw new AssertionError("the test uses one object for more than 512 calls");
        }
        return inner;
    }

    boolean prepare(int manager) {
        return call().prepare(manager);
    }

    boolean refuse(int manager) {
        return call().refuse(manager);
    }

    boolean resend(int manager) {
        return call().resend(manager);
    }

    boolean question(int manager) {
        return call().question(manager);
    }

    int begin(int leader) {
        return call().begin(leader);
    }

    int deliver(int i) {
        return call().deliver(i);
    }

    void drop(int i) {
        call().drop(i);
    }

    int copy(int i) {
        return call().copy(i);
    }

    int calm(int n) {
        return call().calm(n);
    }

    boolean crash(int sort, int one) {
        return call().crash(sort, one);
    }

    boolean recover(int sort, int one) {
        return call().recover(sort, one);
    }

    int message(int i, int what) {
        return call().message(i, what);
    }

    int told(int i, int manager, boolean ballot) {
        return call().told(i, manager, ballot);
    }

    int manager(int manager, int what) {
        return call().manager(manager, what);
    }

    int acceptor(int acceptor, int manager, int what) {
        return call().acceptor(acceptor, manager, what);
    }

    int leader(int leader, int what) {
        return call().leader(leader, what);
    }

    int outcome(int leader, int manager) {
        return call().outcome(leader, manager);
    }

    int seen(int leader, int manager, int acceptor) {
        return call().seen(leader, manager, acceptor);
    }

    int chosen(int manager) {
        return call().chosen(manager);
    }

    int count(int what) {
        return call().count(what);
    }

    int astray() {
        return call().astray();
    }

    // ---- what tests do again and again

    /** As many messages as that are on their way: QUESTIONS of manager 0, which lead to nothing before a decision. */
    Council fill(int size) {
        int there = count(2);
        for (; there + 3 <= size; there += 3) {
            question(0);
        }
        for (; there < size; there++) {
            copy(there - 1);
        }
        Check.due("made: filled", count(2), size);
        return this;
    }

    /** All that is on its way is lost. */
    Council lose() {
        for (int there = count(2); there > 0; there--) {
            drop(0);
        }
        return this;
    }

    /** All that is on its way comes, and all that it leads to. */
    Council settle() {
        for (int k = 0; k < 10 && calm(400) > 0; k++) {
            continue;
        }
        return this;
    }

    /** The first message of this kind to this one about this manager's word comes. */
    int bring(int kind, int to, int whose) {
        int there = count(2);
        for (int i = 0; i < there; i++) {
            if (message(i, 0) == kind && message(i, 1) == to && message(i, 3) == whose) {
                return deliver(i);
            }
        }
        throw new AssertionError("the test finds no message of kind " + kind + " to " + to + " of " + whose);
    }

    /** A new one whose managers are all COMMITTED, with nothing on its way. */
    static Council committed(int managers, int f) {
        Council x = new Council(managers, f);
        for (int m = 0; m < managers; m++) {
            x.prepare(m);
        }
        x.settle();
        Check.due("made: committed", x.count(7), managers);
        return x;
    }

    /** A new one whose managers are all ABORTED by the refusal of manager 0, with nothing on its way. */
    static Council aborted(int managers, int f) {
        Council x = new Council(managers, f);
        x.refuse(0);
        x.settle();
        Check.due("made: aborted", x.count(8), managers);
        return x;
    }
}
