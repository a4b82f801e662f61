import java.util.function.IntUnaryOperator;

/** A test of its own for each sentence of promises 13 to 22, the views, that names a boundary case. */
public final class ViewBoundaryTests extends Check {
    /** Numbers that are no what of any view. */
    private static final int[] NO_WHAT = {-1, -2, 10, 11, 400, Integer.MIN_VALUE, Integer.MAX_VALUE};

    public static void main(String[] args) {
        sentence("13: of MESSAGE i: 0 its kind, 1 to whom, 2 from, 3 whose word, 4 the ballot, 5 the word, or DECISION",
            ViewBoundaryTests::partsOfMessages);
        sentence("13: NONE for others", ViewBoundaryTests::otherPartsOfMessages);
        sentence("13: IndexOutOfBoundsException", ViewBoundaryTests::messageNoSuchOne);

        sentence("14: the ballot (NONE: none) if ballot is true", () -> told(true, 0, 0, -1));
        sentence("14: else the word (0: none)", () -> told(false, 1, 2, 0));
        sentence("14: NONE for other MESSAGES", ViewBoundaryTests::toldOfOthers);
        sentence("14: IndexOutOfBoundsException", ViewBoundaryTests::toldNoSuchOne);

        sentence("15: 0 how it is, 1 whether it is UP (1)", ViewBoundaryTests::managerParts);
        sentence("15: NONE for another what",
            () -> noneBeyond(1, what -> committed().manager(1, what)));
        sentence("15: IndexOutOfBoundsException", ViewBoundaryTests::managerNoSuchOne);

        sentence("16: 0 PROMISED, 1 whether it is UP, 2 the ballot (NONE: none), 3 the word (0)",
            ViewBoundaryTests::acceptorParts);
        sentence("16: NONE for another what",
            () -> noneBeyond(3, what -> committed().acceptor(1, 1, what)));
        sentence("16: IndexOutOfBoundsException", ViewBoundaryTests::acceptorNoSuchOne);

        sentence("17: 0 BALLOT, 1 PHASE, 2 HIGHEST, 3 DECISION, 4 whether it is UP", ViewBoundaryTests::leaderParts);
        sentence("17: 5 how many told it in this ASKING (0 in others)", ViewBoundaryTests::howManyTold);
        sentence("17: NONE for another what", () -> noneBeyond(5, what -> committed().leader(1, what)));
        sentence("17: IndexOutOfBoundsException", ViewBoundaryTests::leaderNoSuchOne);
        more();
        end();
    }

    private static void more() {
        sentence("18: a leader's OUTCOME of a manager (0: none)", ViewBoundaryTests::outcome);
        sentence("18: IndexOutOfBoundsException", ViewBoundaryTests::outcomeNoSuchOne);

        sentence("19: the ballot that a leader has SEEN of a manager by an acceptor; NONE: none", ViewBoundaryTests::seen);
        sentence("19: IndexOutOfBoundsException", ViewBoundaryTests::seenNoSuchOne);

        sentence("20: CHOSEN of a manager (0: none)", ViewBoundaryTests::chosen);
        sentence("20: IndexOutOfBoundsException", ViewBoundaryTests::chosenNoSuchOne);

        sentence("21: 0 managers, 1 acceptors", ViewBoundaryTests::countOnes);
        sentence("21: 2 MESSAGES", ViewBoundaryTests::countMessages);
        sentence("21: 3 MESSAGES sent in all (copies too)", ViewBoundaryTests::countSent);
        sentence("21: 4 that came (also to one who was DOWN)", ViewBoundaryTests::countCame);
        sentence("21: 5 managers that are UP, 6 acceptors that are UP", ViewBoundaryTests::countUp);
        sentence("21: 7 managers COMMITTED, 8 ABORTED", ViewBoundaryTests::countEnded);
        sentence("21: 9 ballots begun", ViewBoundaryTests::countBegun);
        sentence("21: NONE for others", () -> noneBeyond(9, what -> committed().count(what)));

        sentence("22: managers COMMITTED while one is ABORTED: none", ViewBoundaryTests::astrayMixed);
        sentence("22: managers COMMITTED of those that did not propose PREPARED: none",
            ViewBoundaryTests::astrayUnproposed);
        sentence("22: managers for whom unlike words were CHOSEN: none", ViewBoundaryTests::astrayUnlike);
        sentence("22: leaders whose DECISION is not what is CHOSEN: none", ViewBoundaryTests::astrayLeaders);
    }

    private static Council committed() {
        return Council.committed(2, 1);
    }

    /** What is asked beyond the last what, and below 0, answers NONE; each on an object of its own. */
    private static void noneBeyond(int last, IntUnaryOperator view) {
        due("the first what", view.applyAsInt(0) != -1, true);
        due("the last what", view.applyAsInt(last) != -1, true);
        due("one more", view.applyAsInt(last + 1), -1);
        for (int what : NO_WHAT) {
            due("what " + what, view.applyAsInt(what), -1);
        }
    }

    // ---- promises 13 and 14

    /** One message of each kind, at the place of its kind's number. */
    private static Council oneOfEachKind() {
        Council x = new Council(3, 1);
        x.refuse(2);
        x.calm(2);
        x.deliver(1);
        x.deliver(3);
        x.begin(2);
        x.question(1);
        x.deliver(8);
        // Now: 1 VOTE, 4 VOTED, 3 DECISIONS, 2 ASK, 3 QUESTIONS, 1 TOLD.
        due("made: as many", x.count(2), 14);
        for (int i : new int[] {0, 4, 8, 13, 6, 11}) {
            x.copy(i);
        }
        for (int k = 0; k < 14; k++) {
            x.drop(0);
        }
        return x;
    }

    private static final int[][] PARTS = {
        {VOTE, 2, -1, 2, 0, 2},
        {VOTED, 2, 1, 2, 0, 2},
        {ASK, 1, -1, -1, 3, -1},
        {TOLD, 2, 0, -1, 3, -1},
        {DECISION, 1, -1, -1, -1, 2},
        {QUESTION, 1, 1, -1, -1, -1}};

    private static void partsOfMessages() {
        Council x = oneOfEachKind();
        for (int kind = 0; kind < PARTS.length; kind++) {
            messageIs(x, kind, PARTS[kind]);
        }
        due("no more", x.count(2), PARTS.length);
        Council commit = new Council(1, 2);
        commit.prepare(0);
        commit.calm(5);
        commit.calm(7);
        messageIs(commit, 8, DECISION, 0, -1, -1, -1, 1);
        Council first = new Council(1, 2);
        first.prepare(0);
        messageIs(first, 0, VOTE, 0, -1, 0, 0, 1);
        first.deliver(0);
        messageIs(first, 4, VOTED, 0, 0, 0, 0, 1);
    }

    private static void otherPartsOfMessages() {
        Council x = oneOfEachKind();
        for (int kind = 0; kind < PARTS.length; kind++) {
            due("what 6", x.message(kind, 6), -1);
            due("what 7", x.message(kind, 7), -1);
            for (int what : NO_WHAT) {
                due("what " + what, x.message(kind, what), -1);
            }
        }
        due("a VOTE is from none", x.message(VOTE, 2), -1);
        due("an ASK is from none", x.message(ASK, 2), -1);
        due("a DECISION is from none", x.message(DECISION, 2), -1);
        for (int kind : new int[] {ASK, TOLD, DECISION, QUESTION}) {
            due("nobody's word", x.message(kind, 3), -1);
        }
        for (int kind : new int[] {DECISION, QUESTION}) {
            due("no ballot", x.message(kind, 4), -1);
        }
        for (int kind : new int[] {ASK, TOLD, QUESTION}) {
            due("no word", x.message(kind, 5), -1);
        }
    }

    private static void messageNoSuchOne() {
        onesAre(0, () -> new Council(1, 1), (x, i) -> x.message(i, 0));
        onesAre(6, ViewBoundaryTests::oneOfEachKind, (x, i) -> x.message(i, 0));
        onesAre(6, ViewBoundaryTests::oneOfEachKind, (x, i) -> x.message(i, 6));
        onesAre(400, () -> new Council(1, 1).fill(400), (x, i) -> x.message(i, 5));
    }

    /** A TOLD of manager 0's PREPARED, manager 1's ABORTED, and nothing of the others. */
    private static void told(boolean ballot, int ofPrepared, int ofAborted, int ofNone) {
        Council x = new Council(6, 2);
        x.prepare(0);
        x.refuse(1);
        x.deliver(9);
        x.deliver(4);
        x.lose();
        x.begin(1);
        x.deliver(4);
        messageIs(x, 4, TOLD, 1, 4, -1, 2, -1);
        due("of a PREPARED one", x.told(4, 0, ballot), ofPrepared);
        due("of an ABORTED one", x.told(4, 1, ballot), ofAborted);
        for (int m = 2; m < 6; m++) {
            due("of one without a word", x.told(4, m, ballot), ofNone);
        }
        x.settle();
        x.begin(2);
        x.deliver(0);
        int last = x.count(2) - 1;
        due("kind", x.message(last, 0), TOLD);
        due("ABORTED with ballot 2", x.told(last, 5, ballot), 2);
        due("PREPARED with ballot 2", x.told(last, 0, ballot), ballot ? 2 : 1);
    }

    private static void toldOfOthers() {
        Council x = oneOfEachKind();
        for (int kind = 0; kind < PARTS.length; kind++) {
            for (int m = 0; m < 3 && kind != TOLD; m++) {
                due("the ballot, of kind " + kind, x.told(kind, m, true), -1);
                due("the word, of kind " + kind, x.told(kind, m, false), -1);
            }
        }
        due("of the TOLD itself", x.told(TOLD, 2, false), 2);
    }

    private static void toldNoSuchOne() {
        onesAre(0, () -> new Council(1, 1), (x, i) -> x.told(i, 0, true));
        onesAre(6, ViewBoundaryTests::oneOfEachKind, (x, i) -> x.told(i, 0, true));
        onesAre(6, ViewBoundaryTests::oneOfEachKind, (x, i) -> x.told(i, 2, false));
        for (int kind = 0; kind < PARTS.length; kind++) {
            int at = kind;
            onesAre(3, ViewBoundaryTests::oneOfEachKind, (x, m) -> x.told(at, m, true));
            onesAre(3, ViewBoundaryTests::oneOfEachKind, (x, m) -> x.told(at, m, false));
        }
        onesAre(400, () -> new Council(1, 1).fill(400), (x, i) -> x.told(i, 0, true));
    }

    // ---- promises 15 to 17

    private static void managerParts() {
        Council x = new Council(6, 1);
        x.prepare(1);
        x.refuse(2);
        for (int m = 0; m < 3; m++) {
            due("WORKING, PREPARED, REFUSED", x.manager(m, 0), m);
            due("UP", x.manager(m, 1), 1);
            x.crash(MANAGER, m);
            due("the same while DOWN", x.manager(m, 0), m);
            due("DOWN", x.manager(m, 1), 0);
            x.recover(MANAGER, m);
            due("UP again", x.manager(m, 1), 1);
        }
        due("COMMITTED", committed().manager(0, 0), 3);
        due("ABORTED", Council.aborted(6, 1).manager(5, 0), 4);
    }

    private static void managerNoSuchOne() {
        for (int managers = 1; managers <= 6; managers++) {
            int many = managers;
            for (int what = -1; what <= 2; what++) {
                int w = what;
                onesAre(managers, () -> new Council(many, 2), (x, m) -> x.manager(m, w));
            }
        }
    }

    private static void acceptorParts() {
        Council x = new Council(6, 2);
        x.refuse(5);
        x.deliver(4);
        int[] of5 = {0, 1, 0, 2};
        int[] of0 = {0, 1, -1, 0};
        for (int what = 0; what < 4; what++) {
            due("of manager 5", x.acceptor(4, 5, what), of5[what]);
            due("of manager 0", x.acceptor(4, 0, what), of0[what]);
            due("of another acceptor", x.acceptor(3, 5, what), of0[what]);
        }
        x.begin(1);
        x.deliver(lastOf(x, ASK));
        x.crash(ACCEPTOR, 4);
        due("PROMISED", x.acceptor(4, 5, 0), 2);
        due("PROMISED, whichever manager is asked of", x.acceptor(4, 0, 0), 2);
        due("DOWN", x.acceptor(4, 5, 1), 0);
        due("the ballot is still", x.acceptor(4, 5, 2), 0);
        due("the word is still", x.acceptor(4, 5, 3), 2);
    }

    private static int lastOf(Council x, int kind) {
        for (int i = x.count(2) - 1; i >= 0; i--) {
            if (x.message(i, 0) == kind) {
                return i;
            }
        }
        throw new AssertionError("the test finds no message of kind " + kind);
    }

    private static void acceptorNoSuchOne() {
        for (int f = 1; f <= 2; f++) {
            int half = f;
            for (int what = -1; what <= 4; what++) {
                int w = what;
                onesAre(2 * f + 1, () -> new Council(2, half), (x, a) -> x.acceptor(a, 1, w));
                onesAre(2, () -> new Council(2, half), (x, m) -> x.acceptor(2 * half, m, w));
            }
        }
    }

    private static void leaderParts() {
        Council x = new Council(2, 1);
        x.prepare(0);
        x.begin(1);
        leaderIs(x, 1, 2, 1, 2, 0, 1, 0);
        x.begin(1);
        leaderIs(x, 1, 5, 1, 5, 0, 1, 0);
        x.settle();
        leaderIs(x, 1, 5, 2, 5, 2, 1, 0);
        leaderIs(x, 0, 0, 0, 5, 2, 1, 0);
        x.crash(LEADER, 1);
        leaderIs(x, 1, 5, 0, 5, 0, 0, 0);
        x.recover(LEADER, 1);
        leaderIs(x, 1, 5, 0, 5, 0, 1, 0);
        leaderIs(committed(), 2, 0, 0, 0, 1, 1, 0);
    }

    private static void howManyTold() {
        Council x = new Council(1, 2);
        due("in no PHASE", x.leader(0, 5), 0);
        x.begin(0);
        due("at first", x.leader(0, 5), 0);
        x.calm(5);
        x.deliver(4);
        due("one", x.leader(0, 5), 1);
        x.deliver(0);
        due("two", x.leader(0, 5), 2);
        due("another leader", x.leader(1, 5), 0);
        x.begin(0);
        due("in the next ASKING", x.leader(0, 5), 0);
        x.deliver(0);
        due("TOLD of the one before does not count", x.leader(0, 5), 0);
        x.settle();
        due("VOTING", x.leader(0, 1), 2);
        due("while VOTING", x.leader(0, 5), 0);
        Council y = new Council(1, 2);
        y.begin(0);
        y.calm(7);
        due("two", y.leader(0, 5), 2);
        y.crash(LEADER, 0);
        due("DOWN", y.leader(0, 5), 0);
        y.recover(LEADER, 0);
        y.begin(0);
        due("begun anew", y.leader(0, 5), 0);
    }

    private static void leaderNoSuchOne() {
        for (int what = -1; what <= 6; what++) {
            int w = what;
            onesAre(3, () -> new Council(6, 2), (x, l) -> x.leader(l, w));
            onesAre(3, () -> new Council(1, 1), (x, l) -> x.leader(l, w));
        }
    }

    // ---- promises 18 to 20

    private static void outcome() {
        Council x = new Council(6, 2);
        x.prepare(0);
        x.refuse(5);
        x.crash(LEADER, 2);
        x.settle();
        for (int l = 0; l < 2; l++) {
            due("PREPARED", x.outcome(l, 0), 1);
            due("ABORTED", x.outcome(l, 5), 2);
            for (int m = 1; m < 5; m++) {
                due("none", x.outcome(l, m), 0);
            }
        }
        due("none by one that was DOWN", x.outcome(2, 0), 0);
        x.crash(LEADER, 0);
        due("none once it went DOWN", x.outcome(0, 5), 0);
    }

    private static void outcomeNoSuchOne() {
        for (int managers = 1; managers <= 6; managers++) {
            int many = managers;
            onesAre(3, () -> new Council(many, 1), (x, l) -> x.outcome(l, many - 1));
            onesAre(managers, () -> new Council(many, 1), (x, m) -> x.outcome(2, m));
        }
    }

    private static void seen() {
        Council x = new Council(6, 2);
        x.prepare(5);
        x.deliver(4);
        messageIs(x, 6, VOTED, 2, 4, 5, 0, 1);
        due("before", x.seen(2, 5, 4), -1);
        x.deliver(6);
        for (int l = 0; l < 3; l++) {
            for (int m = 0; m < 6; m++) {
                for (int a = 0; a < 5; a++) {
                    due("seen(" + l + ", " + m + ", " + a + ")", x.seen(l, m, a), l == 2 && m == 5 && a == 4 ? 0 : -1);
                }
            }
        }
        x.begin(0);
        x.settle();
        due("by a greater ballot", x.seen(2, 5, 4), 1);
        due("of a manager without a word", x.seen(1, 0, 0), 1);
    }

    private static void seenNoSuchOne() {
        for (int managers = 1; managers <= 6; managers++) {
            for (int f = 1; f <= 2; f++) {
                int many = managers;
                int half = f;
                onesAre(3, () -> new Council(many, half), (x, l) -> x.seen(l, many - 1, 2 * half));
                onesAre(managers, () -> new Council(many, half), (x, m) -> x.seen(2, m, 2 * half));
                onesAre(2 * f + 1, () -> new Council(many, half), (x, a) -> x.seen(2, many - 1, a));
                onesAre(2 * f + 1, () -> new Council(many, half), (x, a) -> x.seen(0, 0, a));
            }
        }
    }

    private static void chosen() {
        Council x = new Council(6, 1);
        x.prepare(0);
        x.refuse(5);
        x.calm(6);
        due("PREPARED", x.chosen(0), 1);
        due("ABORTED", x.chosen(5), 2);
        for (int m = 1; m < 5; m++) {
            due("none", x.chosen(m), 0);
        }
        for (int a = 0; a < 3; a++) {
            x.crash(ACCEPTOR, a);
        }
        due("PREPARED, though all are DOWN", x.chosen(0), 1);
        due("ABORTED, though all are DOWN", x.chosen(5), 2);
    }

    private static void chosenNoSuchOne() {
        for (int managers = 1; managers <= 6; managers++) {
            int many = managers;
            onesAre(managers, () -> new Council(many, 1), (x, m) -> x.chosen(m));
        }
    }

    // ---- promise 21

    private static void countOnes() {
        for (int managers = 0; managers <= 7; managers++) {
            for (int f = 0; f <= 3; f++) {
                Council x = new Council(managers, f);
                due("managers", x.count(0), managers >= 1 && managers <= 6 ? managers : 3);
                due("acceptors", x.count(1), f == 2 ? 5 : 3);
                x.crash(MANAGER, 0);
                x.crash(ACCEPTOR, 0);
                due("those DOWN too", x.count(0), managers >= 1 && managers <= 6 ? managers : 3);
                due("those DOWN too", x.count(1), f == 2 ? 5 : 3);
            }
        }
    }

    private static void countMessages() {
        Council x = new Council(1, 1);
        due("none", x.count(2), 0);
        x.question(0);
        due("three", x.count(2), 3);
        x.drop(0);
        due("one dropped", x.count(2), 2);
        x.deliver(0);
        due("one came", x.count(2), 1);
        x.copy(0);
        due("one copied", x.count(2), 2);
        x.calm(400);
        due("none is left", x.count(2), 0);
        due("full", new Council(1, 1).fill(400).count(2), 400);
    }

    private static void countSent() {
        Council x = new Council(1, 1);
        due("none", x.count(3), 0);
        x.prepare(0);
        due("three VOTES", x.count(3), 3);
        x.copy(0);
        due("and a copy", x.count(3), 4);
        x.drop(3);
        due("it was sent though it is lost", x.count(3), 4);
        x.deliver(0);
        due("and three VOTED", x.count(3), 7);
        x.question(0);
        due("and three QUESTIONS", x.count(3), 10);
        x.begin(0);
        due("and three ASK", x.count(3), 13);
        x.prepare(0);
        due("nothing by an act that does nothing", x.count(3), 13);
        x.calm(5);
        due("what leads to nothing sends nothing: two VOTES led to six VOTED", x.count(3), 19);
        Council full = new Council(1, 1).fill(400);
        due("400", full.count(3), 400);
        full.copy(0);
        full.question(0);
        due("nothing without room", full.count(3), 400);
    }

    private static void countCame() {
        Council x = new Council(1, 1);
        due("none", x.count(4), 0);
        x.prepare(0);
        x.deliver(0);
        due("one", x.count(4), 1);
        x.crash(ACCEPTOR, 1);
        x.deliver(0);
        due("one to one who is DOWN", x.count(4), 2);
        x.drop(0);
        due("none by a drop", x.count(4), 2);
        x.crash(LEADER, 0);
        x.crash(LEADER, 1);
        due("calm", x.calm(400), 3);
        due("three, two of them to those who are DOWN", x.count(4), 5);
        x.resend(0);
        x.fill(400);
        due("without room", x.deliver(0), -1);
        due("it did not come", x.count(4), 5);
    }

    private static void countUp() {
        Council x = new Council(6, 2);
        for (int k = 0; k < 6; k++) {
            due("managers UP", x.count(5), 6 - k);
            x.crash(MANAGER, k);
            x.crash(MANAGER, k);
        }
        due("no manager UP", x.count(5), 0);
        due("acceptors UP all the same", x.count(6), 5);
        for (int k = 0; k < 5; k++) {
            due("acceptors UP", x.count(6), 5 - k);
            x.crash(ACCEPTOR, k);
            x.crash(ACCEPTOR, k);
        }
        due("no acceptor UP", x.count(6), 0);
        x.crash(LEADER, 0);
        x.recover(MANAGER, 5);
        x.recover(ACCEPTOR, 4);
        due("one manager UP", x.count(5), 1);
        due("one acceptor UP", x.count(6), 1);
    }

    private static void countEnded() {
        for (int managers = 1; managers <= 6; managers++) {
            Council commit = Council.committed(managers, 2);
            due("COMMITTED", commit.count(7), managers);
            due("none ABORTED", commit.count(8), 0);
            Council abort = Council.aborted(managers, 2);
            due("none COMMITTED", abort.count(7), 0);
            due("ABORTED", abort.count(8), managers);
        }
        Council some = new Council(4, 1);
        some.crash(MANAGER, 1);
        some.crash(MANAGER, 2);
        some.refuse(0);
        due("REFUSED is not ABORTED", some.count(8), 0);
        some.settle();
        due("those that were UP", some.count(8), 2);
        some.crash(MANAGER, 0);
        due("also one that is DOWN now", some.count(8), 2);
        Council prepared = new Council(2, 1);
        prepared.prepare(0);
        due("PREPARED is not COMMITTED", prepared.count(7), 0);
    }

    private static void countBegun() {
        Council x = new Council(1, 1);
        due("none", x.count(9), 0);
        x.begin(0);
        x.begin(1);
        x.begin(0);
        due("three", x.count(9), 3);
        x.crash(LEADER, 2);
        x.begin(2);
        due("none by one that is DOWN", x.count(9), 3);
        x.crash(LEADER, 0);
        due("three still", x.count(9), 3);
        x.fill(398);
        x.begin(1);
        due("none without room", x.count(9), 3);
    }

    // ---- promise 22: what a right council never comes to

    private static void astrayMixed() {
        due("a new one", new Council(6, 2).astray(), 0);
        due("all COMMITTED", Council.committed(6, 2).astray(), 0);
        due("all ABORTED", Council.aborted(6, 2).astray(), 0);
        Council x = new Council(3, 1);
        x.crash(MANAGER, 2);
        x.refuse(0);
        x.settle();
        due("some ABORTED", x.astray(), 0);
    }

    private static void astrayUnproposed() {
        Council x = new Council(3, 1);
        x.prepare(0);
        x.prepare(1);
        x.crash(MANAGER, 2);
        x.begin(0);
        x.settle();
        due("those that proposed PREPARED are ABORTED beside one that did not", x.count(8), 2);
        due("none COMMITTED", x.count(7), 0);
        due("none astray", x.astray(), 0);
    }

    /** Manager 0's own VOTES come after a leader's ballot, and leaders' ballots after one another. */
    private static void astrayUnlike() {
        Council x = new Council(1, 1);
        x.prepare(0);
        x.begin(0);
        for (int k = 0; k < 3; k++) {
            x.deliver(3);
        }
        x.settle();
        due("chosen by the leader", x.chosen(0), 2);
        due("none astray", x.astray(), 0);
        x.begin(1);
        x.settle();
        x.begin(2);
        x.settle();
        due("chosen still", x.chosen(0), 2);
        due("none astray", x.astray(), 0);
    }

    private static void astrayLeaders() {
        Council x = Council.committed(3, 1);
        x.crash(LEADER, 0);
        x.recover(LEADER, 0);
        due("a leader without a DECISION is not astray", x.leader(0, 3), 0);
        due("none astray", x.astray(), 0);
        x.begin(0);
        x.settle();
        due("it has its DECISION again", x.leader(0, 3), 1);
        due("none astray", x.astray(), 0);
    }
}
