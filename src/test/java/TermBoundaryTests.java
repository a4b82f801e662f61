import java.util.ArrayList;
import java.util.List;
import java.util.function.Consumer;
import java.util.function.ToIntFunction;

/** A test of its own for each sentence of the document's terms that names a boundary case. */
public final class TermBoundaryTests extends Check {
    public static void main(String[] args) {
        sentence("An object is used for at most 512 calls", TermBoundaryTests::the512thCall);
        sentence("MANAGERS 0 .. R - 1, ACCEPTORS 0 .. 2 F, LEADERS 0, 1, 2", TermBoundaryTests::whoThereIs);
        sentence("BALLOTS: 0 is the managers' own; those of leader l are l + 1, l + 4, l + 7, ..",
            TermBoundaryTests::whoseBallots);
        sentence("MESSAGES are on their way in a row, the latest sent behind", TermBoundaryTests::latestBehind);
        sentence("at most 400", TermBoundaryTests::atMost400);
        sentence("An act by which more would be there does nothing", TermBoundaryTests::actsWithoutRoom);
        sentence("An act by which more would be there: what leads to nothing needs no room",
            TermBoundaryTests::nothingNeedsNoRoom);
        sentence("A MESSAGE that comes to one who is DOWN is gone", TermBoundaryTests::downIsGone);
        sentence("TOLD: as it was as this was sent", TermBoundaryTests::toldAsItWasSent);
        managers();
        acceptors();
        leaders();
        sentence("CHOSEN: more than half of the acceptors ever ACCEPTED with one ballot", TermBoundaryTests::chosen);
        sentence("What throws changes nothing", TermBoundaryTests::whatThrows);
        sentence("NONE = -1", () -> due("NONE", CommitCouncil.NONE, -1));
        end();
    }

    private static void managers() {
        sentence("As it becomes PREPARED (REFUSED) it sends a VOTE to each acceptor in order",
            TermBoundaryTests::votesInOrder);
        sentence("With a DECISION it is COMMITTED, ABORTED, as that tells", TermBoundaryTests::withADecision);
        sentence("A MANAGER: going down loses nothing of it", TermBoundaryTests::managerLosesNothing);
    }

    private static void acceptors() {
        sentence("PROMISED (0 at first), ACCEPTED (none at first)", TermBoundaryTests::acceptorAtFirst);
        sentence("A VOTE of a ballot not below PROMISED", TermBoundaryTests::voteNotBelow);
        sentence("A VOTE, another one: nothing", TermBoundaryTests::voteBelow);
        sentence("VOTED goes to each leader in order", TermBoundaryTests::votedToEachLeader);
        sentence("An ASK of a ballot above PROMISED", TermBoundaryTests::askAbove);
        sentence("An ASK, another one: nothing", TermBoundaryTests::askNotAbove);
        sentence("TOLD goes to that ballot's leader", TermBoundaryTests::toldToItsLeader);
        sentence("An ACCEPTOR: going down loses nothing of it", TermBoundaryTests::acceptorLosesNothing);
    }

    private static void leaders() {
        sentence("BALLOT (0: none), PHASE (0 none)", TermBoundaryTests::leaderAtFirst);
        sentence("HIGHEST: of those that it began, and of all VOTED and TOLD that came", TermBoundaryTests::highest);
        sentence("BALLOT is the least of its own above HIGHEST", TermBoundaryTests::leastAboveHighest);
        sentence("ASK goes to each acceptor in order, and then, if it has a DECISION, that to each manager in order",
            TermBoundaryTests::beginningSends);
        sentence("TOLD of its BALLOT while it is ASKING is kept", TermBoundaryTests::toldOfOtherTimes);
        sentence("as more than half of the acceptors told", TermBoundaryTests::moreThanHalfTold);
        sentence("(each counts once)", TermBoundaryTests::eachCountsOnce);
        sentence("the word with the greatest ballot that one of these told", TermBoundaryTests::greatestBallot);
        sentence("that one of these told: no others", TermBoundaryTests::oneOfThese);
        sentence("or ABORTED if none told one", TermBoundaryTests::noneToldOne);
        sentence("of each manager in order; VOTE with BALLOT to each acceptor in order", TermBoundaryTests::votingSends);
        sentence("VOTED: if its ballot is above that of SEEN (or there is none), it is SEEN now",
            TermBoundaryTests::seenAbove);
        sentence("as more than half of the acceptors are SEEN with one ballot for a manager",
            TermBoundaryTests::moreThanHalfSeen);
        sentence("the manager's OUTCOME, for good", TermBoundaryTests::outcomeForGood);
        sentence("As an OUTCOME is ABORTED, the DECISION is ABORT", TermBoundaryTests::abortOfOne);
        sentence("as all are PREPARED, COMMIT", TermBoundaryTests::commitOfAll);
        sentence("as it comes to be so DECISION goes to each manager in order", TermBoundaryTests::decisionGoesOnce);
        sentence("QUESTION: if there is a DECISION, it goes to that manager", TermBoundaryTests::question);
        sentence("Going down loses all but BALLOT and HIGHEST", TermBoundaryTests::leaderLosesAllBut);
    }

    // ---- the object, its ones and its row

    /** As many ballots as 512 calls can begin: nobody is up to hear the ASKs, so one calm makes room for 133 more. */
    private static void the512thCall() {
        Council x = new Council(1, 1);
        for (int a = 0; a < 3; a++) {
            x.crash(ACCEPTOR, a);
        }
        int ballot = 0;
        for (int k = 0; x.left() > 12; k++) {
            if (k % 134 == 133) {
                due("calm", x.calm(400), 399);
            } else {
                ballot += 3;
                due("begin(2)", x.begin(2), ballot);
            }
        }
        x.calm(400);
        x.recover(ACCEPTOR, 1);
        x.recover(ACCEPTOR, 2);
        ballot += 3;
        due("begin(2)", x.begin(2), ballot);
        x.calm(400);
        due("promised", x.acceptor(1, 0, 0), ballot);
        due("accepted", x.acceptor(1, 0, 2), ballot);
        due("chosen", x.chosen(0), 2);
        due("seen", x.seen(0, 0, 2), ballot);
        due("decision", x.leader(0, 3), 2);
        due("highest", x.leader(1, 2), ballot);
        while (x.left() > 1) {
            due("manager", x.manager(0, 0), 4);
        }
        due("the 512th call", x.begin(2), ballot + 3);
        due("calls left", x.left(), 0);
    }

    private static void whoThereIs() {
        for (int r = 1; r <= 6; r++) {
            for (int f = 1; f <= 2; f++) {
                int many = r;
                int half = f;
                onesAre(r, () -> new Council(many, half), (x, m) -> x.manager(m, 1));
                onesAre(2 * f + 1, () -> new Council(many, half), (x, a) -> x.acceptor(a, 0, 1));
                onesAre(3, () -> new Council(many, half), (x, l) -> x.leader(l, 4));
                Council x = new Council(r, f);
                due("managers", x.count(0), r);
                due("acceptors", x.count(1), 2 * f + 1);
            }
        }
    }

    private static void whoseBallots() {
        for (int l = 0; l < 3; l++) {
            Council x = new Council(2, 1);
            for (int k = 0; k < 5; k++) {
                due("begin(" + l + ")", x.begin(l), l + 1 + 3 * k);
                due("the ballot of its ASK", x.message(3 * k, 4), l + 1 + 3 * k);
            }
        }
        Council x = new Council(2, 1);
        x.prepare(0);
        x.refuse(1);
        due("a manager's own", x.message(0, 4), 0);
        due("a manager's own", x.message(3, 4), 0);
    }

    private static void latestBehind() {
        Council x = new Council(2, 1);
        x.prepare(0);
        x.question(1);
        x.begin(2);
        x.copy(1);
        int[][] row = {{VOTE, 0}, {VOTE, 1}, {VOTE, 2}, {QUESTION, 0}, {QUESTION, 1}, {QUESTION, 2},
            {ASK, 0}, {ASK, 1}, {ASK, 2}, {VOTE, 1}};
        for (int i = 0; i < row.length; i++) {
            messageIs(x, i, row[i]);
        }
        x.drop(4);
        x.deliver(0);
        int[][] next = {{VOTE, 1}, {VOTE, 2}, {QUESTION, 0}, {QUESTION, 2}, {ASK, 0}, {ASK, 1}, {ASK, 2}, {VOTE, 1},
            {VOTED, 0}, {VOTED, 1}, {VOTED, 2}};
        for (int i = 0; i < next.length; i++) {
            messageIs(x, i, next[i]);
        }
        due("how many", x.count(2), next.length);
    }

    private static void atMost400() {
        Council x = new Council(1, 1);
        for (int k = 0; k < 133; k++) {
            due("question", x.question(0), true);
        }
        due("399", x.count(2), 399);
        due("question", x.question(0), false);
        due("the 400th", x.copy(0), 400);
        due("the 401st", x.copy(0), -1);
        due("400", x.count(2), 400);
        messageIs(x, 399, QUESTION, 0, 0);
        throwsIndex("message(400, 0)", () -> x.message(400, 0));
        x.drop(399);
        due("the 400th again", x.copy(1), 400);
        messageIs(x, 399, QUESTION, 1, 0);
    }

    /** An act, what makes it possible, and by how many messages more there are then. */
    private record Act(String name, int managers, int f, Consumer<Council> before, ToIntFunction<Council> act,
        int answer, int refused, int more) {
    }

    private static void actsWithoutRoom() {
        for (int f = 1; f <= 2; f++) {
            int votes = 2 * f + 1;
            check(new Act("prepare", 2, f, x -> { }, x -> x.prepare(1) ? 1 : 0, 1, 0, votes));
            check(new Act("refuse", 2, f, x -> { }, x -> x.refuse(1) ? 1 : 0, 1, 0, votes));
            check(new Act("resend", 2, f, x -> x.prepare(1), x -> x.resend(1) ? 1 : 0, 1, 0, votes));
            check(new Act("resend", 2, f, x -> x.refuse(1), x -> x.resend(1) ? 1 : 0, 1, 0, votes));
            check(new Act("question", 2, f, x -> { }, x -> x.question(1) ? 1 : 0, 1, 0, 3));
            check(new Act("begin", 2, f, x -> { }, x -> x.begin(1), 2, -1, votes));
            check(new Act("begin with COMMIT", 1, f, x -> commitAll(x, 1), x -> x.begin(0), 1, -1, votes + 1));
            check(new Act("begin with ABORT", 6, f, x -> abort(x, 5), x -> x.begin(2), 3, -1, votes + 6));
            check(new Act("copy", 2, f, x -> x.prepare(1), x -> x.copy(0), 400, -1, 1));
            check(new Act("deliver a VOTE", 2, f, x -> x.prepare(1), x -> x.deliver(0), VOTE, -1, 2));
            check(new Act("calm of a VOTE", 2, f, x -> x.prepare(1), x -> x.calm(1), 1, 0, 2));
            check(new Act("deliver an ASK", 2, f, x -> x.begin(0), x -> x.deliver(0), ASK, -1, 0));
        }
        check(new Act("deliver the VOTED of a COMMIT", 3, 1, TermBoundaryTests::oneVotedBeforeCommit, x -> x.deliver(16),
            VOTED, -1, 2));
        check(new Act("deliver the VOTED of an ABORT", 6, 1, TermBoundaryTests::oneVotedBeforeAbort, x -> x.deliver(2),
            VOTED, -1, 5));
        check(new Act("deliver the VOTED of one manager's ABORT", 1, 1, x -> {
            x.refuse(0);
            x.calm(3);
            x.deliver(0);
        }, x -> x.deliver(2), VOTED, -1, 0));
        for (int r = 1; r <= 6; r++) {
            check(new Act("deliver the last TOLD of three", r, 1, x -> oneToldBeforeVoting(x, 1), x -> x.deliver(0),
                TOLD, -1, 3 * r - 1));
            check(new Act("deliver the last TOLD of five", r, 2, x -> oneToldBeforeVoting(x, 2), x -> x.deliver(0),
                TOLD, -1, 5 * r - 1));
        }
        check(new Act("deliver a QUESTION", 2, 1, x -> {
            commitAll(x, 2);
            x.question(1);
        }, x -> x.deliver(0), QUESTION, -1, 0));
    }

    private static void check(Act a) {
        Council fits = new Council(a.managers, a.f);
        a.before.accept(fits);
        fits.fill(400 - a.more);
        due(a.name + " with just the room", a.act.applyAsInt(fits), a.answer);
        due(a.name + ": then the row is full", fits.count(2), 400);
        if (a.more == 0) {
            return;
        }
        Consumer<Council> before = a.before.andThen(x -> x.fill(401 - a.more));
        Council tight = new Council(a.managers, a.f);
        before.accept(tight);
        due(a.name + " with one place too few", a.act.applyAsInt(tight), a.refused);
        Views.unchangedBy(a.name + " with one place too few", a.managers, a.f, before, x -> a.act.applyAsInt(x));
    }

    private static void commitAll(Council x, int managers) {
        for (int m = 0; m < managers; m++) {
            x.prepare(m);
        }
        x.settle();
    }

    private static void abort(Council x, int manager) {
        x.refuse(manager);
        x.settle();
    }

    /** Three managers' VOTED are in the row; but for the one at 16 leader 0 has what it needs. */
    private static void oneVotedBeforeCommit(Council x) {
        for (int m = 0; m < 3; m++) {
            x.prepare(m);
        }
        x.calm(9);
        for (int i : new int[] {18, 12, 9, 3, 0}) {
            x.deliver(i);
        }
        messageIs(x, 16, VOTED, 0, 1, 2, 0, 1);
    }

    private static void oneVotedBeforeAbort(Council x) {
        x.refuse(5);
        x.calm(3);
        x.deliver(0);
        messageIs(x, 2, VOTED, 0, 1, 5, 0, 2);
    }

    /** Every acceptor's TOLD is sent, and the next, in front, makes more than half. */
    private static void oneToldBeforeVoting(Council x, int f) {
        x.begin(0);
        x.calm(2 * f + 1);
        x.calm(f);
        messageIs(x, 0, TOLD, 0, f);
    }

    private static void nothingNeedsNoRoom() {
        comesWhenFull("a VOTE below PROMISED", VOTE, x -> {
            x.prepare(0);
            x.begin(0);
            x.deliver(3);
        });
        comesWhenFull("a VOTED that decides nothing", VOTED, x -> {
            x.prepare(0);
            x.calm(3);
        });
        comesWhenFull("an ASK not above PROMISED", ASK, x -> {
            x.begin(0);
            x.copy(0);
            x.deliver(3);
        });
        comesWhenFull("the first TOLD of three", TOLD, x -> {
            x.begin(0);
            x.calm(3);
        });
        comesWhenFull("a TOLD that is not kept", TOLD, x -> {
            x.begin(0);
            x.calm(3);
            x.begin(0);
        });
        comesWhenFull("a DECISION", DECISION, x -> {
            x.refuse(0);
            x.calm(3);
            x.calm(4);
            x.drop(0);
            x.drop(0);
            x.drop(0);
            x.drop(0);
            x.drop(0);
        });
        comesWhenFull("a QUESTION without a DECISION", QUESTION, x -> x.question(1));
        comesWhenFull("a VOTE to one who is DOWN", VOTE, x -> {
            x.prepare(0);
            x.crash(ACCEPTOR, 0);
        });
    }

    private static void comesWhenFull(String what, int kind, Consumer<Council> before) {
        Council x = new Council(2, 1);
        before.accept(x);
        x.fill(400);
        due(what + " comes when the row is full", x.deliver(0), kind);
        due(what + " leads to nothing", x.count(2), 399);
    }

    private static void downIsGone() {
        Views.comesToNothing("a VOTE", 2, 1, x -> {
            x.prepare(0);
            x.crash(ACCEPTOR, 1);
        }, 1);
        Views.comesToNothing("a VOTED", 2, 1, x -> {
            x.prepare(0);
            x.calm(3);
            x.crash(LEADER, 0);
        }, 0);
        Views.comesToNothing("an ASK", 2, 1, x -> {
            x.begin(2);
            x.crash(ACCEPTOR, 2);
        }, 2);
        Views.comesToNothing("a TOLD", 2, 1, x -> {
            x.begin(2);
            x.calm(3);
            x.crash(LEADER, 2);
        }, 1);
        Views.comesToNothing("a DECISION", 2, 1, x -> {
            oneDecisionInFront(x);
            x.crash(MANAGER, 0);
        }, 0);
        Views.comesToNothing("a QUESTION", 2, 1, x -> {
            commitAll(x, 2);
            x.question(0);
            x.crash(LEADER, 1);
        }, 1);
        Council x = new Council(2, 1);
        x.prepare(0);
        x.crash(ACCEPTOR, 0);
        x.deliver(0);
        x.recover(ACCEPTOR, 0);
        due("it does not come once more", x.count(2), 2);
        due("and was not accepted", x.acceptor(0, 0, 2), -1);
    }

    /** Manager 0 is PREPARED, manager 1 REFUSED, leader 0 decided, and its DECISION to manager 0 is in front. */
    private static void oneDecisionInFront(Council x) {
        x.prepare(0);
        x.refuse(1);
        x.calm(6);
        x.deliver(12);
        x.deliver(9);
        for (int k = 0; k < 16; k++) {
            x.drop(0);
        }
        messageIs(x, 0, DECISION, 0, -1, -1, -1, 2);
    }

    private static void toldAsItWasSent() {
        Council x = new Council(1, 1);
        x.begin(0);
        x.calm(3);
        x.deliver(1);
        x.deliver(1);
        due("voting", x.leader(0, 1), 2);
        messageIs(x, 0, TOLD, 0, 0, -1, 1, -1);
        messageIs(x, 1, VOTE, 0, -1, 0, 1, 2);
        x.deliver(1);
        due("accepted since", x.acceptor(0, 0, 2), 1);
        due("told then: no ballot", x.told(0, 0, true), -1);
        due("told then: no word", x.told(0, 0, false), 0);
        x.copy(0);
        int last = x.count(2) - 1;
        due("a copy made now: no ballot", x.told(last, 0, true), -1);
        due("a copy made now: no word", x.told(last, 0, false), 0);
    }

    // ---- managers

    private static void votesInOrder() {
        for (int f = 1; f <= 2; f++) {
            Council x = new Council(3, f);
            x.prepare(2);
            x.refuse(0);
            int many = 2 * f + 1;
            for (int a = 0; a < many; a++) {
                messageIs(x, a, VOTE, a, -1, 2, 0, 1);
                messageIs(x, many + a, VOTE, a, -1, 0, 0, 2);
            }
            due("how many", x.count(2), 2 * many);
        }
    }

    private static void withADecision() {
        Council x = new Council(3, 1);
        x.prepare(0);
        x.refuse(1);
        x.settle();
        due("ABORT to a PREPARED one", x.manager(0, 0), 4);
        due("ABORT to a REFUSED one", x.manager(1, 0), 4);
        due("ABORT to a WORKING one", x.manager(2, 0), 4);
        x.question(0);
        x.settle();
        due("ABORT to an ABORTED one", x.manager(0, 0), 4);

        Council y = new Council(2, 1);
        y.prepare(0);
        y.prepare(1);
        due("PREPARED before", y.manager(1, 0), 1);
        y.settle();
        due("COMMIT to a PREPARED one", y.manager(1, 0), 3);
        y.question(1);
        y.settle();
        due("COMMIT to a COMMITTED one", y.manager(1, 0), 3);
        due("COMMITTED", y.count(7), 2);
        due("none ABORTED", y.count(8), 0);
    }

    private static void managerLosesNothing() {
        Consumer<Council> fall = x -> {
            x.crash(MANAGER, 0);
            x.recover(MANAGER, 0);
        };
        Views.unchangedBy("WORKING", 2, 1, x -> { }, fall);
        Views.unchangedBy("PREPARED", 2, 1, x -> x.prepare(0), fall);
        Views.unchangedBy("REFUSED", 2, 1, x -> x.refuse(0), fall);
        Views.unchangedBy("COMMITTED", 2, 1, x -> commitAll(x, 2), fall);
        Views.unchangedBy("ABORTED", 2, 1, x -> abort(x, 1), fall);
        Council x = new Council(2, 1);
        x.refuse(0);
        x.lose();
        x.crash(MANAGER, 0);
        due("how it is while DOWN", x.manager(0, 0), 2);
        x.recover(MANAGER, 0);
        due("it knows its word", x.resend(0), true);
        messageIs(x, 0, VOTE, 0, -1, 0, 0, 2);
    }

    // ---- acceptors

    private static void acceptorAtFirst() {
        Council x = new Council(6, 2);
        for (int a = 0; a < 5; a++) {
            for (int m = 0; m < 6; m++) {
                due("promised", x.acceptor(a, m, 0), 0);
                due("accepted ballot", x.acceptor(a, m, 2), -1);
                due("accepted word", x.acceptor(a, m, 3), 0);
            }
        }
    }

    private static void voteNotBelow() {
        Council x = new Council(1, 1);
        x.prepare(0);
        x.copy(0);
        due("a VOTE of 0 at PROMISED 0", x.deliver(0), VOTE);
        due("accepted", x.acceptor(0, 0, 2), 0);
        due("answered", x.count(2), 6);
        due("once more", x.deliver(2), VOTE);
        due("answered again", x.count(2), 8);

        Council y = new Council(1, 1);
        y.begin(0);
        y.calm(2);
        y.deliver(1);
        y.deliver(1);
        messageIs(y, 1, VOTE, 0, -1, 0, 1, 2);
        due("PROMISED 1 by an ASK", y.acceptor(0, 0, 0), 1);
        due("a VOTE of 1", y.deliver(1), VOTE);
        due("accepted", y.acceptor(0, 0, 2), 1);
        due("promised still", y.acceptor(0, 0, 0), 1);
        due("answered", y.count(2), 6);

        due("PROMISED 0", y.acceptor(2, 0, 0), 0);
        messageIs(y, 2, VOTE, 2, -1, 0, 1, 2);
        due("a VOTE of 1 at PROMISED 0", y.deliver(2), VOTE);
        due("accepted", y.acceptor(2, 0, 2), 1);
        due("the word", y.acceptor(2, 0, 3), 2);
        due("PROMISED is that", y.acceptor(2, 0, 0), 1);
        due("answered", y.count(2), 8);
    }

    private static void voteBelow() {
        Views.comesToNothing("a VOTE of 0 at PROMISED 1 by an ASK", 2, 1, x -> {
            x.prepare(0);
            x.begin(0);
            x.deliver(3);
        }, 0);
        Views.comesToNothing("a VOTE of 1 at PROMISED 2 by an ASK", 1, 1, x -> {
            x.begin(0);
            x.calm(5);
            x.begin(1);
            x.deliver(4);
            messageIs(x, 1, VOTE, 0, -1, 0, 1, 2);
            due("promised", x.acceptor(0, 0, 0), 2);
        }, 1);
        Views.comesToNothing("a VOTE of 0 at PROMISED 1 by a VOTE", 1, 1, x -> {
            x.prepare(0);
            x.begin(0);
            x.deliver(3);
            x.deliver(3);
            x.deliver(4);
            x.deliver(4);
            messageIs(x, 6, VOTE, 2, -1, 0, 1, 2);
            x.deliver(6);
            messageIs(x, 2, VOTE, 2, -1, 0, 0, 1);
            due("promised", x.acceptor(2, 0, 0), 1);
        }, 2);
    }

    private static void votedToEachLeader() {
        Council x = new Council(2, 2);
        x.refuse(1);
        x.crash(LEADER, 1);
        x.deliver(4);
        due("how many", x.count(2), 7);
        for (int l = 0; l < 3; l++) {
            messageIs(x, 4 + l, VOTED, l, 4, 1, 0, 2);
        }
    }

    private static void askAbove() {
        Council x = new Council(1, 1);
        x.begin(0);
        due("an ASK of 1 at PROMISED 0", x.deliver(0), ASK);
        due("promised", x.acceptor(0, 0, 0), 1);
        messageIs(x, 2, TOLD, 0, 0, -1, 1, -1);
        x.begin(1);
        due("an ASK of 2 at PROMISED 1", x.deliver(3), ASK);
        due("promised", x.acceptor(0, 0, 0), 2);
        messageIs(x, 5, TOLD, 1, 0, -1, 2, -1);
        due("how many", x.count(2), 6);
    }

    private static void askNotAbove() {
        Views.comesToNothing("an ASK of 1 at PROMISED 1 by an ASK", 1, 1, x -> {
            x.begin(0);
            x.copy(0);
            x.deliver(0);
        }, 2);
        Views.comesToNothing("an ASK of 3 at PROMISED 3 by a VOTE", 1, 1, x -> {
            x.begin(2);
            x.deliver(0);
            x.deliver(0);
            x.deliver(1);
            x.deliver(1);
            messageIs(x, 3, VOTE, 2, -1, 0, 3, 2);
            x.deliver(3);
            due("promised", x.acceptor(2, 0, 0), 3);
            messageIs(x, 0, ASK, 2, -1, -1, 3, -1);
        }, 0);
        Views.comesToNothing("an ASK of 1 at PROMISED 2", 1, 1, x -> {
            x.begin(0);
            x.begin(1);
            x.deliver(3);
        }, 0);
    }

    private static void toldToItsLeader() {
        for (int l = 0; l < 3; l++) {
            for (int times = 1; times <= 4; times++) {
                Council x = new Council(1, 1);
                for (int k = 0; k < times; k++) {
                    x.begin(l);
                }
                x.deliver(3 * times - 2);
                messageIs(x, 3 * times - 1, TOLD, l, 1, -1, l + 1 + 3 * (times - 1), -1);
            }
        }
    }

    private static void acceptorLosesNothing() {
        Consumer<Council> fall = x -> {
            x.crash(ACCEPTOR, 1);
            x.recover(ACCEPTOR, 1);
        };
        Views.unchangedBy("at first", 2, 1, x -> { }, fall);
        Consumer<Council> before = x -> {
            x.prepare(0);
            x.begin(1);
            x.deliver(1);
            x.deliver(3);
            due("promised", x.acceptor(1, 0, 0), 2);
            due("accepted", x.acceptor(1, 0, 2), 0);
        };
        Views.unchangedBy("with a promise and a word", 2, 1, before, fall);
        Council x = new Council(2, 1);
        before.accept(x);
        x.crash(ACCEPTOR, 1);
        due("promised while DOWN", x.acceptor(1, 0, 0), 2);
        due("ballot while DOWN", x.acceptor(1, 0, 2), 0);
        due("word while DOWN", x.acceptor(1, 0, 3), 1);
    }

    // ---- leaders

    private static void leaderAtFirst() {
        Council x = new Council(2, 2);
        for (int l = 0; l < 3; l++) {
            leaderIs(x, l, 0, 0, 0, 0, 1, 0);
            for (int m = 0; m < 2; m++) {
                due("outcome", x.outcome(l, m), 0);
                for (int a = 0; a < 5; a++) {
                    due("seen", x.seen(l, m, a), -1);
                }
            }
        }
    }

    private static void highest() {
        Council x = new Council(1, 1);
        x.prepare(0);
        x.calm(1);
        x.drop(0);
        x.drop(0);
        due("three VOTED of 0", x.count(2), 3);
        x.begin(1);
        due("begun", x.leader(1, 2), 2);
        x.deliver(1);
        due("a VOTED of 0 does not lower it", x.leader(1, 2), 2);
        x.begin(2);
        for (int i = 0; i < 3; i++) {
            x.deliver(5);
        }
        x.deliver(5);
        x.deliver(5);
        due("voting in 3", x.leader(2, 1), 2);
        messageIs(x, 6, VOTE, 0, -1, 0, 3, 1);
        x.deliver(6);
        messageIs(x, 9, VOTED, 1, 0, 0, 3, 1);
        due("before", x.leader(1, 2), 2);
        x.deliver(9);
        due("a VOTED of 3 raises it", x.leader(1, 2), 3);
        due("its BALLOT is as it was", x.leader(1, 0), 2);
        due("its PHASE too", x.leader(1, 1), 1);

        Council y = new Council(1, 1);
        y.begin(0);
        y.deliver(0);
        y.begin(0);
        messageIs(y, 2, TOLD, 0, 0, -1, 1, -1);
        y.deliver(2);
        due("a TOLD of 1 does not lower it", y.leader(0, 2), 4);
    }

    private static void leastAboveHighest() {
        for (int highest = 0; highest <= 12; highest++) {
            for (int l = 0; l < 3; l++) {
                int least = l + 1;
                while (least <= highest) {
                    least += 3;
                }
                Council x = new Council(1, 1);
                for (int k = 0; k < (highest + 2) / 3; k++) {
                    x.begin((highest + 2) % 3);
                }
                x.settle();
                due("HIGHEST", x.leader(l, 2), highest);
                due("begin(" + l + ") above " + highest, x.begin(l), least);
                due("BALLOT", x.leader(l, 0), least);
                due("HIGHEST", x.leader(l, 2), least);
                due("PHASE", x.leader(l, 1), 1);
            }
        }
    }

    private static void beginningSends() {
        for (int f = 1; f <= 2; f++) {
            int many = 2 * f + 1;
            Council none = new Council(3, f);
            none.begin(1);
            due("without a DECISION", none.count(2), many);
            Council commit = Council.committed(3, f);
            commit.begin(1);
            Council abort = Council.aborted(3, f);
            abort.begin(1);
            for (int a = 0; a < many; a++) {
                messageIs(none, a, ASK, a, -1, -1, 2, -1);
                messageIs(commit, a, ASK, a, -1, -1, 2, -1);
                messageIs(abort, a, ASK, a, -1, -1, 2, -1);
            }
            for (int m = 0; m < 3; m++) {
                messageIs(commit, many + m, DECISION, m, -1, -1, -1, 1);
                messageIs(abort, many + m, DECISION, m, -1, -1, -1, 2);
            }
            due("with COMMIT", commit.count(2), many + 3);
            due("with ABORT", abort.count(2), many + 3);
        }
    }

    private static void toldOfOtherTimes() {
        Views.comesToNothing("a TOLD of an earlier BALLOT", 2, 1, x -> {
            x.begin(0);
            x.deliver(0);
            x.begin(0);
            messageIs(x, 2, TOLD, 0, 0, -1, 1, -1);
        }, 2);
        Views.comesToNothing("a TOLD while VOTING", 2, 1, x -> {
            x.begin(0);
            x.calm(5);
            due("voting", x.leader(0, 1), 2);
        }, 0);
        Views.comesToNothing("a TOLD of its BALLOT in no PHASE", 2, 1, x -> {
            x.begin(0);
            x.calm(3);
            x.crash(LEADER, 0);
            x.recover(LEADER, 0);
            leaderIs(x, 0, 1, 0, 1, 0, 1, 0);
        }, 0);
        Council x = new Council(2, 1);
        x.begin(0);
        x.calm(3);
        x.deliver(2);
        due("a TOLD of its BALLOT while ASKING is kept", x.leader(0, 5), 1);
    }

    private static void moreThanHalfTold() {
        for (int f = 1; f <= 2; f++) {
            Council x = new Council(2, f);
            x.begin(1);
            x.calm(2 * f + 1);
            for (int told = 1; told <= f; told++) {
                x.calm(1);
                leaderIs(x, 1, 2, 1, 2, 0, 1, told);
            }
            due("only TOLD are there", x.count(2), f + 1);
            x.calm(1);
            leaderIs(x, 1, 2, 2, 2, 0, 1, 0);
            due("TOLD and VOTES are there", x.count(2), f + 2 * (2 * f + 1));
        }
    }

    private static void eachCountsOnce() {
        Views.comesToNothing("the doubled TOLD of one", 2, 1, x -> {
            x.begin(0);
            x.calm(3);
            x.copy(0);
            x.deliver(0);
        }, 2);
        Council x = new Council(1, 2);
        x.begin(0);
        x.calm(5);
        x.copy(0);
        x.copy(1);
        x.copy(0);
        x.deliver(0);
        x.deliver(0);
        for (int k = 0; k < 3; k++) {
            due("kind", x.deliver(3), TOLD);
            due("two of five told", x.leader(0, 5), 2);
        }
        due("asking", x.leader(0, 1), 1);
        x.deliver(0);
        due("three of five told: voting", x.leader(0, 1), 2);
    }

    /** Whichever of the two TOLD comes first, the greater ballot's word is voted for. */
    private static void greatestBallot() {
        for (int first = 0; first < 2; first++) {
            Council x = new Council(1, 1);
            x.prepare(0);
            x.deliver(0);
            x.lose();
            voteWithout(x, 0, 0);
            messageIs(x, 1, VOTE, 1, -1, 0, 1, 2);
            x.deliver(1);
            x.lose();
            voteWithout(x, 1, 1);
            messageIs(x, 2, VOTE, 2, -1, 0, 2, 1);
            x.deliver(2);
            x.lose();
            x.begin(2);
            x.drop(0);
            x.calm(2);
            due("ABORTED with 1", x.told(0, 0, true), 1);
            due("PREPARED with 2", x.told(1, 0, true), 2);
            x.deliver(first);
            x.deliver(0);
            messageIs(x, 0, VOTE, 0, -1, 0, 3, 1);
        }
    }

    /** Leader l begins and comes to VOTING without one of three acceptors. */
    private static void voteWithout(Council x, int l, int acceptor) {
        x.begin(l);
        x.drop(acceptor);
        x.calm(4);
        due("voting", x.leader(l, 1), 2);
    }

    private static void oneOfThese() {
        Consumer<Council> toldPrepared = x -> {
            x.prepare(0);
            x.deliver(0);
            x.lose();
            x.begin(0);
            x.deliver(0);
            due("told PREPARED", x.told(2, 0, false), 1);
            x.deliver(2);
            x.lose();
        };
        Council x = new Council(1, 1);
        toldPrepared.accept(x);
        voteWithout(x, 0, 0);
        messageIs(x, 0, VOTE, 0, -1, 0, 4, 2);

        Council y = new Council(1, 1);
        toldPrepared.accept(y);
        y.crash(LEADER, 0);
        y.recover(LEADER, 0);
        voteWithout(y, 0, 0);
        messageIs(y, 0, VOTE, 0, -1, 0, 4, 2);

        Council z = new Council(1, 1);
        z.prepare(0);
        z.deliver(2);
        z.lose();
        z.begin(0);
        z.calm(5);
        due("the third tells PREPARED", z.told(0, 0, false), 1);
        for (int a = 0; a < 3; a++) {
            messageIs(z, 1 + a, VOTE, a, -1, 0, 1, 2);
        }
        z.deliver(0);
        due("too late", z.count(2), 3);
    }

    private static void noneToldOne() {
        Council x = new Council(3, 1);
        x.prepare(0);
        x.refuse(1);
        x.calm(6);
        x.lose();
        voteWithout(x, 2, 1);
        for (int a = 0; a < 3; a++) {
            messageIs(x, a, VOTE, a, -1, 0, 3, 1);
            messageIs(x, 3 + a, VOTE, a, -1, 1, 3, 2);
            messageIs(x, 6 + a, VOTE, a, -1, 2, 3, 2);
        }
    }

    private static void votingSends() {
        Council x = new Council(6, 2);
        x.crash(ACCEPTOR, 3);
        x.begin(1);
        x.calm(5);
        x.calm(3);
        due("one TOLD and thirty VOTES", x.count(2), 31);
        for (int m = 0; m < 6; m++) {
            for (int a = 0; a < 5; a++) {
                messageIs(x, 1 + 5 * m + a, VOTE, a, -1, m, 2, 2);
            }
        }
    }

    private static void seenAbove() {
        Council x = new Council(2, 1);
        x.prepare(0);
        x.calm(3);
        due("none", x.seen(1, 0, 2), -1);
        x.deliver(7);
        due("of 0, where there was none", x.seen(1, 0, 2), 0);
        x.lose();
        x.begin(0);
        x.settle();
        due("above", x.seen(1, 0, 2), 1);

        Council z = new Council(1, 1);
        z.begin(2);
        z.deliver(0);
        z.deliver(0);
        z.deliver(1);
        z.deliver(1);
        z.deliver(1);
        messageIs(z, 5, VOTED, 2, 0, 0, 3, 2);
        z.deliver(5);
        due("seen", z.seen(2, 0, 0), 3);
        due("nothing goes out by it", z.count(2), 5);
        due("no acceptor hears of it", z.acceptor(2, 0, 0), 0);

        Views.comesToNothing("a VOTED of the same ballot", 2, 1, y -> {
            y.prepare(0);
            y.calm(3);
            y.copy(0);
            y.deliver(0);
            due("seen", y.seen(0, 0, 0), 0);
        }, 8);
        Views.comesToNothing("a VOTED below", 2, 1, y -> {
            y.prepare(0);
            y.calm(1);
            y.drop(0);
            y.drop(0);
            y.begin(0);
            for (int k = 0; k < 5; k++) {
                y.deliver(3);
            }
            messageIs(y, 4, VOTE, 0, -1, 0, 1, 1);
            y.deliver(4);
            messageIs(y, 9, VOTED, 0, 0, 0, 1, 1);
            y.deliver(9);
            due("seen", y.seen(0, 0, 0), 1);
            messageIs(y, 0, VOTED, 0, 0, 0, 0, 1);
        }, 0);
    }

    private static void moreThanHalfSeen() {
        for (int f = 1; f <= 2; f++) {
            for (int word = 1; word <= 2; word++) {
                Council x = new Council(2, f);
                due("proposed", word == 1 ? x.prepare(1) : x.refuse(1), true);
                x.calm(2 * f + 1);
                for (int a = 0; a < f; a++) {
                    x.deliver(2 * a + 2);
                    due("not more than half", x.outcome(2, 1), 0);
                }
                x.deliver(2 * f + 2);
                due("more than half", x.outcome(2, 1), word);
                due("another manager", x.outcome(2, 0), 0);
                due("another leader", x.outcome(0, 1), 0);
            }
        }
        twoBallotsAreNotOne();
        eachManagersSeenByItself();
    }

    /** Half the acceptors of one manager and one of another do not come together, whichever these are. */
    private static void eachManagersSeenByItself() {
        for (int[] c : twoManagersAndHalf()) {
            Council x = new Council(6, 2);
            x.prepare(c[0]);
            x.prepare(c[1]);
            x.calm(10);
            x.deliver(15 + 3 * c[2]);
            x.deliver(3 * c[4]);
            x.deliver(3 * c[3]);
            due("two of five of " + c[0], x.outcome(0, c[0]), 0);
            due("one of five of " + c[1], x.outcome(0, c[1]), 0);
            x.bring(VOTED, 0, c[0]);
            due("three of five of " + c[0], x.outcome(0, c[0]), 1);
            due("one of five of " + c[1], x.outcome(0, c[1]), 0);
        }
    }

    /** Two managers, an acceptor of the second, and two acceptors of the first: every choice of these. */
    private static List<int[]> twoManagersAndHalf() {
        List<int[]> made = new ArrayList<>();
        for (int k = 0; k < 6 * 6 * 5 * 5 * 5; k++) {
            int[] c = {k % 6, k / 6 % 6, k / 36 % 5, k / 180 % 5, k / 900};
            if (c[0] != c[1] && c[3] < c[4]) {
                made.add(c);
            }
        }
        due("made: choices", made.size(), 6 * 5 * 5 * 10);
        return made;
    }

    private static void twoBallotsAreNotOne() {
        Council x = new Council(1, 1);
        x.prepare(0);
        x.calm(2);
        x.drop(0);
        x.begin(2);
        for (int k = 0; k < 5; k++) {
            x.deliver(6);
        }
        due("voting", x.leader(2, 1), 2);
        messageIs(x, 7, VOTE, 0, -1, 0, 3, 1);
        x.deliver(7);
        messageIs(x, 9, VOTED, 0, 0, 0, 3, 1);
        x.deliver(9);
        due("acceptor 0 with 3", x.seen(0, 0, 0), 3);
        messageIs(x, 3, VOTED, 0, 1, 0, 0, 1);
        x.deliver(3);
        due("acceptor 1 with 0", x.seen(0, 0, 1), 0);
        due("no outcome", x.outcome(0, 0), 0);
        due("no decision", x.leader(0, 3), 0);
        messageIs(x, 0, VOTED, 0, 0, 0, 0, 1);
        x.deliver(0);
        due("nor by the VOTED of 0 that is not SEEN", x.outcome(0, 0), 0);
    }

    private static void outcomeForGood() {
        Council x = new Council(2, 1);
        x.prepare(0);
        x.calm(3);
        x.deliver(0);
        x.deliver(2);
        due("outcome", x.outcome(0, 0), 1);
        x.lose();
        x.begin(2);
        x.calm(5);
        messageIs(x, 1, VOTE, 0, -1, 0, 3, 1);
        x.deliver(1);
        messageIs(x, 6, VOTED, 0, 0, 0, 3, 1);
        x.deliver(6);
        due("SEEN anew", x.seen(0, 0, 0), 3);
        due("SEEN as before", x.seen(0, 0, 1), 0);
        due("outcome still", x.outcome(0, 0), 1);
    }

    private static void abortOfOne() {
        for (int r = 1; r <= 6; r++) {
            Council x = new Council(r, 1);
            for (int m = 0; m < r - 1; m++) {
                x.prepare(m);
            }
            x.settle();
            due("none is ABORTED yet", x.leader(1, 3), 0);
            x.refuse(r - 1);
            x.settle();
            due("one of " + r, x.leader(1, 3), 2);
            due("all are", x.count(8), r);
        }
        Council alone = new Council(6, 2);
        alone.refuse(3);
        alone.settle();
        due("the others' words are open", alone.outcome(0, 2), 0);
        due("ABORT all the same", alone.leader(0, 3), 2);
    }

    private static void commitOfAll() {
        for (int r = 1; r <= 6; r++) {
            for (int last = 0; last < r; last += 2) {
                Council x = new Council(r, 1);
                for (int m = 0; m < r; m++) {
                    if (m != last) {
                        x.prepare(m);
                    }
                }
                x.settle();
                due("all but one of " + r, x.leader(0, 3), 0);
                due("none", x.count(7), 0);
                x.prepare(last);
                x.settle();
                due("all of " + r, x.leader(0, 3), 1);
                due("all are", x.count(7), r);
            }
        }
    }

    private static void decisionGoesOnce() {
        Council x = new Council(2, 1);
        x.refuse(0);
        x.refuse(1);
        x.calm(6);
        x.deliver(0);
        due("no DECISION yet", x.count(2), 17);
        x.deliver(2);
        due("one to each manager", x.count(2), 18);
        messageIs(x, 16, DECISION, 0, -1, -1, -1, 2);
        messageIs(x, 17, DECISION, 1, -1, -1, -1, 2);
        messageIs(x, 4, VOTED, 0, 2, 0, 0, 2);
        x.deliver(4);
        due("nothing by a third VOTED", x.count(2), 17);
        messageIs(x, 6, VOTED, 0, 0, 1, 0, 2);
        x.deliver(6);
        messageIs(x, 8, VOTED, 0, 1, 1, 0, 2);
        x.deliver(8);
        due("the other OUTCOME", x.outcome(0, 1), 2);
        due("nothing by that", x.count(2), 15);

        Council y = Council.committed(2, 1);
        y.crash(LEADER, 0);
        y.recover(LEADER, 0);
        y.begin(1);
        y.settle();
        due("it came to be so anew", y.leader(0, 3), 1);
        int before = y.count(3);
        y.resend(0);
        y.begin(1);
        y.settle();
        due("and not again: 3 ASK, 2 DECISIONS of beginning, 3 TOLD, 6 VOTES, 18 VOTED", y.count(3) - before, 32);
    }

    private static void question() {
        Council x = Council.committed(3, 1);
        x.question(1);
        x.deliver(2);
        due("one answer", x.count(2), 3);
        messageIs(x, 2, DECISION, 1, -1, -1, -1, 1);
        Council y = Council.aborted(3, 1);
        y.question(2);
        y.deliver(0);
        due("one answer", y.count(2), 3);
        messageIs(y, 2, DECISION, 2, -1, -1, -1, 2);
        Views.comesToNothing("without a DECISION", 3, 1, z -> z.question(1), 1);
    }

    private static void leaderLosesAllBut() {
        Council x = Council.committed(2, 1);
        x.begin(1);
        x.calm(6);
        leaderIs(x, 1, 2, 1, 2, 1, 1, 1);
        x.crash(LEADER, 1);
        for (int up = 0; up < 2; up++) {
            leaderIs(x, 1, 2, 0, 2, 0, up, 0);
            for (int m = 0; m < 2; m++) {
                due("outcome", x.outcome(1, m), 0);
                for (int a = 0; a < 3; a++) {
                    due("seen", x.seen(1, m, a), -1);
                }
            }
            x.recover(LEADER, 1);
        }
        leaderIs(x, 0, 0, 0, 0, 1, 1, 0);
        due("another leader's OUTCOME", x.outcome(0, 1), 1);
        due("begin above HIGHEST", x.begin(1), 5);

        Council y = new Council(1, 1);
        y.begin(0);
        y.settle();
        leaderIs(y, 0, 1, 2, 1, 2, 1, 0);
        leaderIs(y, 2, 0, 0, 1, 2, 1, 0);
        y.crash(LEADER, 0);
        y.crash(LEADER, 2);
        leaderIs(y, 0, 1, 0, 1, 0, 0, 0);
        leaderIs(y, 2, 0, 0, 1, 0, 0, 0);
    }

    // ---- what is chosen, and what throws

    private static void chosen() {
        for (int f = 1; f <= 2; f++) {
            Council x = new Council(2, f);
            x.prepare(0);
            x.refuse(1);
            for (int a = 0; a < 2 * f + 1; a++) {
                x.deliver(0);
                due((a + 1) + " of " + (2 * f + 1), x.chosen(0), a + 1 > f ? 1 : 0);
            }
            due("the other", x.chosen(1), 0);
            x.calm(f);
            due("not more than half", x.chosen(1), 0);
            x.calm(1);
            due("more than half", x.chosen(1), 2);
        }
        Council twice = new Council(1, 1);
        twice.refuse(0);
        twice.copy(0);
        twice.deliver(3);
        twice.deliver(0);
        due("one acceptor twice", twice.chosen(0), 0);
        chosenWithOneBallot();
        everAccepted();
        eachManagersChosenByItself();
    }

    private static void eachManagersChosenByItself() {
        for (int[] c : twoManagersAndHalf()) {
            Council x = new Council(6, 2);
            x.prepare(c[0]);
            x.refuse(c[1]);
            x.deliver(5 + c[2]);
            x.deliver(c[4]);
            x.deliver(c[3]);
            due("two of five of " + c[0], x.chosen(c[0]), 0);
            due("one of five of " + c[1], x.chosen(c[1]), 0);
            x.deliver(0);
            due("three of five of " + c[0], x.chosen(c[0]), 1);
            due("one of five of " + c[1], x.chosen(c[1]), 0);
        }
    }

    private static void chosenWithOneBallot() {
        Council x = new Council(1, 1);
        x.prepare(0);
        x.deliver(0);
        x.lose();
        x.begin(0);
        x.deliver(0);
        x.deliver(0);
        x.deliver(1);
        x.deliver(1);
        messageIs(x, 2, VOTE, 1, -1, 0, 1, 1);
        x.deliver(2);
        due("acceptor 0 with 0", x.acceptor(0, 0, 2), 0);
        due("acceptor 1 with 1", x.acceptor(1, 0, 2), 1);
        due("two ballots", x.chosen(0), 0);
        messageIs(x, 1, VOTE, 0, -1, 0, 1, 1);
        x.deliver(1);
        due("one ballot", x.chosen(0), 1);
    }

    /** Acceptor 0 goes on to ballot 3 before acceptor 1 accepts in ballot 2. */
    private static void everAccepted() {
        Council x = new Council(1, 1);
        voteWithout(x, 1, 2);
        x.drop(2);
        x.deliver(0);
        for (int k = 0; k < 3; k++) {
            x.drop(1);
        }
        x.begin(2);
        x.deliver(1);
        x.deliver(2);
        x.deliver(2);
        x.deliver(2);
        due("voting in 3", x.leader(2, 1), 2);
        x.deliver(2);
        due("acceptor 0 is at 3", x.acceptor(0, 0, 2), 3);
        due("not chosen yet", x.chosen(0), 0);
        messageIs(x, 0, VOTE, 1, -1, 0, 2, 2);
        x.deliver(0);
        due("acceptor 1 is at 2", x.acceptor(1, 0, 2), 2);
        due("chosen with 2", x.chosen(0), 2);
    }

    private static void whatThrows() {
        Consumer<Council> before = x -> {
            x.prepare(0);
            x.refuse(1);
            x.calm(4);
            x.begin(2);
            x.calm(2);
            x.crash(ACCEPTOR, 1);
            x.crash(MANAGER, 2);
            x.crash(LEADER, 0);
            x.copy(1);
        };
        int[] none = {-1, Integer.MIN_VALUE, 400, Integer.MAX_VALUE};
        for (int no : none) {
            unchanged("prepare", before, x -> x.prepare(no));
            unchanged("refuse", before, x -> x.refuse(no));
            unchanged("resend", before, x -> x.resend(no));
            unchanged("question", before, x -> x.question(no));
            unchanged("begin", before, x -> x.begin(no));
            unchanged("deliver", before, x -> x.deliver(no));
            unchanged("drop", before, x -> x.drop(no));
            unchanged("copy", before, x -> x.copy(no));
            unchanged("crash, sort", before, x -> x.crash(no, 0));
            unchanged("recover, sort", before, x -> x.recover(no, 0));
            unchanged("message", before, x -> x.message(no, 0));
            unchanged("told", before, x -> x.told(no, 0, true));
            unchanged("told of a manager", before, x -> x.told(0, no, true));
            unchanged("manager", before, x -> x.manager(no, 0));
            unchanged("acceptor", before, x -> x.acceptor(no, 0, 0));
            unchanged("acceptor of a manager", before, x -> x.acceptor(0, no, 0));
            unchanged("leader", before, x -> x.leader(no, 0));
            unchanged("outcome", before, x -> x.outcome(no, 0));
            unchanged("outcome of a manager", before, x -> x.outcome(0, no));
            unchanged("seen", before, x -> x.seen(no, 0, 0));
            unchanged("seen of a manager", before, x -> x.seen(0, no, 0));
            unchanged("seen by an acceptor", before, x -> x.seen(0, 0, no));
            unchanged("chosen", before, x -> x.chosen(no));
            for (int sort = 0; sort < 3; sort++) {
                int s = sort;
                unchanged("crash", before, x -> x.crash(s, no));
                unchanged("recover", before, x -> x.recover(s, no));
            }
        }
        for (int n : new int[] {-1, Integer.MIN_VALUE, 401, Integer.MAX_VALUE}) {
            unchanged("calm", before, x -> x.calm(n));
        }
    }

    private static void unchanged(String what, Consumer<Council> before, Consumer<Council> call) {
        Views.unchangedBy(what, 3, 1, before, x -> {
            boolean thrown = false;
            try {
                call.accept(x);
            } catch (IndexOutOfBoundsException | IllegalArgumentException e) {
                thrown = true;
            }
            due(what + " throws", thrown, true);
        });
    }
}
