/** Each promise of the document by itself: ordinary calls, the edges that it names, and wrong inputs. */
public final class PromiseTests extends Check {
    private static final int[] ODD = {Integer.MIN_VALUE, -2, -1, 6, 7, 10, 400, Integer.MAX_VALUE};

    public static void main(String[] args) {
        newObject();
        prepare();
        refuse();
        resend();
        question();
        begin();
        beginWithDecision();
        deliverVote();
        deliverAsk();
        deliverVoted();
        deliverTold();
        deliverDecisionAndQuestion();
        deliverWithoutRoom();
        deliverToOneDown();
        drop();
        copy();
        calm();
        crash();
        recover();
        message();
        told();
        manager();
        acceptor();
        leader();
        outcome();
        seen();
        chosen();
        count();
        astray();
        manyCallsThrowNothing();
        end();
    }

    // ---- promise 1

    private static void newObject() {
        section = "1 new";
        int[][] cases = {
            {1, 1, 1, 3}, {6, 2, 6, 5}, {3, 1, 3, 3}, {0, 1, 3, 3}, {7, 2, 3, 5}, {-1, 0, 3, 3}, {4, 3, 4, 3},
            {2, -1, 2, 3}, {Integer.MIN_VALUE, Integer.MAX_VALUE, 3, 3}, {Integer.MAX_VALUE, Integer.MIN_VALUE, 3, 3}};
        for (int[] c : cases) {
            Council x = new Council(c[0], c[1]);
            due("managers", x.count(0), c[2]);
            due("acceptors", x.count(1), c[3]);
            due("messages", x.count(2), 0);
            due("sent", x.count(3), 0);
            due("came", x.count(4), 0);
            due("managers up", x.count(5), c[2]);
            due("acceptors up", x.count(6), c[3]);
            due("begun", x.count(9), 0);
            for (int m = 0; m < c[2]; m++) {
                due("working", x.manager(m, 0), 0);
                due("manager up", x.manager(m, 1), 1);
                due("chosen", x.chosen(m), 0);
            }
            for (int a = 0; a < c[3]; a++) {
                due("promised", x.acceptor(a, 0, 0), 0);
                due("acceptor up", x.acceptor(a, 0, 1), 1);
                due("accepted ballot", x.acceptor(a, 0, 2), -1);
                due("accepted word", x.acceptor(a, 0, 3), 0);
            }
            for (int l = 0; l < 3; l++) {
                leaderIs(x, l, 0, 0, 0, 0, 1, 0);
                due("seen", x.seen(l, 0, 0), -1);
                due("outcome", x.outcome(l, 0), 0);
            }
        }
        due("NONE", CommitCouncil.NONE, -1);
    }

    // ---- promises 2 to 5

    private static void prepare() {
        section = "2 prepare";
        Council x = new Council(3, 2);
        due("prepare(1)", x.prepare(1), true);
        due("state", x.manager(1, 0), 1);
        due("others", x.manager(0, 0), 0);
        due("messages", x.count(2), 5);
        for (int a = 0; a < 5; a++) {
            messageIs(x, a, VOTE, a, -1, 1, 0, 1);
        }
        due("again", x.prepare(1), false);
        due("refuse after it", x.refuse(1), false);
        due("nothing more", x.count(2), 5);
        x.crash(0, 2);
        due("down", x.prepare(2), false);
        due("still working", x.manager(2, 0), 0);
        x.recover(0, 2);
        due("up again", x.prepare(2), true);
        throwsIndex("prepare(3)", () -> x.prepare(3));
        for (int odd : ODD) {
            throwsIndex("prepare(odd)", () -> x.prepare(odd));
        }
        due("what throws sends nothing", x.count(3), 10);

        Council full = filled(2, 1, 398);
        due("without room", full.prepare(1), false);
        due("still working", full.manager(1, 0), 0);
        due("as before", full.count(2), 398);
        full.drop(0);
        due("with just the room", full.prepare(1), true);
        due("full", full.count(2), 400);
    }

    private static void refuse() {
        section = "3 refuse";
        Council x = new Council(2, 1);
        due("refuse(0)", x.refuse(0), true);
        due("state", x.manager(0, 0), 2);
        due("messages", x.count(2), 3);
        for (int a = 0; a < 3; a++) {
            messageIs(x, a, VOTE, a, -1, 0, 0, 2);
        }
        due("again", x.refuse(0), false);
        due("prepare after it", x.prepare(0), false);
        x.crash(0, 1);
        due("down", x.refuse(1), false);
        due("still working", x.manager(1, 0), 0);
        throwsIndex("refuse(2)", () -> x.refuse(2));
        for (int odd : ODD) {
            throwsIndex("refuse(odd)", () -> x.refuse(odd));
        }
        due("nothing more", x.count(3), 3);

        Council full = filled(2, 1, 398);
        due("without room", full.refuse(1), false);
        due("still working", full.manager(1, 0), 0);
        full.drop(0);
        due("with just the room", full.refuse(1), true);
    }

    private static void resend() {
        section = "4 resend";
        Council x = new Council(3, 1);
        due("working", x.resend(0), false);
        x.prepare(0);
        x.refuse(1);
        due("prepared", x.resend(0), true);
        due("refused", x.resend(1), true);
        due("messages", x.count(2), 12);
        for (int a = 0; a < 3; a++) {
            messageIs(x, 6 + a, VOTE, a, -1, 0, 0, 1);
            messageIs(x, 9 + a, VOTE, a, -1, 1, 0, 2);
        }
        x.crash(0, 0);
        due("down", x.resend(0), false);
        x.recover(0, 0);
        x.settle();
        due("aborted", x.manager(0, 0), 4);
        due("resend when aborted", x.resend(0), false);
        due("no message", x.count(2), 0);
        throwsIndex("resend(3)", () -> x.resend(3));
        for (int odd : ODD) {
            throwsIndex("resend(odd)", () -> x.resend(odd));
        }

        Council done = Council.committed(1, 1);
        due("resend when committed", done.resend(0), false);

        Council full = filled(1, 1, 398);
        due("without room", full.resend(0), false);
        due("as before", full.count(2), 398);
        full.drop(0);
        due("with just the room", full.resend(0), true);
    }

    private static void question() {
        section = "5 question";
        Council x = new Council(3, 1);
        due("working", x.question(2), true);
        due("messages", x.count(2), 3);
        for (int l = 0; l < 3; l++) {
            messageIs(x, l, QUESTION, l, 2, -1, -1, -1);
        }
        x.crash(0, 2);
        due("down", x.question(2), false);
        due("nothing", x.count(2), 3);
        throwsIndex("question(3)", () -> x.question(3));
        for (int odd : ODD) {
            throwsIndex("question(odd)", () -> x.question(odd));
        }
        due("committed", Council.committed(2, 1).question(1), true);

        Council full = filled(1, 1, 398);
        due("without room", full.question(0), false);
        due("as before", full.count(2), 398);
        full.drop(0);
        due("with just the room", full.question(0), true);
        due("full", full.count(2), 400);
    }

    // ---- promise 6

    private static void begin() {
        section = "6 begin";
        Council x = new Council(2, 1);
        due("leader 1", x.begin(1), 2);
        leaderIs(x, 1, 2, 1, 2, 0, 1, 0);
        for (int a = 0; a < 3; a++) {
            messageIs(x, a, ASK, a, -1, -1, 2, -1);
        }
        due("leader 1 again", x.begin(1), 5);
        due("leader 0", x.begin(0), 1);
        due("leader 2", x.begin(2), 3);
        due("begun", x.count(9), 4);
        x.crash(2, 2);
        due("down", x.begin(2), -1);
        leaderIs(x, 2, 3, 0, 3, 0, 0, 0);
        x.recover(2, 2);
        due("keeps its ballot", x.begin(2), 6);
        throwsIndex("begin(3)", () -> x.begin(3));
        for (int odd : ODD) {
            throwsIndex("begin(odd)", () -> x.begin(odd));
        }
        due("begun", x.count(9), 5);

        // Whatever VOTED has come to a leader, its next ballot is above.
        int[][] next = {{0, 4, 4}, {2, 3, 6}};
        for (int[] n : next) {
            Council y = new Council(1, 1);
            y.begin(1);
            y.settle();
            due("HIGHEST by VOTED", y.leader(n[0], 2), 2);
            due("the least above", y.begin(n[0]), n[1]);
            due("and again", y.begin(n[0]), n[0] == 0 ? 7 : n[2]);
        }

        Council full = filled(1, 1, 398);
        due("without room", full.begin(0), -1);
        leaderIs(full, 0, 0, 0, 0, 0, 1, 0);
        due("none begun", full.count(9), 0);
        full.drop(0);
        due("with just the room", full.begin(0), 1);
        due("full", full.count(2), 400);
    }

    private static void beginWithDecision() {
        section = "6 begin with a decision";
        Council x = Council.committed(2, 1);
        due("begin", x.begin(0), 1);
        leaderIs(x, 0, 1, 1, 1, 1, 1, 0);
        due("messages", x.count(2), 5);
        for (int a = 0; a < 3; a++) {
            messageIs(x, a, ASK, a, -1, -1, 1, -1);
        }
        messageIs(x, 3, DECISION, 0, -1, -1, -1, 1);
        messageIs(x, 4, DECISION, 1, -1, -1, -1, 1);
        fill(x, 396);
        due("without room", x.begin(0), -1);
        due("as it was", x.leader(0, 0), 1);
        x.drop(395);
        due("with just the room", x.begin(0), 4);
        due("full", x.count(2), 400);
    }

    // ---- promise 7

    private static void deliverVote() {
        section = "7 deliver VOTE";
        Council x = new Council(2, 1);
        x.prepare(1);
        due("kind", x.deliver(1), VOTE);
        due("messages", x.count(2), 5);
        messageIs(x, 0, VOTE, 0, -1, 1, 0, 1);
        messageIs(x, 1, VOTE, 2, -1, 1, 0, 1);
        for (int l = 0; l < 3; l++) {
            messageIs(x, 2 + l, VOTED, l, 1, 1, 0, 1);
        }
        due("accepted ballot", x.acceptor(1, 1, 2), 0);
        due("accepted word", x.acceptor(1, 1, 3), 1);
        due("of the other manager", x.acceptor(1, 0, 2), -1);
        x.resend(1);
        due("the same once more", x.deliver(6), VOTE);
        due("answered again", x.count(2), 10);

        // A vote below the promise leads to nothing; one above raises the promise without an ASK.
        Council y = new Council(1, 1);
        y.prepare(0);
        y.begin(0);
        y.deliver(3);
        due("promised", y.acceptor(0, 0, 0), 1);
        due("late vote", y.deliver(0), VOTE);
        due("not accepted", y.acceptor(0, 0, 2), -1);
        due("no answer", y.count(2), 5);
        Council z = new Council(1, 1);
        z.begin(2);
        z.deliver(0);
        z.deliver(0);
        z.deliver(1);
        z.deliver(1);
        due("voting", z.leader(2, 1), 2);
        due("acceptor 2 heard no ASK", z.acceptor(2, 0, 0), 0);
        messageIs(z, 3, VOTE, 2, -1, 0, 3, 2);
        due("its vote", z.deliver(3), VOTE);
        due("promised by the vote", z.acceptor(2, 0, 0), 3);
        due("accepted", z.acceptor(2, 0, 2), 3);
        due("the ASK of that ballot now", z.deliver(0), ASK);
        due("is not answered", z.count(2), 5);
    }

    private static void deliverAsk() {
        section = "7 deliver ASK";
        Council x = new Council(2, 1);
        x.refuse(0);
        x.deliver(2);
        x.lose();
        x.begin(1);
        x.copy(2);
        due("kind", x.deliver(2), ASK);
        due("promised", x.acceptor(2, 0, 0), 2);
        messageIs(x, 3, TOLD, 1, 2, -1, 2, -1);
        due("told ballot", x.told(3, 0, true), 0);
        due("told word", x.told(3, 0, false), 2);
        due("told none", x.told(3, 1, true), -1);
        due("the doubled ASK", x.deliver(2), ASK);
        due("is not answered", x.count(2), 3);
        x.lose();
        x.begin(0);
        due("an ASK below the promise", x.deliver(2), ASK);
        due("is not answered", x.count(2), 2);
        due("promise as it was", x.acceptor(2, 0, 0), 2);
        x.lose();
        x.begin(2);
        x.deliver(2);
        messageIs(x, 2, TOLD, 2, 2, -1, 3, -1);
    }

    private static void deliverVoted() {
        section = "7 deliver VOTED";
        Council x = new Council(2, 2);
        x.prepare(0);
        x.prepare(1);
        x.calm(10);
        due("thirty VOTED", x.count(2), 30);
        for (int k = 0; k < 2; k++) {
            x.bring(VOTED, 0, 0);
        }
        due("two of five", x.outcome(0, 0), 0);
        x.bring(VOTED, 0, 0);
        due("three of five", x.outcome(0, 0), 1);
        due("one manager of two", x.leader(0, 3), 0);
        for (int k = 0; k < 3; k++) {
            due("no decision yet", x.leader(0, 3), 0);
            x.bring(VOTED, 0, 1);
        }
        due("commit", x.leader(0, 3), 1);
        due("messages", x.count(2), 26);
        messageIs(x, 24, DECISION, 0, -1, -1, -1, 1);
        messageIs(x, 25, DECISION, 1, -1, -1, -1, 1);
        x.bring(VOTED, 0, 1);
        due("decided only once", x.count(2), 25);

        // One acceptor's doubled VOTED counts once.
        Council y = new Council(1, 1);
        y.prepare(0);
        y.deliver(0);
        y.copy(2);
        y.bring(VOTED, 0, 0);
        y.bring(VOTED, 0, 0);
        due("seen twice", y.outcome(0, 0), 0);
        due("no decision", y.leader(0, 3), 0);

        // An older VOTED does not push a newer one out of SEEN, and ballots are not mixed.
        Council z = new Council(1, 1);
        z.prepare(0);
        z.calm(2);
        z.drop(0);
        due("six VOTED of ballot 0", z.count(2), 6);
        z.begin(2);
        for (int k = 0; k < 6; k++) {
            z.deliver(6);
        }
        due("voting", z.leader(2, 1), 2);
        z.deliver(6);
        messageIs(z, 8, VOTED, 0, 0, 0, 3, 1);
        due("VOTED of ballot 3", z.deliver(8), VOTED);
        due("seen", z.seen(0, 0, 0), 3);
        due("HIGHEST", z.leader(0, 2), 3);
        due("the late one of the same acceptor", z.deliver(0), VOTED);
        due("still seen", z.seen(0, 0, 0), 3);
        due("HIGHEST still", z.leader(0, 2), 3);
        due("one of another acceptor", z.deliver(2), VOTED);
        due("seen with ballot 0", z.seen(0, 0, 1), 0);
        due("two ballots are no outcome", z.outcome(0, 0), 0);

        // Abort: one word of one manager is enough.
        Council w = new Council(3, 1);
        w.refuse(2);
        w.settle();
        for (int l = 0; l < 3; l++) {
            due("abort", w.leader(l, 3), 2);
            due("of one manager", w.outcome(l, 2), 2);
            due("others open", w.outcome(l, 0), 0);
        }
        due("all aborted", w.count(8), 3);
    }

    private static void deliverTold() {
        section = "7 deliver TOLD";
        // Acceptor 0 accepted ballot 1's ABORTED of manager 0, acceptors 1 and 2 the own PREPARED.
        Council x = new Council(2, 1);
        x.begin(0);
        x.deliver(0);
        x.deliver(0);
        due("kind", x.deliver(1), TOLD);
        due("one told", x.leader(0, 5), 1);
        due("asking", x.leader(0, 1), 1);
        due("kind", x.deliver(1), TOLD);
        due("voting", x.leader(0, 1), 2);
        due("told of a VOTING", x.leader(0, 5), 0);
        due("one ASK and six VOTES", x.count(2), 7);
        for (int m = 0; m < 2; m++) {
            for (int a = 0; a < 3; a++) {
                messageIs(x, 1 + m * 3 + a, VOTE, a, -1, m, 1, 2);
            }
        }
        x.deliver(1);
        x.lose();
        due("accepted in ballot 1", x.acceptor(0, 0, 3), 2);
        x.prepare(0);
        due("below the promise of 1", x.deliver(1), VOTE);
        due("taken by 2", x.deliver(1), VOTE);
        x.lose();
        due("accepted in ballot 0", x.acceptor(2, 0, 3), 1);
        x.begin(2);
        x.deliver(2);
        x.deliver(0);
        due("first of acceptor 2", x.message(1, 2), 2);
        x.copy(1);
        x.deliver(1);
        due("one told", x.leader(2, 5), 1);
        due("its double", x.deliver(2), TOLD);
        due("counts once", x.leader(2, 5), 1);
        due("asking", x.leader(2, 1), 1);
        x.deliver(1);
        due("voting", x.leader(2, 1), 2);
        messageIs(x, 1, VOTE, 0, -1, 0, 3, 2);
        messageIs(x, 4, VOTE, 0, -1, 1, 3, 2);

        greatestBallotWins(0);
        greatestBallotWins(1);

        // A TOLD of an older ballot, or after a fall, is not kept.
        Council z = new Council(1, 1);
        z.begin(0);
        z.deliver(0);
        z.begin(0);
        due("TOLD of ballot 1", z.deliver(2), TOLD);
        due("not kept", z.leader(0, 5), 0);
        z.deliver(2);
        z.crash(2, 0);
        z.recover(2, 0);
        due("TOLD of ballot 4", z.deliver(lastOf(z, TOLD, 0)), TOLD);
        leaderIs(z, 0, 4, 0, 4, 0, 1, 0);

        // Five acceptors: three must tell.
        Council w = new Council(1, 2);
        w.begin(1);
        w.calm(5);
        w.calm(2);
        due("two of five", w.leader(1, 1), 1);
        due("two told", w.leader(1, 5), 2);
        w.calm(1);
        due("three of five", w.leader(1, 1), 2);
        due("two TOLD and five VOTES", w.count(2), 7);
        w.calm(2);
        due("more TOLD lead to nothing", w.count(2), 5);
    }

    /** Whichever of the two TOLD comes first, the word with the greater ballot is voted for. */
    private static void greatestBallotWins(int first) {
        Council x = new Council(1, 1);
        x.prepare(0);
        x.deliver(0);
        x.lose();
        // Acceptors 1 and 2 know no word: ballot 1 is for ABORTED, and acceptor 1 accepts it.
        voteWithout(x, 0, 0);
        messageIs(x, 1, VOTE, 1, -1, 0, 1, 2);
        x.deliver(1);
        x.lose();
        // Acceptors 0 and 2 know the own PREPARED: ballot 2 is for that, and acceptor 2 accepts it.
        voteWithout(x, 1, 1);
        messageIs(x, 2, VOTE, 2, -1, 0, 2, 1);
        x.deliver(2);
        x.lose();
        x.begin(2);
        x.drop(0);
        x.calm(2);
        due("told by 1", x.told(0, 0, true), 1);
        due("told by 2", x.told(1, 0, true), 2);
        x.deliver(first);
        x.deliver(0);
        messageIs(x, 0, VOTE, 0, -1, 0, 3, 1);
    }

    /** Leader l begins and comes to VOTING without one of three acceptors. */
    private static void voteWithout(Council x, int l, int acceptor) {
        x.begin(l);
        x.drop(acceptor);
        x.calm(4);
        due("voting", x.leader(l, 1), 2);
    }

    private static void deliverDecisionAndQuestion() {
        section = "7 deliver DECISION, QUESTION";
        Council x = new Council(2, 1);
        x.question(1);
        due("kind", x.deliver(0), QUESTION);
        due("no decision, no answer", x.count(2), 2);
        x.lose();
        x.prepare(0);
        x.prepare(1);
        x.crash(0, 1);
        x.settle();
        due("committed", x.manager(0, 0), 3);
        due("the one who was down", x.manager(1, 0), 1);
        x.recover(0, 1);
        x.question(1);
        due("kind", x.deliver(1), QUESTION);
        due("one answer", x.count(2), 3);
        messageIs(x, 2, DECISION, 1, -1, -1, -1, 1);
        due("kind", x.deliver(2), DECISION);
        due("committed", x.manager(1, 0), 3);
        x.question(1);
        x.settle();
        due("again committed", x.manager(1, 0), 3);

        Council y = new Council(2, 1);
        y.refuse(0);
        y.settle();
        due("a WORKING one is aborted", y.manager(1, 0), 4);
        due("a REFUSED one is aborted", y.manager(0, 0), 4);
        y.question(0);
        y.deliver(0);
        messageIs(y, 2, DECISION, 0, -1, -1, -1, 2);
        due("cannot prepare any more", y.prepare(1), false);
    }

    private static void deliverWithoutRoom() {
        section = "7 deliver without room";
        // VOTE: three VOTED for the one place that becomes free.
        Council x = filled(1, 1, 399);
        int came = x.count(4);
        due("VOTE", x.deliver(0), -1);
        due("stays", x.count(2), 399);
        due("did not come", x.count(4), came);
        due("not accepted", x.acceptor(x.message(0, 1), 0, 2), -1);
        messageIs(x, 0, VOTE, 0, -1, 0, 0, 1);
        x.drop(398);
        due("VOTE with just the room", x.deliver(0), VOTE);
        due("full", x.count(2), 400);
        due("accepted", x.acceptor(0, 0, 2), 0);

        // ASK: the TOLD takes the ASK's own place.
        Council y = new Council(1, 1);
        y.begin(0);
        fill(y, 400);
        due("ASK when full", y.deliver(0), ASK);
        due("full", y.count(2), 400);
        messageIs(y, 399, TOLD, 0, 0, -1, 1, -1);

        // TOLD: one VOTE for each manager and acceptor.
        Council z = new Council(6, 2);
        z.begin(0);
        z.calm(5);
        z.calm(2);
        due("two told", z.leader(0, 5), 2);
        fill(z, 372);
        due("TOLD", z.deliver(0), -1);
        leaderIs(z, 0, 1, 1, 1, 0, 1, 2);
        due("stays", z.count(2), 372);
        z.drop(371);
        due("TOLD with just the room", z.deliver(0), TOLD);
        leaderIs(z, 0, 1, 2, 1, 0, 1, 0);
        due("full", z.count(2), 400);

        // VOTED: the DECISION for each manager.
        Council w = new Council(3, 1);
        w.refuse(1);
        w.calm(3);
        w.bring(VOTED, 0, 1);
        fill(w, 399);
        int at = find(w, VOTED, 0, 1);
        due("VOTED", w.deliver(at), -1);
        due("no decision", w.leader(0, 3), 0);
        due("no outcome", w.outcome(0, 1), 0);
        due("not seen", w.seen(0, 1, 1), -1);
        w.drop(398);
        due("VOTED with just the room", w.deliver(at), VOTED);
        due("decision", w.leader(0, 3), 2);
        due("full", w.count(2), 400);

        // QUESTION: the DECISION takes its place.
        Council v = Council.committed(2, 1);
        v.question(0);
        fill(v, 400);
        due("QUESTION when full", v.deliver(0), QUESTION);
        due("full", v.count(2), 400);
        messageIs(v, 399, DECISION, 0, -1, -1, -1, 1);
        due("DECISION when full", v.deliver(399), DECISION);
        due("one less", v.count(2), 399);
    }

    private static void deliverToOneDown() {
        section = "7 deliver to one who is down";
        Council x = filled(1, 1, 400);
        x.crash(1, 0);
        due("VOTE when full", x.deliver(0), VOTE);
        due("gone", x.count(2), 399);
        due("came", x.count(4), 1);
        due("not accepted", x.acceptor(0, 0, 2), -1);
        x.recover(1, 0);
        due("still not accepted", x.acceptor(0, 0, 2), -1);

        Council y = new Council(1, 1);
        y.begin(1);
        y.deliver(0);
        y.crash(2, 1);
        due("TOLD", y.deliver(2), TOLD);
        y.recover(2, 1);
        leaderIs(y, 1, 2, 0, 2, 0, 1, 0);
        y.crash(2, 0);
        y.begin(1);
        y.settle();
        due("a leader that was down", y.leader(0, 2), 0);

        throwsIndex("deliver(0) of none", () -> new Council(1, 1).deliver(0));
        y.prepare(0);
        int n = y.count(2);
        throwsIndex("deliver(size)", () -> y.deliver(n));
        throwsIndex("deliver(-1)", () -> y.deliver(-1));
        throwsIndex("deliver(least)", () -> y.deliver(Integer.MIN_VALUE));
        throwsIndex("deliver(greatest)", () -> y.deliver(Integer.MAX_VALUE));
        due("as before", y.count(2), n);
    }

    // ---- promises 8 to 10

    private static void drop() {
        section = "8 drop";
        Council x = new Council(2, 1);
        x.prepare(0);
        x.question(1);
        x.drop(1);
        due("messages", x.count(2), 5);
        messageIs(x, 0, VOTE, 0, -1, 0, 0, 1);
        messageIs(x, 1, VOTE, 2, -1, 0, 0, 1);
        messageIs(x, 2, QUESTION, 0, 1, -1, -1, -1);
        due("did not come", x.count(4), 0);
        due("were sent", x.count(3), 6);
        throwsIndex("drop(5)", () -> x.drop(5));
        throwsIndex("drop(-1)", () -> x.drop(-1));
        throwsIndex("drop(greatest)", () -> x.drop(Integer.MAX_VALUE));
        throwsIndex("drop(least)", () -> x.drop(Integer.MIN_VALUE));
        for (int k = 0; k < 5; k++) {
            x.drop(0);
        }
        due("none", x.count(2), 0);
        throwsIndex("drop(0) of none", () -> x.drop(0));
        due("nothing was accepted", x.acceptor(0, 0, 2), -1);
    }

    private static void copy() {
        section = "9 copy";
        Council x = new Council(2, 1);
        x.refuse(1);
        x.calm(3);
        x.lose();
        x.begin(2);
        x.deliver(1);
        due("how many", x.copy(2), 4);
        messageIs(x, 3, TOLD, 2, 1, -1, 3, -1);
        due("told ballot", x.told(3, 1, true), 0);
        due("told word", x.told(3, 1, false), 2);
        due("told none", x.told(3, 0, false), 0);
        due("the first is there still", x.message(2, 0), TOLD);
        due("copies are sent", x.count(3), 3 + 9 + 3 + 1 + 1);
        throwsIndex("copy(4)", () -> x.copy(4));
        throwsIndex("copy(-1)", () -> x.copy(-1));
        throwsIndex("copy(greatest)", () -> x.copy(Integer.MAX_VALUE));
        throwsIndex("copy(least)", () -> x.copy(Integer.MIN_VALUE));
        fill(x, 399);
        due("the last room", x.copy(0), 400);
        int sent = x.count(3);
        due("without room", x.copy(0), -1);
        due("as before", x.count(2), 400);
        due("not sent", x.count(3), sent);
        throwsIndex("copy(400) when full", () -> x.copy(400));
    }

    private static void calm() {
        section = "10 calm";
        Council x = new Council(1, 1);
        due("none", x.calm(400), 0);
        x.prepare(0);
        due("calm(0)", x.calm(0), 0);
        due("as before", x.count(2), 3);
        due("calm(2)", x.calm(2), 2);
        due("came", x.count(4), 2);
        due("in order", x.message(0, 1), 2);
        due("the rest", x.calm(400), 13);
        due("none left", x.count(2), 0);
        throwsArgument("calm(-1)", () -> x.calm(-1));
        throwsArgument("calm(401)", () -> x.calm(401));
        throwsArgument("calm(least)", () -> x.calm(Integer.MIN_VALUE));
        throwsArgument("calm(greatest)", () -> x.calm(Integer.MAX_VALUE));
        x.question(0);
        throwsArgument("calm(401)", () -> x.calm(401));
        due("what throws brings nothing", x.count(2), 3);

        Council full = filled(1, 1, 400);
        due("a first one without room", full.calm(5), 0);
        due("as before", full.count(2), 400);
        Council some = new Council(1, 1);
        some.question(0);
        some.prepare(0);
        fill(some, 400);
        due("three, then one VOTE, then no room", some.calm(10), 4);
        due("left", some.count(2), 399);
    }

    // ---- promises 11 and 12

    private static void crash() {
        section = "11 crash";
        Council x = new Council(2, 1);
        int[] many = {2, 3, 3};
        for (int sort = 0; sort < 3; sort++) {
            int s = sort;
            due("was up", x.crash(sort, 1), true);
            due("was down", x.crash(sort, 1), false);
            throwsIndex("no such one", () -> x.crash(s, many[s]));
            throwsIndex("no such one", () -> x.crash(s, -1));
            for (int odd : ODD) {
                throwsIndex("no such one", () -> x.crash(s, odd));
            }
        }
        due("manager", x.manager(1, 1), 0);
        due("the other", x.manager(0, 1), 1);
        due("acceptor", x.acceptor(1, 0, 1), 0);
        due("leader", x.leader(1, 4), 0);
        for (int odd : new int[] {-1, 3, Integer.MIN_VALUE, Integer.MAX_VALUE}) {
            throwsArgument("sort", () -> x.crash(odd, 0));
            throwsArgument("sort and one", () -> x.crash(odd, -1));
        }
        due("what throws brings none down", x.count(5) + x.count(6), 3);

        // A manager and an acceptor lose nothing.
        Council y = new Council(2, 1);
        y.prepare(0);
        y.calm(3);
        y.begin(0);
        y.calm(400);
        int promised = y.acceptor(0, 0, 0);
        y.crash(0, 0);
        y.crash(1, 0);
        due("manager's state", y.manager(0, 0), 4);
        due("promised", y.acceptor(0, 0, 0), promised);
        due("accepted ballot", y.acceptor(0, 0, 2), 1);
        due("accepted word", y.acceptor(0, 0, 3), 1);

        // A leader loses all but BALLOT and HIGHEST.
        Council z = new Council(1, 1);
        z.prepare(0);
        z.settle();
        z.begin(0);
        z.calm(4);
        due("outcome before", z.outcome(0, 0), 1);
        leaderIs(z, 0, 1, 1, 1, 1, 1, 0);
        z.calm(1);
        leaderIs(z, 0, 1, 1, 1, 1, 1, 1);
        z.crash(2, 0);
        leaderIs(z, 0, 1, 0, 1, 0, 0, 0);
        due("outcome", z.outcome(0, 0), 0);
        due("seen", z.seen(0, 0, 0), -1);
        due("another leader's", z.outcome(1, 0), 1);
        z.recover(2, 0);
        leaderIs(z, 0, 1, 0, 1, 0, 1, 0);
        z.lose();
        z.question(0);
        due("has no answer", z.deliver(0), QUESTION);
        due("none", z.count(2), 2);
        z.begin(0);
        z.settle();
        due("learns it again", z.leader(0, 3), 1);
    }

    private static void recover() {
        section = "12 recover";
        Council x = new Council(2, 2);
        int[] many = {2, 5, 3};
        for (int sort = 0; sort < 3; sort++) {
            int s = sort;
            due("was up", x.recover(sort, 1), false);
            x.crash(sort, 1);
            due("was down", x.recover(sort, 1), true);
            due("is up", x.recover(sort, 1), false);
            throwsIndex("no such one", () -> x.recover(s, many[s]));
            for (int odd : ODD) {
                throwsIndex("no such one", () -> x.recover(s, odd));
            }
        }
        for (int odd : new int[] {-1, 3, Integer.MIN_VALUE, Integer.MAX_VALUE}) {
            throwsArgument("sort", () -> x.recover(odd, 0));
            throwsArgument("sort and one", () -> x.recover(odd, 99));
        }
        x.begin(0);
        x.recover(2, 0);
        leaderIs(x, 0, 1, 1, 1, 0, 1, 0);
    }

    // ---- promises 13 to 20

    private static void message() {
        section = "13 message";
        Council x = new Council(2, 1);
        x.refuse(1);
        x.deliver(0);
        x.begin(2);
        x.deliver(6);
        x.question(1);
        messageIs(x, 0, VOTE, 1, -1, 1, 0, 2);
        messageIs(x, 4, VOTED, 2, 0, 1, 0, 2);
        messageIs(x, 5, ASK, 0, -1, -1, 3, -1);
        messageIs(x, 7, TOLD, 2, 1, -1, 3, -1);
        messageIs(x, 9, QUESTION, 1, 1, -1, -1, -1);
        for (int odd : ODD) {
            due("another what", x.message(0, odd), -1);
        }
        throwsIndex("message(11, 0)", () -> x.message(11, 0));
        throwsIndex("message(11, 9)", () -> x.message(11, 9));
        throwsIndex("message(-1, 0)", () -> x.message(-1, 0));
        throwsIndex("message(greatest, 0)", () -> x.message(Integer.MAX_VALUE, 0));
        throwsIndex("message(least, 0)", () -> x.message(Integer.MIN_VALUE, 0));
        Council y = new Council(1, 1);
        y.refuse(0);
        y.calm(9);
        messageIs(y, y.count(2) - 1, DECISION, 0, -1, -1, -1, 2);
    }

    private static void told() {
        section = "14 told";
        Council x = new Council(3, 1);
        x.prepare(0);
        x.refuse(1);
        x.calm(6);
        x.lose();
        x.begin(1);
        x.deliver(0);
        due("ballot", x.told(2, 0, true), 0);
        due("word", x.told(2, 0, false), 1);
        due("ballot", x.told(2, 1, true), 0);
        due("word", x.told(2, 1, false), 2);
        due("ballot of none", x.told(2, 2, true), -1);
        due("word of none", x.told(2, 2, false), 0);
        due("of an ASK", x.told(0, 0, true), -1);
        due("of an ASK", x.told(0, 0, false), -1);
        throwsIndex("manager 3", () -> x.told(2, 3, true));
        throwsIndex("manager -1", () -> x.told(2, -1, false));
        throwsIndex("manager 3 of an ASK", () -> x.told(0, 3, true));
        throwsIndex("message 3", () -> x.told(3, 0, true));
        throwsIndex("message -1", () -> x.told(-1, 0, true));

        // What was told stays as it was as it was sent.
        x.deliver(0);
        x.deliver(0);
        x.deliver(1);
        x.deliver(1);
        due("one TOLD and nine VOTES", x.count(2), 10);
        due("of acceptor", x.message(0, 2), 0);
        x.deliver(1);
        due("accepted since", x.acceptor(0, 0, 2), 2);
        due("told ballot", x.told(0, 0, true), 0);
        due("told word", x.told(0, 0, false), 1);
    }

    private static void manager() {
        section = "15 manager";
        Council x = new Council(4, 1);
        x.prepare(1);
        x.refuse(2);
        x.crash(0, 3);
        int[][] state = {{0, 1}, {1, 1}, {2, 1}, {0, 0}};
        for (int m = 0; m < 4; m++) {
            due("how it is", x.manager(m, 0), state[m][0]);
            due("up", x.manager(m, 1), state[m][1]);
            due("another what", x.manager(m, 2), -1);
            due("another what", x.manager(m, -1), -1);
        }
        due("COMMITTED", Council.committed(1, 1).manager(0, 0), 3);
        x.settle();
        due("ABORTED", x.manager(0, 0), 4);
        due("down, so not", x.manager(3, 0), 0);
        throwsIndex("manager(4, 0)", () -> x.manager(4, 0));
        throwsIndex("manager(4, 9)", () -> x.manager(4, 9));
        for (int odd : ODD) {
            throwsIndex("manager(odd, 0)", () -> x.manager(odd, 0));
        }
    }

    private static void acceptor() {
        section = "16 acceptor";
        Council x = new Council(2, 2);
        x.refuse(1);
        x.calm(5);
        x.crash(1, 4);
        due("promised", x.acceptor(4, 1, 0), 0);
        due("down", x.acceptor(4, 1, 1), 0);
        due("up", x.acceptor(3, 1, 1), 1);
        due("ballot", x.acceptor(4, 1, 2), 0);
        due("word", x.acceptor(4, 1, 3), 2);
        due("no ballot", x.acceptor(4, 0, 2), -1);
        due("no word", x.acceptor(4, 0, 3), 0);
        due("another what", x.acceptor(4, 0, 4), -1);
        due("another what", x.acceptor(4, 0, -1), -1);
        x.lose();
        x.begin(2);
        x.settle();
        due("promised", x.acceptor(3, 0, 0), 3);
        due("ballot", x.acceptor(3, 0, 2), 3);
        due("word", x.acceptor(3, 0, 3), 2);
        due("the one down", x.acceptor(4, 0, 0), 0);
        throwsIndex("acceptor(5, 0, 0)", () -> x.acceptor(5, 0, 0));
        throwsIndex("acceptor(0, 2, 0)", () -> x.acceptor(0, 2, 0));
        throwsIndex("acceptor(0, 2, 9)", () -> x.acceptor(0, 2, 9));
        for (int odd : ODD) {
            throwsIndex("acceptor(odd, 0, 1)", () -> x.acceptor(odd, 0, 1));
            throwsIndex("acceptor(0, odd, 1)", () -> x.acceptor(0, odd, 1));
        }
        Council y = new Council(2, 1);
        throwsIndex("the fourth of three", () -> y.acceptor(3, 0, 0));
    }

    private static void leader() {
        section = "17 leader";
        Council x = new Council(2, 1);
        x.prepare(0);
        x.refuse(1);
        x.settle();
        x.begin(1);
        leaderIs(x, 1, 2, 1, 2, 2, 1, 0);
        x.settle();
        leaderIs(x, 1, 2, 2, 2, 2, 1, 0);
        leaderIs(x, 0, 0, 0, 2, 2, 1, 0);
        x.crash(2, 0);
        leaderIs(x, 0, 0, 0, 2, 0, 0, 0);
        due("another what", x.leader(0, 6), -1);
        due("another what", x.leader(0, -1), -1);
        throwsIndex("leader(3, 0)", () -> x.leader(3, 0));
        throwsIndex("leader(3, 9)", () -> x.leader(3, 9));
        for (int odd : ODD) {
            throwsIndex("leader(odd, 0)", () -> x.leader(odd, 0));
        }
    }

    private static void outcome() {
        section = "18 outcome";
        Council x = new Council(3, 1);
        x.prepare(0);
        x.refuse(1);
        x.settle();
        for (int l = 0; l < 3; l++) {
            due("prepared", x.outcome(l, 0), 1);
            due("aborted", x.outcome(l, 1), 2);
            due("none", x.outcome(l, 2), 0);
        }
        throwsIndex("outcome(3, 0)", () -> x.outcome(3, 0));
        throwsIndex("outcome(0, 3)", () -> x.outcome(0, 3));
        for (int odd : ODD) {
            throwsIndex("outcome(odd, 0)", () -> x.outcome(odd, 0));
            throwsIndex("outcome(0, odd)", () -> x.outcome(0, odd));
        }
    }

    private static void seen() {
        section = "19 seen";
        Council x = new Council(2, 1);
        x.prepare(1);
        x.deliver(2);
        x.deliver(3);
        due("seen", x.seen(1, 1, 2), 0);
        due("another leader", x.seen(0, 1, 2), -1);
        due("another manager", x.seen(1, 0, 2), -1);
        due("another acceptor", x.seen(1, 1, 1), -1);
        x.lose();
        x.begin(1);
        x.settle();
        for (int a = 0; a < 3; a++) {
            due("the greater ballot", x.seen(1, 1, a), 2);
        }
        throwsIndex("seen(3, 0, 0)", () -> x.seen(3, 0, 0));
        throwsIndex("seen(0, 2, 0)", () -> x.seen(0, 2, 0));
        throwsIndex("seen(0, 0, 3)", () -> x.seen(0, 0, 3));
        for (int odd : ODD) {
            throwsIndex("seen(odd, 0, 0)", () -> x.seen(odd, 0, 0));
            throwsIndex("seen(0, odd, 0)", () -> x.seen(0, odd, 0));
            throwsIndex("seen(0, 0, odd)", () -> x.seen(0, 0, odd));
        }
    }

    private static void chosen() {
        section = "20 chosen";
        Council x = new Council(2, 2);
        x.prepare(0);
        x.calm(2);
        due("two of five", x.chosen(0), 0);
        x.calm(1);
        due("three of five", x.chosen(0), 1);
        due("the other", x.chosen(1), 0);
        throwsIndex("chosen(2)", () -> x.chosen(2));
        for (int odd : ODD) {
            throwsIndex("chosen(odd)", () -> x.chosen(odd));
        }

        // An acceptor that accepts one vote twice counts once.
        Council y = new Council(1, 1);
        y.refuse(0);
        y.copy(0);
        y.deliver(3);
        y.deliver(0);
        due("one acceptor twice", y.chosen(0), 0);

        // EVER accepted: acceptor 0 goes on to ballot 3 before acceptor 1 accepts ballot 2.
        Council z = new Council(1, 1);
        voteWithout(z, 1, 2);
        z.drop(2);
        z.deliver(0);
        dropAll(z, VOTED);
        due("accepted by 0", z.acceptor(0, 0, 2), 2);
        z.begin(2);
        z.deliver(1);
        z.deliver(2);
        z.deliver(2);
        z.deliver(2);
        due("voting in 3", z.leader(2, 1), 2);
        z.deliver(2);
        due("0 is at 3 now", z.acceptor(0, 0, 2), 3);
        due("not chosen yet", z.chosen(0), 0);
        messageIs(z, 0, VOTE, 1, -1, 0, 2, 2);
        z.deliver(0);
        due("1 accepted in 2", z.acceptor(1, 0, 2), 2);
        due("chosen with ballot 2", z.chosen(0), 2);

        // Two acceptors with two ballots do not choose.
        Council w = new Council(1, 1);
        w.prepare(0);
        w.deliver(0);
        w.lose();
        w.begin(0);
        w.deliver(1);
        w.deliver(1);
        w.deliver(1);
        w.deliver(1);
        due("voting", w.leader(0, 1), 2);
        w.deliver(2);
        due("0 accepted in 0", w.acceptor(0, 0, 2), 0);
        due("1 accepted in 1", w.acceptor(1, 0, 2), 1);
        due("none chosen", w.chosen(0), 0);
    }

    // ---- promises 21 and 22

    private static void count() {
        section = "21 count";
        Council x = new Council(2, 1);
        x.prepare(0);
        x.copy(0);
        x.deliver(0);
        x.drop(0);
        x.crash(1, 1);
        x.crash(1, 2);
        x.crash(0, 1);
        x.begin(0);
        x.begin(2);
        x.deliver(0);
        int[] want = {2, 3, 10, 13, 2, 1, 1, 0, 0, 2};
        for (int what = 0; what < want.length; what++) {
            due("count(" + what + ")", x.count(what), want[what]);
        }
        due("count(10)", x.count(10), -1);
        due("count(-1)", x.count(-1), -1);
        due("count(least)", x.count(Integer.MIN_VALUE), -1);
        due("count(greatest)", x.count(Integer.MAX_VALUE), -1);
        due("COMMITTED", Council.committed(4, 2).count(7), 4);
        due("not ABORTED", Council.committed(4, 2).count(8), 0);
    }

    private static void astray() {
        section = "22 astray";
        due("new", new Council(3, 1).astray(), 0);
        due("committed", Council.committed(3, 1).astray(), 0);
        Council x = new Council(2, 1);
        x.prepare(0);
        x.refuse(1);
        x.settle();
        due("aborted", x.astray(), 0);
        Council y = new Council(3, 2);
        y.prepare(0);
        y.begin(1);
        y.settle();
        due("aborted by a leader", y.count(8), 3);
        due("and none astray", y.astray(), 0);
    }

    /** What is answered after 512 calls is free, but no call throws by itself, and each ends. */
    private static void manyCallsThrowNothing() {
        section = "far beyond 512 calls";
        throwsNothing("18000 calls", () -> {
            CommitCouncil x = new CommitCouncil(6, 2);
            for (int k = 0; k < 6000; k++) {
                x.begin(k % 3);
                x.calm(400);
                x.question(k % 6);
            }
        });
    }

    // ---- what the tests above use

    /** Manager 0 is PREPARED, and its votes and copies of the first of them fill the row. */
    private static Council filled(int managers, int f, int size) {
        Council x = new Council(managers, f);
        x.prepare(0);
        fill(x, size);
        return x;
    }

    private static void fill(Council x, int size) {
        for (int there = x.count(2); there < size; there++) {
            x.copy(0);
        }
        due("made: filled", x.count(2), size);
    }

    private static void dropAll(Council x, int kind) {
        for (int i = x.count(2) - 1; i >= 0; i--) {
            if (x.message(i, 0) == kind) {
                x.drop(i);
            }
        }
    }

    /** The first message of a kind to one, of a manager's word. */
    private static int find(Council x, int kind, int to, int whose) {
        for (int i = 0; i < x.count(2); i++) {
            if (x.message(i, 0) == kind && x.message(i, 1) == to && x.message(i, 3) == whose) {
                return i;
            }
        }
        return -1;
    }

    private static int lastOf(Council x, int kind, int to) {
        for (int i = x.count(2) - 1; i >= 0; i--) {
            if (x.message(i, 0) == kind && x.message(i, 1) == to) {
                return i;
            }
        }
        return -1;
    }
}
