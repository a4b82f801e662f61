import java.util.function.BiConsumer;
import java.util.function.BiPredicate;
import java.util.function.Consumer;
import java.util.function.IntConsumer;
import java.util.function.ObjIntConsumer;

/** A test of its own for each sentence of promises 1 to 12, the acts, that names a boundary case. */
public final class ActBoundaryTests extends Check {
    public static void main(String[] args) {
        sentence("1: so many managers (1 .. 6; others: 3)", ActBoundaryTests::soManyManagers);
        sentence("1: 2 F + 1 acceptors (F 1, 2; others: 1)", ActBoundaryTests::soManyAcceptors);
        sentence("1: WORKING, three leaders, all UP, no MESSAGES", ActBoundaryTests::allUpNoMessages);

        sentence("2: a WORKING manager that is UP becomes PREPARED: true", () -> proposes(Council::prepare, 1));
        sentence("2: false, and nothing happens, else", () -> proposesNot(Council::prepare));
        sentence("2: (or without room)", () -> proposesWithoutRoom(Council::prepare));
        sentence("2: IndexOutOfBoundsException: there is no such manager", () -> noSuchManager(Council::prepare));

        sentence("3: it becomes REFUSED, likewise: true", () -> proposes(Council::refuse, 2));
        sentence("3: likewise: false, and nothing happens, else", () -> proposesNot(Council::refuse));
        sentence("3: likewise: without room", () -> proposesWithoutRoom(Council::refuse));
        sentence("3: IndexOutOfBoundsException", () -> noSuchManager(Council::refuse));

        sentence("4: a PREPARED or REFUSED manager that is UP sends its VOTES anew: true", ActBoundaryTests::resends);
        sentence("4: false likewise: else", ActBoundaryTests::resendsNot);
        sentence("4: false likewise: without room", ActBoundaryTests::resendsWithoutRoom);
        sentence("4: IndexOutOfBoundsException", () -> noSuchManager(Council::resend));

        sentence("5: a manager that is UP sends a QUESTION to each leader in order: true", ActBoundaryTests::questions);
        sentence("5: false likewise: else", ActBoundaryTests::questionsNot);
        sentence("5: false likewise: without room", ActBoundaryTests::questionsWithoutRoom);
        sentence("5: IndexOutOfBoundsException", () -> noSuchManager(Council::question));

        sentence("6: a leader that is UP begins a ballot: that", ActBoundaryTests::begins);
        sentence("6: NONE else", ActBoundaryTests::beginsNot);
        sentence("6: NONE without room", ActBoundaryTests::beginsWithoutRoom);
        sentence("6: IndexOutOfBoundsException",
            () -> onesAre(3, () -> new Council(6, 2), (x, l) -> x.begin(l)));
        messages();
        fallsAndRises();
        end();
    }

    private static void messages() {
        sentence("7: MESSAGE i (from 0 on) comes: its kind", ActBoundaryTests::delivers);
        sentence("7: NONE, and it stays on its way, without room for what it leads to",
            ActBoundaryTests::deliversWithoutRoom);
        sentence("7: IndexOutOfBoundsException", () -> noSuchMessage((x, i) -> x.deliver(i)));

        sentence("8: MESSAGE i is gone", ActBoundaryTests::drops);
        sentence("8: IndexOutOfBoundsException", () -> noSuchMessage((x, i) -> x.drop(i)));

        sentence("9: a second one like MESSAGE i is on its way, behind all: how many there are",
            ActBoundaryTests::copies);
        sentence("9: NONE without room", ActBoundaryTests::copiesWithoutRoom);
        sentence("9: IndexOutOfBoundsException", () -> noSuchMessage((x, i) -> x.copy(i)));

        sentence("10: the first MESSAGE comes", ActBoundaryTests::calmTakesTheFirst);
        sentence("10: n times at most: how often", ActBoundaryTests::calmAtMost);
        sentence("10: as long as there is one", ActBoundaryTests::calmWhileThereIsOne);
        sentence("10: and there is room", ActBoundaryTests::calmWhileThereIsRoom);
        sentence("10: IllegalArgumentException: n is not 0 .. 400", ActBoundaryTests::calmOfAnotherN);
    }

    private static void fallsAndRises() {
        sentence("11: goes DOWN: whether it was UP", ActBoundaryTests::crashes);
        sentence("11: one that is DOWN stays as it is", ActBoundaryTests::crashesAgain);
        sentence("11: IllegalArgumentException: another sort", () -> anotherSort((x, sort) -> x.crash(sort, 0)));
        sentence("11: IllegalArgumentException: another sort, and no such one",
            () -> anotherSort((x, sort) -> x.crash(sort, -1)));
        sentence("11: IndexOutOfBoundsException: no manager, no acceptor, no leader",
            () -> noSuchOne((x, who) -> x.crash(who[0], who[1])));

        sentence("12: it comes UP: whether it was DOWN", ActBoundaryTests::recovers);
        sentence("12: one that is UP stays as it is", ActBoundaryTests::recoversAgain);
        sentence("12: IllegalArgumentException: another sort", () -> anotherSort((x, sort) -> x.recover(sort, 0)));
        sentence("12: IllegalArgumentException: another sort, and no such one",
            () -> anotherSort((x, sort) -> x.recover(sort, 6)));
        sentence("12: IndexOutOfBoundsException: no manager, no acceptor, no leader",
            () -> noSuchOne((x, who) -> x.recover(who[0], who[1])));
    }

    // ---- promise 1

    private static void soManyManagers() {
        int[][] cases = {{1, 1}, {2, 2}, {3, 3}, {4, 4}, {5, 5}, {6, 6},
            {0, 3}, {7, 3}, {-1, 3}, {Integer.MIN_VALUE, 3}, {Integer.MAX_VALUE, 3}};
        for (int[] c : cases) {
            for (int f = 0; f <= 3; f++) {
                Council x = new Council(c[0], f);
                due("managers of " + c[0], x.count(0), c[1]);
                due("the last one", x.manager(c[1] - 1, 0), 0);
                throwsIndex("one more", () -> x.manager(c[1], 0));
            }
        }
    }

    private static void soManyAcceptors() {
        int[][] cases = {{1, 3}, {2, 5}, {0, 3}, {3, 3}, {-1, 3}, {-2, 3}, {Integer.MIN_VALUE, 3}, {Integer.MAX_VALUE, 3}};
        for (int[] c : cases) {
            for (int managers = 0; managers <= 7; managers++) {
                Council x = new Council(managers, c[0]);
                due("acceptors of " + c[0], x.count(1), c[1]);
                due("the last one", x.acceptor(c[1] - 1, 0, 1), 1);
                throwsIndex("one more", () -> x.acceptor(c[1], 0, 1));
                due("managers all the same", x.count(0), managers >= 1 && managers <= 6 ? managers : 3);
            }
        }
    }

    private static void allUpNoMessages() {
        for (int managers = 1; managers <= 6; managers++) {
            Council x = new Council(managers, 2);
            for (int m = 0; m < managers; m++) {
                due("WORKING", x.manager(m, 0), 0);
                due("UP", x.manager(m, 1), 1);
            }
            for (int a = 0; a < 5; a++) {
                due("UP", x.acceptor(a, 0, 1), 1);
            }
            for (int l = 0; l < 3; l++) {
                due("UP", x.leader(l, 4), 1);
            }
            throwsIndex("a fourth leader", () -> x.leader(3, 4));
            due("MESSAGES", x.count(2), 0);
            throwsIndex("a first MESSAGE", () -> x.message(0, 0));
            due("sent", x.count(3), 0);
            due("came", x.count(4), 0);
            due("begun", x.count(9), 0);
        }
    }

    // ---- promises 2 to 5

    private static void proposes(BiPredicate<Council, Integer> propose, int word) {
        for (int managers = 1; managers <= 6; managers++) {
            for (int m = 0; m < managers; m++) {
                Council x = new Council(managers, 1);
                due("the answer", propose.test(x, m), true);
                due("how it is", x.manager(m, 0), word);
                due("its VOTES", x.count(2), 3);
                messageIs(x, 2, VOTE, 2, -1, m, 0, word);
                due("how the others are", x.manager(managers - 1 - m, 0), managers - 1 - m == m ? word : 0);
            }
        }
        Council x = new Council(2, 1);
        x.crash(MANAGER, 1);
        x.recover(MANAGER, 1);
        due("one that is UP again", propose.test(x, 1), true);
    }

    private static void proposesNot(BiPredicate<Council, Integer> propose) {
        isFalse("PREPARED", x -> x.prepare(0), propose);
        isFalse("REFUSED", x -> x.refuse(0), propose);
        isFalse("COMMITTED", ActBoundaryTests::commitBoth, propose);
        isFalse("ABORTED that was WORKING", x -> {
            x.refuse(1);
            x.settle();
        }, propose);
        isFalse("ABORTED that was REFUSED", x -> {
            x.refuse(0);
            x.settle();
        }, propose);
        isFalse("WORKING and DOWN", x -> x.crash(MANAGER, 0), propose);
        isFalse("PREPARED and DOWN", x -> {
            x.prepare(0);
            x.crash(MANAGER, 0);
        }, propose);
    }

    private static void commitBoth(Council x) {
        x.prepare(0);
        x.prepare(1);
        x.settle();
    }

    /** Manager 0 of two answers false, and all is as before. */
    private static void isFalse(String how, Consumer<Council> before, BiPredicate<Council, Integer> act) {
        Council x = new Council(2, 1);
        before.accept(x);
        due(how, act.test(x, 0), false);
        Views.unchangedBy(how, 2, 1, before, y -> act.test(y, 0));
    }

    private static void proposesWithoutRoom(BiPredicate<Council, Integer> propose) {
        for (int f = 1; f <= 2; f++) {
            int votes = 2 * f + 1;
            for (int there = 400 - votes; there <= 400; there++) {
                Council x = new Council(2, f).fill(there);
                boolean room = there == 400 - votes;
                due("with " + there + " on their way", propose.test(x, 0), room);
                due("how many there are", x.count(2), room ? 400 : there);
                due("WORKING still", x.manager(0, 0) == 0, !room);
                x.drop(0);
                if (there == 401 - votes) {
                    due("once there is room", propose.test(x, 0), true);
                }
            }
        }
        Views.unchangedBy("without room", 2, 1, x -> x.fill(398), x -> propose.test(x, 0));
    }

    private static void noSuchManager(BiPredicate<Council, Integer> act) {
        for (int managers = 1; managers <= 6; managers++) {
            int many = managers;
            onesAre(managers, () -> new Council(many, 1), (x, m) -> act.test(x, m));
        }
        onesAre(3, () -> new Council(7, 1), (x, m) -> act.test(x, m));
        onesAre(2, () -> new Council(2, 1).fill(400), (x, m) -> act.test(x, m));
        onesAre(2, () -> {
            Council x = new Council(2, 1);
            x.crash(MANAGER, 0);
            x.crash(MANAGER, 1);
            return x;
        }, (x, m) -> act.test(x, m));
    }

    private static void resends() {
        for (int f = 1; f <= 2; f++) {
            int votes = 2 * f + 1;
            Council x = new Council(2, f);
            x.prepare(0);
            x.refuse(1);
            due("PREPARED", x.resend(0), true);
            due("REFUSED", x.resend(1), true);
            due("how many", x.count(2), 4 * votes);
            for (int a = 0; a < votes; a++) {
                messageIs(x, 2 * votes + a, VOTE, a, -1, 0, 0, 1);
                messageIs(x, 3 * votes + a, VOTE, a, -1, 1, 0, 2);
            }
            due("PREPARED as before", x.manager(0, 0), 1);
            due("REFUSED as before", x.manager(1, 0), 2);
            due("again", x.resend(0), true);
        }
    }

    private static void resendsNot() {
        isFalse("WORKING", x -> { }, Council::resend);
        isFalse("COMMITTED", ActBoundaryTests::commitBoth, Council::resend);
        isFalse("ABORTED that was PREPARED", x -> {
            x.prepare(0);
            x.refuse(1);
            x.settle();
        }, Council::resend);
        isFalse("ABORTED that was REFUSED", x -> {
            x.refuse(0);
            x.settle();
        }, Council::resend);
        isFalse("WORKING and DOWN", x -> x.crash(MANAGER, 0), Council::resend);
        isFalse("PREPARED and DOWN", x -> {
            x.prepare(0);
            x.crash(MANAGER, 0);
        }, Council::resend);
        isFalse("REFUSED and DOWN", x -> {
            x.refuse(0);
            x.crash(MANAGER, 0);
        }, Council::resend);
    }

    private static void resendsWithoutRoom() {
        for (int f = 1; f <= 2; f++) {
            int votes = 2 * f + 1;
            for (int there = 400 - votes; there <= 400; there++) {
                Council x = new Council(2, f);
                x.refuse(1);
                x.fill(there);
                boolean room = there == 400 - votes;
                due("with " + there + " on their way", x.resend(1), room);
                due("how many there are", x.count(2), room ? 400 : there);
            }
        }
    }

    private static void questions() {
        for (int m = 0; m < 6; m++) {
            Council x = new Council(6, 2);
            due("WORKING", x.question(m), true);
            for (int l = 0; l < 3; l++) {
                messageIs(x, l, QUESTION, l, m, -1, -1, -1);
            }
            due("how many", x.count(2), 3);
        }
        Council x = new Council(2, 1);
        x.prepare(0);
        x.refuse(1);
        due("PREPARED", x.question(0), true);
        due("REFUSED", x.question(1), true);
        due("COMMITTED", Council.committed(2, 1).question(1), true);
        due("ABORTED", Council.aborted(2, 1).question(1), true);
        x.crash(LEADER, 0);
        x.crash(LEADER, 1);
        x.crash(LEADER, 2);
        due("to leaders that are DOWN", x.question(0), true);
        due("how many", x.count(2), 15);
    }

    private static void questionsNot() {
        isFalse("WORKING and DOWN", x -> x.crash(MANAGER, 0), Council::question);
        isFalse("COMMITTED and DOWN", x -> {
            commitBoth(x);
            x.crash(MANAGER, 0);
        }, Council::question);
    }

    private static void questionsWithoutRoom() {
        for (int there = 397; there <= 400; there++) {
            Council x = new Council(1, 2).fill(there);
            due("with " + there + " on their way", x.question(0), there == 397);
            due("how many there are", x.count(2), there == 397 ? 400 : there);
        }
        Views.unchangedBy("without room", 2, 1, x -> x.fill(398), x -> x.question(0));
    }

    // ---- promise 6

    private static void begins() {
        Council x = new Council(2, 1);
        due("the first of leader 0", x.begin(0), 1);
        due("the first of leader 1", x.begin(1), 2);
        due("the first of leader 2", x.begin(2), 3);
        due("the next while ASKING", x.begin(0), 4);
        leaderIs(x, 0, 4, 1, 4, 0, 1, 0);
        due("begun", x.count(9), 4);

        Council y = new Council(2, 1);
        y.begin(0);
        y.calm(4);
        due("one told", y.leader(0, 5), 1);
        due("the next while ASKING", y.begin(0), 4);
        leaderIs(y, 0, 4, 1, 4, 0, 1, 0);
        y.settle();
        due("voting", y.leader(0, 1), 2);
        due("the next while VOTING", y.begin(0), 7);
        leaderIs(y, 0, 7, 1, 7, 2, 1, 0);
        y.crash(LEADER, 0);
        y.recover(LEADER, 0);
        due("the next after a fall", y.begin(0), 10);
    }

    private static void beginsNot() {
        for (int l = 0; l < 3; l++) {
            int leader = l;
            Council x = new Council(2, 1);
            x.crash(LEADER, l);
            due("DOWN", x.begin(l), -1);
            due("none begun", x.count(9), 0);
            Views.unchangedBy("DOWN", 2, 1, y -> y.crash(LEADER, leader), y -> y.begin(leader));
            x.recover(LEADER, l);
            due("UP again", x.begin(l), l + 1);
        }
        Views.unchangedBy("DOWN in the midst of it", 2, 1, x -> {
            x.begin(1);
            x.calm(4);
            x.crash(LEADER, 1);
        }, x -> x.begin(1));
    }

    private static void beginsWithoutRoom() {
        for (int f = 1; f <= 2; f++) {
            int asks = 2 * f + 1;
            for (int there = 400 - asks; there <= 400; there++) {
                Council x = new Council(2, f).fill(there);
                boolean room = there == 400 - asks;
                due("with " + there + " on their way", x.begin(2), room ? 3 : -1);
                due("how many there are", x.count(2), room ? 400 : there);
                due("begun", x.count(9), room ? 1 : 0);
                due("BALLOT", x.leader(2, 0), room ? 3 : 0);
            }
            for (int there = 400 - asks - 2; there <= 400; there++) {
                Council x = Council.committed(2, f).fill(there);
                boolean room = there == 400 - asks - 2;
                due("with a DECISION and " + there + " on their way", x.begin(2), room ? 3 : -1);
                due("how many there are", x.count(2), room ? 400 : there);
                due("PHASE", x.leader(2, 1), room ? 1 : 0);
            }
        }
    }

    // ---- promises 7 to 10

    private static void delivers() {
        Council x = new Council(1, 1);
        x.prepare(0);
        x.begin(0);
        x.question(0);
        due("the first", x.deliver(0), VOTE);
        due("the last, a VOTED", x.deliver(10), VOTED);
        due("an ASK in between", x.deliver(4), ASK);
        due("the last, a TOLD", x.deliver(9), TOLD);
        due("a QUESTION in between", x.deliver(4), QUESTION);
        due("came", x.count(4), 5);
        Council y = new Council(1, 1);
        y.refuse(0);
        y.calm(3);
        y.deliver(0);
        y.deliver(2);
        due("the last, a DECISION", y.deliver(7), DECISION);
        y.lose();
        y.question(0);
        y.drop(0);
        y.drop(0);
        due("the only one", y.deliver(0), QUESTION);
        due("none is left", y.count(2), 0);
    }

    private static void deliversWithoutRoom() {
        for (int there = 398; there <= 400; there++) {
            Council x = new Council(2, 2);
            x.prepare(1);
            x.fill(there);
            boolean room = there == 398;
            due("a VOTE with " + there + " on their way", x.deliver(4), room ? VOTE : -1);
            due("how many there are", x.count(2), room ? 400 : there);
            due("came", x.count(4), room ? 1 : 0);
            due("accepted", x.acceptor(4, 1, 2), room ? 0 : -1);
            due("chosen", x.chosen(1), 0);
            messageIs(x, 3, VOTE, 3, -1, 1, 0, 1);
            due("the one at its place", x.message(4, 0), room ? QUESTION : VOTE);
        }
        votedWithoutRoom();
        toldWithoutRoom();
        staysAndComesLater();
    }

    /** The VOTED at 7 decides: without room the leader has not seen it. */
    private static void votedWithoutRoom() {
        Consumer<Council> before = x -> {
            x.begin(2);
            x.calm(5);
            x.deliver(1);
            x.deliver(1);
            messageIs(x, 5, VOTED, 0, 0, 0, 3, 2);
            x.deliver(5);
            messageIs(x, 7, VOTED, 0, 1, 0, 3, 2);
            x.fill(400);
        };
        Council x = new Council(2, 1);
        before.accept(x);
        due("a VOTED with 400 on their way", x.deliver(7), -1);
        due("not seen", x.seen(0, 0, 1), -1);
        due("no outcome", x.outcome(0, 0), 0);
        due("no decision", x.leader(0, 3), 0);
        x.drop(399);
        due("a VOTED with 399 on their way", x.deliver(7), VOTED);
        due("seen", x.seen(0, 0, 1), 3);
        due("outcome", x.outcome(0, 0), 2);
        due("decision", x.leader(0, 3), 2);
        due("how many there are", x.count(2), 400);
        Views.unchangedBy("a VOTED with 400 on their way", 2, 1, before, y -> y.deliver(7));
    }

    private static void toldWithoutRoom() {
        for (int there = 371; there <= 400; there += there == 372 ? 28 : 1) {
            Council x = new Council(6, 2);
            x.begin(1);
            x.calm(7);
            x.fill(there);
            boolean room = there == 371;
            due("a TOLD with " + there + " on their way", x.deliver(0), room ? TOLD : -1);
            leaderIs(x, 1, 2, room ? 2 : 1, 2, 0, 1, room ? 0 : 2);
            due("how many there are", x.count(2), room ? 400 : there);
        }
    }

    private static void staysAndComesLater() {
        Council x = new Council(1, 1);
        x.prepare(0);
        x.fill(399);
        due("without room", x.deliver(1), -1);
        due("again", x.deliver(1), -1);
        messageIs(x, 1, VOTE, 1, -1, 0, 0, 1);
        x.drop(398);
        due("with room", x.deliver(1), VOTE);
    }

    private static void noSuchMessage(ObjIntConsumer<Council> act) {
        onesAre(0, () -> new Council(1, 1), act);
        onesAre(3, () -> {
            Council x = new Council(1, 1);
            x.prepare(0);
            return x;
        }, act);
        onesAre(1, () -> {
            Council x = new Council(1, 1);
            x.question(0);
            x.drop(1);
            x.drop(1);
            return x;
        }, act);
        onesAre(400, () -> new Council(1, 1).fill(400), act);
        onesAre(0, () -> new Council(1, 1).fill(9).lose(), act);
    }

    private static void drops() {
        for (int i = 0; i < 6; i++) {
            Council x = new Council(1, 1);
            x.prepare(0);
            x.question(0);
            x.drop(i);
            due("how many", x.count(2), 5);
            for (int k = 0; k < 5; k++) {
                int was = k < i ? k : k + 1;
                messageIs(x, k, was < 3 ? VOTE : QUESTION, was % 3);
            }
            due("it did not come", x.count(4), 0);
            due("it was sent", x.count(3), 6);
        }
        Council x = new Council(1, 1).fill(400);
        x.drop(399);
        due("the last of 400", x.count(2), 399);
        x.drop(0);
        due("the first of 399", x.count(2), 398);
        messageIs(x, 0, QUESTION, 1, 0);
    }

    private static void copies() {
        Council x = new Council(2, 1);
        x.refuse(1);
        x.calm(3);
        x.lose();
        x.begin(2);
        x.deliver(1);
        x.question(0);
        due("of an ASK, the first", x.copy(0), 7);
        messageIs(x, 6, ASK, 0, -1, -1, 3, -1);
        due("of a TOLD", x.copy(2), 8);
        messageIs(x, 7, TOLD, 2, 1, -1, 3, -1);
        due("told ballot", x.told(7, 1, true), 0);
        due("told word", x.told(7, 1, false), 2);
        due("told no ballot", x.told(7, 0, true), -1);
        due("told no word", x.told(7, 0, false), 0);
        due("of a QUESTION", x.copy(5), 9);
        messageIs(x, 8, QUESTION, 2, 0, -1, -1, -1);
        due("of the last, a copy", x.copy(8), 10);
        messageIs(x, 9, QUESTION, 2, 0, -1, -1, -1);
        messageIs(x, 2, TOLD, 2, 1, -1, 3, -1);
        due("sent: 3, 9, 3, 1, 3 and four copies", x.count(3), 23);
        x.drop(2);
        due("the copy outlives the first", x.told(6, 1, false), 2);
    }

    private static void copiesWithoutRoom() {
        Council x = new Council(1, 1).fill(399);
        due("with one place", x.copy(398), 400);
        int sent = x.count(3);
        due("with none", x.copy(0), -1);
        due("with none, of the last", x.copy(399), -1);
        due("sent", x.count(3), sent);
        Views.unchangedBy("with none", 1, 1, y -> y.fill(400), y -> y.copy(7));
    }

    private static void calmTakesTheFirst() {
        Council x = new Council(1, 1);
        x.prepare(0);
        due("one", x.calm(1), 1);
        messageIs(x, 0, VOTE, 1);
        messageIs(x, 1, VOTE, 2);
        messageIs(x, 2, VOTED, 0, 0);
        due("accepted by acceptor 0", x.acceptor(0, 0, 2), 0);
        due("and not by acceptor 1", x.acceptor(1, 0, 2), -1);
        Consumer<Council> calm = y -> {
            y.refuse(1);
            y.begin(0);
            y.calm(17);
        };
        Consumer<Council> firsts = y -> {
            y.refuse(1);
            y.begin(0);
            for (int k = 0; k < 17; k++) {
                y.deliver(0);
            }
        };
        due("calm(17) is deliver(0), 17 times", Views.after(2, 1, calm).equals(Views.after(2, 1, firsts)), true);
    }

    private static void calmAtMost() {
        Council x = new Council(1, 1);
        x.crash(LEADER, 0);
        x.crash(LEADER, 1);
        x.crash(LEADER, 2);
        x.fill(400);
        due("calm(0)", x.calm(0), 0);
        due("none came", x.count(4), 0);
        due("calm(1)", x.calm(1), 1);
        due("one came", x.count(4), 1);
        due("calm(398)", x.calm(398), 398);
        due("one is left", x.count(2), 1);
        Council y = new Council(1, 1).fill(400);
        due("calm(399) of 400", y.calm(399), 399);
        due("one is left", y.count(2), 1);
        Council z = new Council(1, 1).fill(400);
        due("calm(400) of 400", z.calm(400), 400);
        due("none is left", z.count(2), 0);

        // Each of 120 VOTES leads to three VOTED: a calm ends with the 400th all the same.
        Council w = new Council(6, 2);
        for (int m = 0; m < 6; m++) {
            w.prepare(m);
            w.resend(m);
            w.resend(m);
            w.resend(m);
        }
        due("calm(400) of more", w.calm(400), 400);
        due("came", w.count(4), 400);
        due("some are left", w.count(2) > 0, true);
    }

    private static void calmWhileThereIsOne() {
        Council x = new Council(1, 1);
        due("none", x.calm(400), 0);
        due("none, and none asked for", x.calm(0), 0);
        x.question(0);
        due("three of four", x.calm(4), 3);
        due("none is left", x.calm(1), 0);
        x.question(0);
        due("three of three", x.calm(3), 3);
        x.prepare(0);
        due("and those that they lead to: 3 VOTES, 9 VOTED, 3 DECISIONS", x.calm(400), 15);
    }

    private static void calmWhileThereIsRoom() {
        Council x = new Council(1, 1);
        x.prepare(0);
        x.fill(400);
        due("the first finds no room", x.calm(400), 0);
        due("none came", x.count(4), 0);
        Council y = new Council(1, 1);
        y.question(0);
        y.prepare(0);
        y.fill(400);
        due("three, then one VOTE, then no room", y.calm(10), 4);
        due("left", y.count(2), 399);
        messageIs(y, 0, VOTE, 1);
        due("no more", y.calm(10), 0);
        due("those behind wait for the first", y.count(4), 4);
    }

    private static void calmOfAnotherN() {
        for (int n : new int[] {-1, 401, -400, 512, Integer.MIN_VALUE, Integer.MAX_VALUE}) {
            Council none = new Council(1, 1);
            throwsArgument("calm(" + n + ")", () -> none.calm(n));
            Council some = new Council(1, 1).fill(3);
            throwsArgument("calm(" + n + ")", () -> some.calm(n));
            due("nothing came", some.count(2), 3);
        }
        for (int n : new int[] {0, 1, 399, 400}) {
            Council none = new Council(1, 1);
            throwsNothing("calm(" + n + ")", () -> none.calm(n));
        }
    }

    // ---- promises 11 and 12

    private static final int[][] EVERYONE = {
        {MANAGER, 0}, {MANAGER, 5}, {ACCEPTOR, 0}, {ACCEPTOR, 4}, {LEADER, 0}, {LEADER, 2}};

    private static boolean isUp(Council x, int[] who) {
        switch (who[0]) {
            case MANAGER: return x.manager(who[1], 1) == 1;
            case ACCEPTOR: return x.acceptor(who[1], 0, 1) == 1;
            default: return x.leader(who[1], 4) == 1;
        }
    }

    private static void crashes() {
        for (int[] who : EVERYONE) {
            Council x = new Council(6, 2);
            due("was UP", x.crash(who[0], who[1]), true);
            for (int[] one : EVERYONE) {
                due("UP", isUp(x, one), one != who);
            }
            due("was DOWN", x.crash(who[0], who[1]), false);
            due("DOWN still", isUp(x, who), false);
            x.recover(who[0], who[1]);
            due("was UP again", x.crash(who[0], who[1]), true);
        }
    }

    private static void crashesAgain() {
        for (int[] who : EVERYONE) {
            Views.unchangedBy("DOWN already", 6, 2, x -> {
                x.prepare(0);
                x.begin(who[1] % 3);
                x.calm(9);
                x.crash(who[0], who[1]);
            }, x -> x.crash(who[0], who[1]));
        }
    }

    private static void recovers() {
        for (int[] who : EVERYONE) {
            Council x = new Council(6, 2);
            due("was UP", x.recover(who[0], who[1]), false);
            x.crash(who[0], who[1]);
            due("was DOWN", x.recover(who[0], who[1]), true);
            due("UP", isUp(x, who), true);
            due("was UP", x.recover(who[0], who[1]), false);
        }
        Council x = new Council(6, 2);
        for (int[] who : EVERYONE) {
            x.crash(who[0], who[1]);
        }
        x.recover(ACCEPTOR, 4);
        for (int[] who : EVERYONE) {
            due("UP", isUp(x, who), who[0] == ACCEPTOR && who[1] == 4);
        }
    }

    private static void recoversAgain() {
        for (int[] who : EVERYONE) {
            Views.unchangedBy("UP already", 6, 2, x -> {
                x.refuse(5);
                x.settle();
                x.begin(who[1] % 3);
                x.calm(12);
            }, x -> x.recover(who[0], who[1]));
        }
    }

    private static void anotherSort(ObjIntConsumer<Council> act) {
        for (int sort : new int[] {-1, 3, 4, Integer.MIN_VALUE, Integer.MAX_VALUE}) {
            Council x = new Council(3, 1);
            throwsArgument("sort " + sort, () -> act.accept(x, sort));
        }
    }

    private static void noSuchOne(BiConsumer<Council, int[]> act) {
        for (int managers = 1; managers <= 6; managers++) {
            for (int f = 1; f <= 2; f++) {
                int r = managers;
                int half = f;
                int[] many = {r, 2 * f + 1, 3};
                IntConsumer ofSort = sort -> onesAre(many[sort], () -> new Council(r, half),
                    (x, one) -> act.accept(x, new int[] {sort, one}));
                ofSort.accept(MANAGER);
                ofSort.accept(ACCEPTOR);
                ofSort.accept(LEADER);
            }
        }
    }
}
