import java.util.Arrays;

/**
 * One transaction over several managers, committed by all or aborted by all: on each manager's word
 * the acceptors agree by a ballot of their own, so that any leader can end what another began.
 *
 * <p>A VOTE's ballot and word are kept together in one int (see {@link #voteOf}); the greater ballot
 * is the greater int, and 0 stands for no vote.
 */
public final class CommitCouncil {
    public static final int NONE = -1;

    private static final int LEADERS = 3;
    private static final int MOST_MANAGERS = 6;
    private static final int MOST_ACCEPTORS = 5;
    private static final int MOST_CALM = 400;
    /** An object lives for 512 calls, and a call raises the greatest ballot by 3 at most. */
    private static final int LAST_BALLOT = 3 * 512;

    private static final int MANAGER_SORT = 0;
    private static final int ACCEPTOR_SORT = 1;
    private static final int LEADER_SORT = 2;

    private static final int OWN_BALLOT = 0;
    private static final int WORD_PREPARED = 1;
    private static final int WORD_ABORTED = 2;
    private static final int COMMIT = 1;
    private static final int ABORT = 2;

    private static final int VOTE = 0;
    private static final int VOTED = 1;
    private static final int ASK = 2;
    private static final int TOLD = 3;
    private static final int DECISION = 4;
    private static final int QUESTION = 5;

    private final Manager[] managers;
    private final Acceptor[] acceptors;
    private final Leader[] leaders;
    private final Mail mail;
    private final Ledger ledger;
    private int came;
    private int begun;

    public CommitCouncil(int managers, int f) {
        int managerCount = managers >= 1 && managers <= MOST_MANAGERS ? managers : 3;
        int acceptorCount = f == 2 ? 5 : 3;
        this.managers = new Manager[managerCount];
        for (int m = 0; m < managerCount; m++) {
            this.managers[m] = new Manager();
        }
        acceptors = new Acceptor[acceptorCount];
        for (int a = 0; a < acceptorCount; a++) {
            acceptors[a] = new Acceptor(managerCount);
        }
        leaders = new Leader[LEADERS];
        for (int l = 0; l < LEADERS; l++) {
            leaders[l] = new Leader(managerCount, acceptorCount);
        }
        mail = new Mail(managerCount);
        ledger = new Ledger(managerCount, acceptorCount);
    }

    public boolean prepare(int manager) throws IndexOutOfBoundsException {
        checkOne(manager, managers.length);
        return propose(manager, Manager.PREPARED, WORD_PREPARED);
    }

    public boolean refuse(int manager) throws IndexOutOfBoundsException {
        checkOne(manager, managers.length);
        return propose(manager, Manager.REFUSED, WORD_ABORTED);
    }

    public boolean resend(int manager) throws IndexOutOfBoundsException {
        checkOne(manager, managers.length);
        Manager one = managers[manager];
        boolean waiting = one.state == Manager.PREPARED || one.state == Manager.REFUSED;
        if (!one.up || !waiting || !mail.hasRoomFor(acceptors.length)) {
            return false;
        }
        sendVotes(manager, OWN_BALLOT, one.proposed);
        return true;
    }

    public boolean question(int manager) throws IndexOutOfBoundsException {
        checkOne(manager, managers.length);
        if (!managers[manager].up || !mail.hasRoomFor(LEADERS)) {
            return false;
        }
        for (int l = 0; l < LEADERS; l++) {
            mail.send(QUESTION, l, manager, NONE, NONE, NONE);
        }
        return true;
    }

    public int begin(int leader) throws IndexOutOfBoundsException {
        checkOne(leader, LEADERS);
        Leader one = leaders[leader];
        int ballot = leastOwnAbove(leader, one.highest);
        int sends = acceptors.length + (one.decision != 0 ? managers.length : 0);
        if (!one.up || ballot > LAST_BALLOT || !mail.hasRoomFor(sends)) {
            return NONE;
        }
        one.startAsking(ballot);
        begun++;
        for (int a = 0; a < acceptors.length; a++) {
            mail.send(ASK, a, NONE, NONE, ballot, NONE);
        }
        if (one.decision != 0) {
            sendDecisions(one.decision);
        }
        return ballot;
    }

    public int deliver(int i) throws IndexOutOfBoundsException {
        checkOne(i, mail.size);
        return bring(i);
    }

    public void drop(int i) throws IndexOutOfBoundsException {
        checkOne(i, mail.size);
        mail.remove(i);
    }

    public int copy(int i) throws IndexOutOfBoundsException {
        checkOne(i, mail.size);
        if (!mail.hasRoomFor(1)) {
            return NONE;
        }
        mail.sendLike(i);
        return mail.size;
    }

    public int calm(int n) throws IllegalArgumentException {
        if (n < 0 || n > MOST_CALM) {
            throw new IllegalArgumentException("n is not 0 .. 400");
        }
        int times = 0;
        while (times < n && mail.size > 0 && bring(0) != NONE) {
            times++;
        }
        return times;
    }

    public boolean crash(int sort, int one) throws IllegalArgumentException, IndexOutOfBoundsException {
        Member member = memberOf(sort, one);
        if (!member.up) {
            return false;
        }
        member.up = false;
        member.forget();
        return true;
    }

    public boolean recover(int sort, int one) throws IllegalArgumentException, IndexOutOfBoundsException {
        Member member = memberOf(sort, one);
        boolean wasDown = !member.up;
        member.up = true;
        return wasDown;
    }

    public int message(int i, int what) throws IndexOutOfBoundsException {
        checkOne(i, mail.size);
        return mail.part(i, what);
    }

    public int told(int i, int manager, boolean ballot) throws IndexOutOfBoundsException {
        checkOne(i, mail.size);
        checkOne(manager, managers.length);
        if (mail.part(i, Mail.KIND) != TOLD) {
            return NONE;
        }
        int vote = mail.tidings(i, manager);
        return ballot ? ballotOf(vote) : wordOf(vote);
    }

    public int manager(int manager, int what) throws IndexOutOfBoundsException {
        checkOne(manager, managers.length);
        Manager one = managers[manager];
        switch (what) {
            case 0: return one.state;
            case 1: return one.up ? 1 : 0;
            default: return NONE;
        }
    }

    public int acceptor(int acceptor, int manager, int what) throws IndexOutOfBoundsException {
        checkOne(acceptor, acceptors.length);
        checkOne(manager, managers.length);
        Acceptor one = acceptors[acceptor];
        switch (what) {
            case 0: return one.promised;
            case 1: return one.up ? 1 : 0;
            case 2: return ballotOf(one.accepted[manager]);
            case 3: return wordOf(one.accepted[manager]);
            default: return NONE;
        }
    }

    public int leader(int leader, int what) throws IndexOutOfBoundsException {
        checkOne(leader, LEADERS);
        Leader one = leaders[leader];
        switch (what) {
            case 0: return one.ballot;
            case 1: return one.phase;
            case 2: return one.highest;
            case 3: return one.decision;
            case 4: return one.up ? 1 : 0;
            case 5: return one.phase == Leader.ASKING ? Integer.bitCount(one.toldBy) : 0;
            default: return NONE;
        }
    }

    public int outcome(int leader, int manager) throws IndexOutOfBoundsException {
        checkOne(leader, LEADERS);
        checkOne(manager, managers.length);
        return leaders[leader].outcomes[manager];
    }

    public int seen(int leader, int manager, int acceptor) throws IndexOutOfBoundsException {
        checkOne(leader, LEADERS);
        checkOne(manager, managers.length);
        checkOne(acceptor, acceptors.length);
        return ballotOf(leaders[leader].sightOf(manager, acceptor));
    }

    public int chosen(int manager) throws IndexOutOfBoundsException {
        checkOne(manager, managers.length);
        return ledger.words[manager];
    }

    public int count(int what) {
        switch (what) {
            case 0: return managers.length;
            case 1: return acceptors.length;
            case 2: return mail.size;
            case 3: return mail.sent;
            case 4: return came;
            case 5: return howManyUp(MANAGER_SORT, managers.length);
            case 6: return howManyUp(ACCEPTOR_SORT, acceptors.length);
            case 7: return howManyManagers(Manager.COMMITTED);
            case 8: return howManyManagers(Manager.ABORTED);
            case 9: return begun;
            default: return NONE;
        }
    }

    public int astray() {
        int committed = howManyManagers(Manager.COMMITTED);
        int total = howManyManagers(Manager.ABORTED) > 0 ? committed : 0;
        for (int m = 0; m < managers.length; m++) {
            if (managers[m].state == Manager.COMMITTED && managers[m].proposed != WORD_PREPARED) {
                total++;
            }
            if (ledger.unlike[m]) {
                total++;
            }
        }
        for (int l = 0; l < LEADERS; l++) {
            if (!isBackedByChosen(leaders[l].decision)) {
                total++;
            }
        }
        return total;
    }

    private static void checkOne(int one, int howMany) {
        if (one < 0 || one >= howMany) {
            throw new IndexOutOfBoundsException("there is no such one");
        }
    }

    private static int voteOf(int ballot, int word) {
        return ballot << 2 | word;
    }

    private static int ballotOf(int vote) {
        return vote == 0 ? NONE : vote >> 2;
    }

    private static int wordOf(int vote) {
        return vote & 3;
    }

    private static int leastOwnAbove(int leader, int highest) {
        int first = leader + 1;
        return highest < first ? first : first + LEADERS * ((highest - first) / LEADERS + 1);
    }

    private static int leaderOf(int ballot) {
        return Math.floorMod(ballot - 1, LEADERS);
    }

    private int howManyUp(int sort, int howMany) {
        int up = 0;
        for (int k = 0; k < howMany; k++) {
            if (memberOf(sort, k).up) {
                up++;
            }
        }
        return up;
    }

    private int howManyManagers(int state) {
        int found = 0;
        for (int m = 0; m < managers.length; m++) {
            if (managers[m].state == state) {
                found++;
            }
        }
        return found;
    }

    private boolean isBackedByChosen(int decision) {
        int prepared = 0;
        int aborted = 0;
        for (int m = 0; m < managers.length; m++) {
            prepared += ledger.words[m] == WORD_PREPARED ? 1 : 0;
            aborted += ledger.words[m] == WORD_ABORTED ? 1 : 0;
        }
        switch (decision) {
            case COMMIT: return prepared == managers.length;
            case ABORT: return aborted > 0;
            default: return true;
        }
    }

    private Member memberOf(int sort, int one) {
        switch (sort) {
            case MANAGER_SORT:
                checkOne(one, managers.length);
                return managers[one];
            case ACCEPTOR_SORT:
                checkOne(one, acceptors.length);
                return acceptors[one];
            case LEADER_SORT:
                checkOne(one, LEADERS);
                return leaders[one];
            default:
                throw new IllegalArgumentException("there is no such sort");
        }
    }

    private boolean propose(int manager, int state, int word) {
        Manager one = managers[manager];
        if (!one.up || one.state != Manager.WORKING || !mail.hasRoomFor(acceptors.length)) {
            return false;
        }
        one.state = state;
        one.proposed = word;
        sendVotes(manager, OWN_BALLOT, word);
        return true;
    }

    private void sendVotes(int manager, int ballot, int word) {
        for (int a = 0; a < acceptors.length; a++) {
            mail.send(VOTE, a, NONE, manager, ballot, word);
        }
    }

    private void sendDecisions(int decision) {
        for (int m = 0; m < managers.length; m++) {
            mail.send(DECISION, m, NONE, NONE, NONE, decision);
        }
    }

    /** Message i comes: its kind, or NONE if it must wait for room. */
    private int bring(int i) {
        int kind = mail.part(i, Mail.KIND);
        int to = mail.part(i, Mail.TO);
        boolean heard = isUp(kind, to);
        int answers = heard ? answersTo(i, kind, to) : 0;
        // The message itself leaves, so its own place is free for an answer.
        if (!mail.hasRoomFor(answers - 1)) {
            return NONE;
        }
        if (heard) {
            take(i, kind, to);
        }
        mail.remove(i);
        came++;
        return kind;
    }

    private boolean isUp(int kind, int to) {
        switch (kind) {
            case VOTE:
            case ASK:
                return to >= 0 && to < acceptors.length && acceptors[to].up;
            case VOTED:
            case TOLD:
            case QUESTION:
                return to >= 0 && to < LEADERS && leaders[to].up;
            case DECISION:
                return to >= 0 && to < managers.length && managers[to].up;
            default:
                return false;
        }
    }

    /** How many messages message i leads to, counted before it changes anything. */
    private int answersTo(int i, int kind, int to) {
        int ballot = mail.part(i, Mail.BALLOT);
        int from = mail.part(i, Mail.FROM);
        switch (kind) {
            case VOTE:
                return ballot >= acceptors[to].promised ? LEADERS : 0;
            case VOTED:
                int whose = mail.part(i, Mail.WHOSE);
                int word = leaders[to].outcomeAfter(whose, from, voteOf(ballot, mail.part(i, Mail.WORD)));
                boolean decides = leaders[to].decisionWith(whose, word) != leaders[to].decision;
                return decides ? managers.length : 0;
            case ASK:
                return ballot > acceptors[to].promised ? 1 : 0;
            case TOLD:
                boolean ends = leaders[to].keeps(ballot, from) && leaders[to].oneMoreIsEnough();
                return ends ? managers.length * acceptors.length : 0;
            case QUESTION:
                return leaders[to].decision != 0 ? 1 : 0;
            default:
                return 0;
        }
    }

    private void take(int i, int kind, int to) {
        switch (kind) {
            case VOTE:
                takeVote(i, to);
                break;
            case VOTED:
                takeVoted(i, leaders[to]);
                break;
            case ASK:
                takeAsk(to, mail.part(i, Mail.BALLOT));
                break;
            case TOLD:
                takeTold(i, leaders[to]);
                break;
            case DECISION:
                boolean commit = mail.part(i, Mail.WORD) == COMMIT;
                managers[to].state = commit ? Manager.COMMITTED : Manager.ABORTED;
                break;
            case QUESTION:
                takeQuestion(mail.part(i, Mail.FROM), leaders[to].decision);
                break;
            default:
                break;
        }
    }

    private void takeVote(int i, int to) {
        int manager = mail.part(i, Mail.WHOSE);
        int ballot = mail.part(i, Mail.BALLOT);
        int word = mail.part(i, Mail.WORD);
        if (ballot < acceptors[to].promised) {
            return;
        }
        acceptors[to].accept(manager, ballot, word);
        ledger.enter(manager, ballot, word, to);
        for (int l = 0; l < LEADERS; l++) {
            mail.send(VOTED, l, to, manager, ballot, word);
        }
    }

    private void takeAsk(int to, int ballot) {
        Acceptor acceptor = acceptors[to];
        if (ballot <= acceptor.promised) {
            return;
        }
        acceptor.promised = ballot;
        mail.send(TOLD, leaderOf(ballot), to, NONE, ballot, NONE);
        mail.attach(acceptor.accepted);
    }

    private void takeVoted(int i, Leader leader) {
        int ballot = mail.part(i, Mail.BALLOT);
        int vote = voteOf(ballot, mail.part(i, Mail.WORD));
        leader.highest = Math.max(leader.highest, ballot);
        int before = leader.decision;
        leader.see(mail.part(i, Mail.WHOSE), mail.part(i, Mail.FROM), vote);
        if (leader.decision != before) {
            sendDecisions(leader.decision);
        }
    }

    private void takeTold(int i, Leader leader) {
        int ballot = mail.part(i, Mail.BALLOT);
        int from = mail.part(i, Mail.FROM);
        leader.highest = Math.max(leader.highest, ballot);
        if (!leader.keeps(ballot, from)) {
            return;
        }
        boolean ends = leader.oneMoreIsEnough();
        leader.toldBy |= 1 << from;
        for (int m = 0; m < managers.length; m++) {
            leader.latest[m] = Math.max(leader.latest[m], mail.tidings(i, m));
        }
        if (ends) {
            startVoting(leader);
        }
    }

    private void startVoting(Leader leader) {
        leader.phase = Leader.VOTING;
        for (int m = 0; m < managers.length; m++) {
            int vote = leader.latest[m];
            sendVotes(m, leader.ballot, vote == 0 ? WORD_ABORTED : wordOf(vote));
        }
    }

    private void takeQuestion(int manager, int decision) {
        if (decision != 0) {
            mail.send(DECISION, manager, NONE, NONE, NONE, decision);
        }
    }

    /** One who is up or down. */
    private abstract static class Member {
        boolean up = true;

        /** Only a leader loses anything by going down. */
        void forget() {
        }
    }

    private static final class Manager extends Member {
        static final int WORKING = 0;
        static final int PREPARED = 1;
        static final int REFUSED = 2;
        static final int COMMITTED = 3;
        static final int ABORTED = 4;

        int state = WORKING;
        /** The word of its own votes, 0 while it has sent none: a decision hides it in the state. */
        int proposed;
    }

    private static final class Acceptor extends Member {
        int promised;
        final int[] accepted;

        Acceptor(int managerCount) {
            accepted = new int[managerCount];
        }

        void accept(int manager, int ballot, int word) {
            promised = ballot;
            if (manager >= 0 && manager < accepted.length) {
                accepted[manager] = voteOf(ballot, word);
            }
        }
    }

    private static final class Leader extends Member {
        static final int ASKING = 1;
        static final int VOTING = 2;

        int ballot;
        int phase;
        int highest;
        int decision;
        /** A bit for each acceptor that told in this asking. */
        int toldBy;
        /** Of each manager the greatest vote that was told in this asking. */
        final int[] latest;
        final int[] outcomes;
        private final int acceptorCount;
        private final int[] sights;

        Leader(int managerCount, int acceptorCount) {
            this.acceptorCount = acceptorCount;
            latest = new int[managerCount];
            outcomes = new int[managerCount];
            sights = new int[managerCount * acceptorCount];
        }

        void startAsking(int next) {
            ballot = next;
            highest = next;
            phase = ASKING;
            toldBy = 0;
            Arrays.fill(latest, 0);
        }

        boolean keeps(int toldBallot, int acceptor) {
            return phase == ASKING && toldBallot == ballot && (toldBy >> acceptor & 1) == 0;
        }

        boolean oneMoreIsEnough() {
            return (Integer.bitCount(toldBy) + 1) * 2 > acceptorCount;
        }

        int sightOf(int manager, int acceptor) {
            int at = manager * acceptorCount + acceptor;
            return at >= 0 && at < sights.length ? sights[at] : 0;
        }

        /** The decision as it is once this word is the manager's outcome (0: none yet). */
        int decisionWith(int manager, int word) {
            if (decision != 0) {
                return decision;
            }
            if (word != WORD_PREPARED) {
                return word == WORD_ABORTED ? ABORT : 0;
            }
            for (int m = 0; m < outcomes.length; m++) {
                if (m != manager && outcomes[m] != WORD_PREPARED) {
                    return 0;
                }
            }
            return COMMIT;
        }

        void see(int manager, int acceptor, int vote) {
            int at = manager * acceptorCount + acceptor;
            if (manager < 0 || manager >= outcomes.length || at < 0 || at >= sights.length) {
                return;
            }
            outcomes[manager] = outcomeAfter(manager, acceptor, vote);
            decision = decisionWith(manager, outcomes[manager]);
            if (ballotOf(vote) > ballotOf(sights[at])) {
                sights[at] = vote;
            }
        }

        /** The manager's outcome as it is once this VOTED has come. */
        int outcomeAfter(int manager, int acceptor, int vote) {
            if (manager < 0 || manager >= outcomes.length) {
                return 0;
            }
            if (outcomes[manager] != 0 || ballotOf(vote) <= ballotOf(sightOf(manager, acceptor))) {
                return outcomes[manager];
            }
            int alike = 1;
            for (int a = 0; a < acceptorCount; a++) {
                if (a != acceptor && ballotOf(sightOf(manager, a)) == ballotOf(vote)) {
                    alike++;
                }
            }
            return alike * 2 > acceptorCount ? wordOf(vote) : 0;
        }

        @Override
        void forget() {
            phase = 0;
            decision = 0;
            toldBy = 0;
            Arrays.fill(latest, 0);
            Arrays.fill(outcomes, 0);
            Arrays.fill(sights, 0);
        }
    }

    /** The messages on their way, a stretch of cells for each, the latest sent behind. */
    private static final class Mail {
        /** The parts of a message are numbered as the document numbers them. */
        static final int KIND = 0;
        static final int TO = 1;
        static final int FROM = 2;
        static final int WHOSE = 3;
        static final int BALLOT = 4;
        static final int WORD = 5;

        private static final int PARTS = 6;
        private static final int MOST = 400;
        /** One more: what a message leads to is sent before the message itself is removed. */
        private static final int PLACES = MOST + 1;

        int size;
        int sent;
        private final int width;
        private final int[] cells;

        Mail(int managerCount) {
            width = PARTS + managerCount;
            cells = new int[PLACES * width];
        }

        boolean hasRoomFor(int more) {
            return size + more <= MOST;
        }

        void send(int kind, int to, int from, int whose, int ballot, int word) {
            if (size >= PLACES) {
                return;
            }
            int at = size * width;
            cells[at + KIND] = kind;
            cells[at + TO] = to;
            cells[at + FROM] = from;
            cells[at + WHOSE] = whose;
            cells[at + BALLOT] = ballot;
            cells[at + WORD] = word;
            size++;
            sent++;
        }

        /** Gives the message that was sent latest what it tells of each manager. */
        void attach(int[] votes) {
            if (size > 0 && votes.length <= width - PARTS) {
                System.arraycopy(votes, 0, cells, (size - 1) * width + PARTS, votes.length);
            }
        }

        void sendLike(int i) {
            if (i < 0 || i >= size || size >= PLACES) {
                return;
            }
            System.arraycopy(cells, i * width, cells, size * width, width);
            size++;
            sent++;
        }

        void remove(int i) {
            if (i < 0 || i >= size) {
                return;
            }
            System.arraycopy(cells, (i + 1) * width, cells, i * width, (size - 1 - i) * width);
            size--;
        }

        int part(int i, int what) {
            if (i < 0 || i >= size || what < 0 || what >= PARTS) {
                return NONE;
            }
            return cells[i * width + what];
        }

        int tidings(int i, int manager) {
            if (i < 0 || i >= size || manager < 0 || manager >= width - PARTS) {
                return 0;
            }
            return cells[i * width + PARTS + manager];
        }
    }

    /** Who ever accepted what: an acceptor's later ballot does not undo that it accepted an earlier one. */
    private static final class Ledger {
        private static final int ALL_ACCEPTORS = (1 << MOST_ACCEPTORS) - 1;

        /** Of each manager the word that was chosen, 0 for none. */
        final int[] words;
        final boolean[] unlike;
        private final int acceptorCount;
        /** Of each ballot a bit for each manager and acceptor; a ballot has one word of a manager. */
        private final int[] takers;

        Ledger(int managerCount, int acceptorCount) {
            this.acceptorCount = acceptorCount;
            words = new int[managerCount];
            unlike = new boolean[managerCount];
            takers = new int[LAST_BALLOT + 1];
        }

        void enter(int manager, int ballot, int word, int acceptor) {
            if (manager < 0 || manager >= words.length || ballot < 0 || ballot >= takers.length) {
                return;
            }
            int shift = manager * MOST_ACCEPTORS;
            takers[ballot] |= 1 << shift + acceptor;
            int alike = Integer.bitCount(takers[ballot] >> shift & ALL_ACCEPTORS);
            if (alike * 2 <= acceptorCount) {
                return;
            }
            if (words[manager] == 0) {
                words[manager] = word;
            } else if (words[manager] != word) {
                unlike[manager] = true;
            }
        }
    }
}
