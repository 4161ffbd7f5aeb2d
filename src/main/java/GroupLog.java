/**
 * A group of replicas that keeps one log of requests in step while messages are lost, doubled and
 * come late, and while replicas crash and forget everything.
 */
public final class GroupLog {
    private static final int NORMAL = 0;
    private static final int CHANGING = 1;
    private static final int RECOVERING = 2;
    private static final int DOWN = 3;

    private static final int PREPARE = 1;
    private static final int OK = 2;
    private static final int FETCH = 3;
    private static final int STATE = 4;
    private static final int CHANGE = 5;
    private static final int PAPER = 6;
    private static final int RECOVERY = 7;
    private static final int RESPONSE = 8;

    private static final int REFUSED = -1;
    private static final int UNHEARD = 0;
    private static final int OUTDATED = 1;
    private static final int TAKEN = 2;

    private static final int CLIENTS = 4;
    private static final int LOG_LIMIT = 24;
    private static final int THERE_LIMIT = 64;

    private final int replicaCount;
    private final int faults;
    private final Replica[] replicas;
    private final Message[] latestMessages = new Message[THERE_LIMIT];
    private int sentCount = 0;
    private int latestNext = -1;
    private final int[] clientNumber = new int[CLIENTS];
    private final int[] clientAnswer = new int[CLIENTS];

    public GroupLog(int size) {
        replicaCount = size % 2 == 0 ? 3 : 5;
        faults = replicaCount / 2;
        replicas = new Replica[replicaCount];
        for (int id = 0; id < replicaCount; id++) {
            replicas[id] = new Replica(id, replicaCount);
        }
    }

    public int request(int replica, int client, int number, int value) {
        if (!isReplica(replica) || !isClient(client) || number < 1) {
            return -1;
        }
        Replica r = replicas[replica];
        if (!leads(r)) {
            return -2;
        }
        if (r.log.greatestNumber(client) > number) {
            return -3;
        }
        Log found = r.log.find(client, number);
        if (found != null) {
            return repeatAnswer(r, found);
        }
        if (r.log.size >= LOG_LIMIT) {
            return -4;
        }
        r.log = new Log(r.log, client, number, value);
        sendToAll(r, PREPARE);
        return 0;
    }

    public int deliver(int k) {
        Message m = findMessage(k);
        return m == null ? REFUSED : receive(m);
    }

    public int next() {
        int k = Math.max(latestNext + 1, sentCount - THERE_LIMIT);
        Message m = findMessage(k);
        if (m == null) {
            return REFUSED;
        }
        latestNext = k;
        return receive(m);
    }

    public boolean remind(int replica) {
        if (!isReplica(replica) || !leads(replicas[replica])) {
            return false;
        }
        sendToAll(replicas[replica], PREPARE);
        return true;
    }

    public boolean suspect(int replica) {
        if (!isReplica(replica)) {
            return false;
        }
        Replica r = replicas[replica];
        if (r.status != NORMAL && r.status != CHANGING) {
            return false;
        }
        startChanging(r, r.view + 1);
        return true;
    }

    public boolean crash(int replica) {
        if (!isReplica(replica)) {
            return false;
        }
        Replica r = replicas[replica];
        if (r.status == DOWN || othersLost(r) >= faults) {
            return false;
        }
        r.forgetEverything();
        r.status = DOWN;
        return true;
    }

    public boolean recover(int replica, int nonce) {
        if (!isReplica(replica)) {
            return false;
        }
        Replica r = replicas[replica];
        if (!isLost(r) || nonce <= r.greatestNonce) {
            return false;
        }
        r.greatestNonce = nonce;
        r.forgetEverything();
        r.status = RECOVERING;
        r.vector[r.id] = nonce;
        sendToAll(r, RECOVERY);
        return true;
    }

    public int status(int replica) {
        return isReplica(replica) ? replicas[replica].status : -1;
    }

    public int view(int replica) {
        return isReplica(replica) ? replicas[replica].view : -1;
    }

    public int length(int replica) {
        return isReplica(replica) ? replicas[replica].log.size : -1;
    }

    public int commit(int replica) {
        return isReplica(replica) ? replicas[replica].commit : -1;
    }

    public int entry(int replica, int k) {
        return hasEntry(replica, k) ? replicas[replica].log.firstEntries(k + 1).value : 0;
    }

    public int origin(int replica, int k) {
        if (!hasEntry(replica, k)) {
            return -1;
        }
        Log found = replicas[replica].log.firstEntries(k + 1);
        return found.number * 4 + found.client;
    }

    public int total(int replica) {
        if (!isReplica(replica)) {
            return 0;
        }
        Replica r = replicas[replica];
        return r.log.firstEntries(r.commit).total;
    }

    public int vector(int replica, int other) {
        return isReplica(replica) && isReplica(other) ? replicas[replica].vector[other] : -1;
    }

    public int sent() {
        return sentCount;
    }

    public int message(int k) {
        Message m = findMessage(k);
        return m == null ? -1 : m.kind + 16 * m.sender + 128 * m.addressee + 1024 * m.view;
    }

    public int answered(int client) {
        return isClient(client) ? clientNumber[client] : -1;
    }

    public int answer(int client) {
        return isClient(client) ? clientAnswer[client] : 0;
    }

    private boolean isReplica(int replica) {
        return replica >= 0 && replica < replicaCount;
    }

    private static boolean isClient(int client) {
        return client >= 0 && client < CLIENTS;
    }

    private boolean hasEntry(int replica, int k) {
        return isReplica(replica) && k >= 0 && k < replicas[replica].log.size;
    }

    private int primaryOf(int view) {
        return Math.floorMod(view, replicaCount);
    }

    private boolean leads(Replica r) {
        return r.status == NORMAL && primaryOf(r.view) == r.id;
    }

    private static boolean isLost(Replica r) {
        return r.status == DOWN || r.status == RECOVERING;
    }

    private int othersLost(Replica r) {
        int lost = 0;
        for (int id = 0; id < replicaCount; id++) {
            if (id != r.id && isLost(replicas[id])) {
                lost++;
            }
        }
        return lost;
    }

    private int repeatAnswer(Replica r, Log found) {
        if (found.size > r.commit) {
            return 2;
        }
        answerClient(found);
        return 1;
    }

    /** Answers the client of the latest entry of a log. */
    private void answerClient(Log log) {
        if (log.number >= clientNumber[log.client]) {
            clientNumber[log.client] = log.number;
            clientAnswer[log.client] = log.total;
        }
    }

    private Message findMessage(int k) {
        boolean there = k >= 0 && k < sentCount && sentCount - k <= THERE_LIMIT;
        return there ? latestMessages[k % THERE_LIMIT] : null;
    }

    private void send(Replica sender, int kind, int addressee) {
        latestMessages[Math.floorMod(sentCount, THERE_LIMIT)] = new Message(sender, kind, addressee);
        sentCount++;
    }

    private void sendToAll(Replica sender, int kind) {
        for (int id = 0; id < replicaCount; id++) {
            if (id != sender.id) {
                send(sender, kind, id);
            }
        }
    }

    private int receive(Message m) {
        Replica r = replicas[m.addressee];
        if (!hears(r, m)) {
            return UNHEARD;
        }
        if (isOutdated(r, m)) {
            return OUTDATED;
        }
        r.raiseVector(m.vector);
        r.forgetOutdated();
        switch (m.kind) {
            case PREPARE:
                takePrepare(r, m);
                break;
            case OK:
                takeOk(r, m);
                break;
            case FETCH:
                replyIfNormal(r, m, STATE);
                break;
            case STATE:
                takeState(r, m);
                break;
            case CHANGE:
                if (joinChange(r, m)) {
                    keepVote(r, m);
                }
                break;
            case PAPER:
                if (joinChange(r, m)) {
                    keepPaper(r, m);
                }
                break;
            case RECOVERY:
                replyIfNormal(r, m, RESPONSE);
                break;
            case RESPONSE:
                keepResponse(r, m);
                break;
            default:
                break;
        }
        return TAKEN;
    }

    private static boolean hears(Replica r, Message m) {
        return r.status != DOWN && (r.status == RECOVERING) == (m.kind == RESPONSE);
    }

    private static boolean isOutdated(Replica r, Message m) {
        return m.vector[m.sender] < r.vector[m.sender]
            || m.kind == RESPONSE && m.vector[r.id] != r.vector[r.id];
    }

    private void replyIfNormal(Replica r, Message m, int kind) {
        if (r.status == NORMAL) {
            send(r, kind, m.sender);
        }
    }

    private void takePrepare(Replica r, Message m) {
        if (m.view < r.view) {
            return;
        }
        boolean inStep = m.view == r.view && r.status == NORMAL;
        if (!inStep || m.log.size > r.log.size + 1) {
            send(r, FETCH, m.sender);
            return;
        }
        if (m.log.size == r.log.size + 1) {
            r.log = new Log(r.log, m.log.client, m.log.number, m.log.value);
        }
        r.commit = Math.max(r.commit, Math.min(m.commit, r.log.size));
        send(r, OK, m.sender);
    }

    private void takeOk(Replica r, Message m) {
        if (!leads(r) || m.view != r.view) {
            return;
        }
        r.acked[m.sender] = Math.max(r.acked[m.sender], m.log.size);
        int committedBefore = r.commit;
        r.commit = r.ackedBy(faults);
        int last = Math.min(r.commit, r.log.size);
        for (int count = committedBefore + 1; count <= last; count++) {
            answerClient(r.log.firstEntries(count));
        }
    }

    private void takeState(Replica r, Message m) {
        if (primaryOf(m.view) == r.id) {
            return;
        }
        boolean sameViewNews = r.status == CHANGING || m.log.size > r.log.size;
        if (m.view > r.view || m.view == r.view && sameViewNews) {
            r.becomeNormal(m.view, m.log, Math.max(r.commit, m.commit));
            send(r, OK, primaryOf(m.view));
        }
    }

    private void startChanging(Replica r, int view) {
        r.status = CHANGING;
        r.view = view;
        r.forgetKept();
        r.paperSent = false;
        sendToAll(r, CHANGE);
    }

    /** Answers whether the replica is then changing to the message's view. */
    private boolean joinChange(Replica r, Message m) {
        if (m.view > r.view) {
            startChanging(r, m.view);
        }
        return m.view == r.view && r.status == CHANGING;
    }

    private void keepVote(Replica r, Message m) {
        r.votes[m.sender] = m;
        int primary = primaryOf(r.view);
        if (r.id != primary && !r.paperSent && Replica.count(r.votes) >= faults) {
            send(r, PAPER, primary);
            r.paperSent = true;
        }
    }

    private void keepPaper(Replica r, Message m) {
        r.papers[m.sender] = m;
        if (Replica.count(r.papers) >= faults) {
            r.becomePrimary();
            sendToAll(r, STATE);
        }
    }

    private void keepResponse(Replica r, Message m) {
        r.responses[m.sender] = m;
        if (Replica.count(r.responses) <= faults) {
            return;
        }
        int view = Replica.greatestView(r.responses);
        Message lead = r.responses[primaryOf(view)];
        if (lead != null && lead.view == view) {
            r.becomeNormal(view, lead.log, lead.commit);
        }
    }

    /**
     * A log is its latest entry and the log before that; one that has been made never changes, so
     * that replicas and messages can hold the same one without copying it.
     */
    private static final class Log {
        final Log before;
        final int size;
        final int client;
        final int number;
        final int value;
        final int total;

        Log() {
            before = null;
            size = 0;
            client = 0;
            number = 0;
            value = 0;
            total = 0;
        }

        Log(Log before, int client, int number, int value) {
            this.before = before;
            this.size = before.size + 1;
            this.client = client;
            this.number = number;
            this.value = value;
            this.total = 3 * before.total + value + client;
        }

        /** The log of the first so many entries, or the whole one if it has fewer. */
        Log firstEntries(int count) {
            Log log = this;
            while (log.before != null && log.size > count) {
                log = log.before;
            }
            return log;
        }

        /** The greatest number of an entry of the client, or 0. */
        int greatestNumber(int wantedClient) {
            int greatest = 0;
            for (Log log = this; log != null; log = log.before) {
                if (log.client == wantedClient) {
                    greatest = Math.max(greatest, log.number);
                }
            }
            return greatest;
        }

        /** The log up to and with that entry, or null; a number below 1 is never asked for. */
        Log find(int wantedClient, int wantedNumber) {
            for (Log log = this; log != null; log = log.before) {
                if (log.client == wantedClient && log.number == wantedNumber) {
                    return log;
                }
            }
            return null;
        }
    }

    /**
     * What its sender was when it was sent. Every kind carries the sender's whole log, because its
     * length and latest entry are read from that.
     */
    private static final class Message {
        final int kind;
        final int sender;
        final int addressee;
        final int view;
        final int lastView;
        final int[] vector;
        final Log log;
        final int commit;

        Message(Replica from, int kind, int addressee) {
            this.kind = kind;
            this.sender = from.id;
            this.addressee = addressee;
            this.view = from.view;
            this.lastView = from.lastView;
            this.vector = from.vector;
            this.log = from.log;
            this.commit = from.commit;
        }
    }

    private static final class Replica {
        final int id;
        int status = NORMAL;
        int view = 0;
        int lastView = 0;
        Log log = new Log();
        int commit = 0;
        int[] vector;
        final int[] acked;
        boolean paperSent = false;
        final Message[] votes;
        final Message[] papers;
        final Message[] responses;
        int greatestNonce = 0;

        Replica(int id, int replicaCount) {
            this.id = id;
            vector = new int[replicaCount];
            acked = new int[replicaCount];
            votes = new Message[replicaCount];
            papers = new Message[replicaCount];
            responses = new Message[replicaCount];
        }

        static int count(Message[] kept) {
            int found = 0;
            for (int t = 0; t < kept.length; t++) {
                if (kept[t] != null) {
                    found++;
                }
            }
            return found;
        }

        static int greatestView(Message[] kept) {
            int greatest = 0;
            for (int t = 0; t < kept.length; t++) {
                if (kept[t] != null) {
                    greatest = Math.max(greatest, kept[t].view);
                }
            }
            return greatest;
        }

        /** Becomes fresh; the greatest nonce stays, as it is the caller's and not the replica's. */
        void forgetEverything() {
            view = 0;
            lastView = 0;
            log = new Log();
            commit = 0;
            // A new row: messages that were sent hold the old one.
            vector = new int[vector.length];
            forgetAcked();
            paperSent = false;
            forgetKept();
        }

        void forgetAcked() {
            for (int t = 0; t < acked.length; t++) {
                acked[t] = 0;
            }
        }

        void forgetKept() {
            for (int t = 0; t < votes.length; t++) {
                votes[t] = null;
                papers[t] = null;
                responses[t] = null;
            }
        }

        void raiseVector(int[] other) {
            // A new row: messages that were sent hold the old one.
            int[] raised = vector.clone();
            for (int t = 0; t < raised.length; t++) {
                raised[t] = Math.max(raised[t], other[t]);
            }
            vector = raised;
        }

        /** Forgets what was kept from replicas that have crashed since they sent it. */
        void forgetOutdated() {
            dropOutdated(votes);
            dropOutdated(papers);
            dropOutdated(responses);
        }

        private void dropOutdated(Message[] kept) {
            for (int t = 0; t < kept.length; t++) {
                if (kept[t] != null && kept[t].vector[t] < vector[t]) {
                    kept[t] = null;
                }
            }
        }

        /** The greatest count that is the commit or that at least so many others have acked. */
        int ackedBy(int enough) {
            int greatest = commit;
            for (int t = 0; t < acked.length; t++) {
                if (acked[t] > greatest && countAcked(acked[t]) >= enough) {
                    greatest = acked[t];
                }
            }
            return greatest;
        }

        private int countAcked(int entries) {
            int found = 0;
            for (int t = 0; t < acked.length; t++) {
                if (acked[t] >= entries) {
                    found++;
                }
            }
            return found;
        }

        void becomeNormal(int newView, Log newLog, int newCommit) {
            status = NORMAL;
            view = newView;
            lastView = newView;
            log = newLog;
            commit = newCommit;
            forgetKept();
        }

        /** Takes over from the papers; a tie goes to the own log, then to the least replica. */
        void becomePrimary() {
            Log bestLog = log;
            int bestView = lastView;
            int bestCommit = commit;
            for (int t = 0; t < papers.length; t++) {
                Message paper = papers[t];
                if (paper == null) {
                    continue;
                }
                boolean longer = paper.lastView == bestView && paper.log.size > bestLog.size;
                if (paper.lastView > bestView || longer) {
                    bestLog = paper.log;
                    bestView = paper.lastView;
                }
                bestCommit = Math.max(bestCommit, paper.commit);
            }
            forgetAcked();
            becomeNormal(view, bestLog, bestCommit);
        }
    }
}
