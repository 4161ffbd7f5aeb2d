/** A GroupLog whose calls are counted, because nothing is promised beyond the 512th. */
final class Group {
    private static final int MOST_CALLS = 512;
    private static final int MOST_THERE = 64;

    final int replicas;
    private final GroupLog log;
    private int calls = 0;

    Group(int size) {
        log = new GroupLog(size);
        replicas = size % 2 == 0 ? 3 : 5;
    }

    private GroupLog call() {
        calls++;
        if (calls == MOST_CALLS + 1) {
            Due.isWrong("a test makes more than " + MOST_CALLS + " calls");
        }
        return log;
    }

    int callsLeft() {
        return MOST_CALLS - calls;
    }

    int request(int replica, int client, int number, int value) {
        return call().request(replica, client, number, value);
    }

    int deliver(int k) {
        return call().deliver(k);
    }

    int next() {
        return call().next();
    }

    boolean remind(int replica) {
        return call().remind(replica);
    }

    boolean suspect(int replica) {
        return call().suspect(replica);
    }

    boolean crash(int replica) {
        return call().crash(replica);
    }

    boolean recover(int replica, int nonce) {
        return call().recover(replica, nonce);
    }

    int status(int replica) {
        return call().status(replica);
    }

    int view(int replica) {
        return call().view(replica);
    }

    int length(int replica) {
        return call().length(replica);
    }

    int commit(int replica) {
        return call().commit(replica);
    }

    int entry(int replica, int k) {
        return call().entry(replica, k);
    }

    int origin(int replica, int k) {
        return call().origin(replica, k);
    }

    int total(int replica) {
        return call().total(replica);
    }

    int vector(int replica, int other) {
        return call().vector(replica, other);
    }

    int sent() {
        return call().sent();
    }

    int message(int k) {
        return call().message(k);
    }

    int answered(int client) {
        return call().answered(client);
    }

    int answer(int client) {
        return call().answer(client);
    }

    void drain() {
        while (next() >= 0) {
        }
    }

    /** The number of the latest message of that kind, sender and addressee that is there, or -1. */
    int latest(int kind, int sender, int addressee) {
        int k = sent() - 1;
        int found = message(k);
        while (found != -1 && found % 1024 != Due.letter(kind, sender, addressee, 0)) {
            k--;
            found = message(k);
        }
        return found == -1 ? -1 : k;
    }

    /** Such a message must be there: a test that found none would test nothing. */
    int deliverLatest(int kind, int sender, int addressee) {
        int k = latest(kind, sender, addressee);
        if (k == -1) {
            Due.isWrong("no message of kind " + kind + " from " + sender + " to " + addressee);
        }
        return deliver(k);
    }

    int lastMessage() {
        return message(sent() - 1);
    }

    void suspectTo(int view, int replica) {
        while (view(replica) < view) {
            suspect(replica);
        }
    }

    /** The primary of that view changes to it with one other of three, and so leads it. */
    void leadOfThree(int view, int other) {
        int primary = view % replicas;
        suspectTo(view, primary);
        deliverLatest(Due.CHANGE, primary, other);
        deliverLatest(Due.PAPER, other, primary);
    }

    /** The primary of that view changes to it with two others of five, and so leads it. */
    void leadOfFive(int view, int first, int second) {
        papersOfFive(view, first, second);
        int primary = view % replicas;
        deliverLatest(Due.PAPER, first, primary);
        deliverLatest(Due.PAPER, second, primary);
    }

    /** The primary of that view and two others change to it, so that both have sent their papers. */
    void papersOfFive(int view, int first, int second) {
        int primary = view % replicas;
        suspectTo(view, primary);
        deliverLatest(Due.CHANGE, primary, first);
        deliverLatest(Due.CHANGE, primary, second);
        deliverLatest(Due.CHANGE, first, second);
        deliverLatest(Due.CHANGE, second, first);
    }

    /** A lost replica recovers with the responses of these others. */
    void recoverWith(int replica, int nonce, int... others) {
        recover(replica, nonce);
        for (int other : others) {
            deliverLatest(Due.RECOVERY, replica, other);
            deliverLatest(Due.RESPONSE, other, replica);
        }
    }

    void dueReplica(String at, int replica, int status, int view, int length, int commit) {
        Due.due(at + ": status(" + replica + ")", status(replica), status);
        Due.due(at + ": view(" + replica + ")", view(replica), view);
        Due.due(at + ": length(" + replica + ")", length(replica), length);
        Due.due(at + ": commit(" + replica + ")", commit(replica), commit);
    }

    void dueFresh(String at, int replica, int status) {
        dueReplica(at, replica, status, 0, 0, 0);
        Due.due(at + ": total(" + replica + ")", total(replica), 0);
        for (int other = 0; other < replicas; other++) {
            Due.due(at + ": vector(" + replica + ", " + other + ")", vector(replica, other), 0);
        }
    }

    void dueValues(String at, int replica, int... values) {
        Due.due(at + ": length(" + replica + ")", length(replica), values.length);
        for (int k = 0; k < values.length; k++) {
            Due.due(at + ": entry(" + replica + ", " + k + ")", entry(replica, k), values[k]);
        }
    }

    /** All that can be asked, as a text. */
    String everything() {
        StringBuilder text = new StringBuilder();
        for (int replica = 0; replica < replicas; replica++) {
            addReplica(text, replica);
        }
        int sent = sent();
        text.append("sent ").append(sent).append(':');
        for (int k = Math.max(0, sent - MOST_THERE); k < sent; k++) {
            text.append(' ').append(message(k));
        }
        text.append('\n');
        for (int client = 0; client < 4; client++) {
            text.append("client ").append(client).append(": ").append(answered(client)).append(", ");
            text.append(answer(client)).append('\n');
        }
        return text.toString();
    }

    private void addReplica(StringBuilder text, int replica) {
        text.append("replica ").append(replica).append(": status ").append(status(replica));
        text.append(" view ").append(view(replica)).append(" commit ").append(commit(replica));
        text.append(" total ").append(total(replica)).append(" vector");
        for (int other = 0; other < replicas; other++) {
            text.append(' ').append(vector(replica, other));
        }
        int length = length(replica);
        text.append(" log ").append(length).append(':');
        for (int k = 0; k < length; k++) {
            text.append(' ').append(origin(replica, k)).append('=').append(entry(replica, k));
        }
        text.append('\n');
    }
}
