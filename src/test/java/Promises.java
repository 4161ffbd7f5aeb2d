/** For each promise, and each kind of message: ordinary calls, one after the other, and wrong ones. */
public final class Promises extends Due {
    private static void newObject() {
        int[] sizes = {0, 2, 4, -2, 1000, MIN, 1, 3, 5, -1, -3, MAX};
        for (int i = 0; i < sizes.length; i++) {
            Group x = new Group(sizes[i]);
            int n = i < 6 ? 3 : 5;
            String at = "new GroupLog(" + sizes[i] + ")";
            for (int replica = 0; replica < n; replica++) {
                x.dueFresh(at, replica, NORMAL);
            }
            due(at + ": status(" + n + ")", x.status(n), -1);
            due(at + ": sent()", x.sent(), 0);
            due(at + ": message(0)", x.message(0), -1);
            due(at + ": next()", x.next(), -1);
            due(at + ": deliver(0)", x.deliver(0), -1);
            for (int client = 0; client < 4; client++) {
                due(at + ": answered(" + client + ")", x.answered(client), 0);
                due(at + ": answer(" + client + ")", x.answer(client), 0);
            }
        }
    }

    private static void objectsAreApart() {
        Group x = new Group(0);
        Group y = new Group(0);
        x.request(0, 0, 1, 7);
        x.drain();
        x.crash(2);
        due("apart: sent()", y.sent(), 0);
        due("apart: answered(0)", y.answered(0), 0);
        y.dueFresh("apart", 2, NORMAL);
    }

    private static void requestRefused() {
        Group x = new Group(0);
        int[] noReplicas = {-1, 3, MIN, MAX};
        for (int replica : noReplicas) {
            due("request(" + replica + ", 0, 1, 5)", x.request(replica, 0, 1, 5), -1);
        }
        int[] noClients = {-1, 4, MIN, MAX};
        for (int client : noClients) {
            due("request(0, " + client + ", 1, 5)", x.request(0, client, 1, 5), -1);
            due("request(1, " + client + ", 1, 5)", x.request(1, client, 1, 5), -1);
        }
        int[] noNumbers = {0, -1, MIN};
        for (int number : noNumbers) {
            due("request(0, 0, " + number + ", 5)", x.request(0, 0, number, 5), -1);
            due("request(1, 0, " + number + ", 5)", x.request(1, 0, number, 5), -1);
        }
        due("request to a backup", x.request(1, 0, 1, 5), -2);
        due("request(2, ..) to a backup", x.request(2, 0, 1, 5), -2);
        due("refused: sent()", x.sent(), 0);
        due("refused: length(0)", x.length(0), 0);
        x.suspect(1);
        due("request to a primary that is CHANGING", x.request(1, 0, 1, 5), -2);
        x.crash(0);
        due("request to a DOWN one", x.request(0, 0, 1, 5), -2);
        x.recover(0, 1);
        due("request to a RECOVERING one", x.request(0, 0, 1, 5), -2);
    }

    private static void requestTaken() {
        Group x = new Group(1);
        due("request(0, 3, 5, -9)", x.request(0, 3, 5, -9), 0);
        due("request: length(0)", x.length(0), 1);
        due("request: entry(0, 0)", x.entry(0, 0), -9);
        due("request: origin(0, 0)", x.origin(0, 0), 23);
        due("request: commit(0)", x.commit(0), 0);
        due("request: sent()", x.sent(), 4);
        for (int to = 1; to < 5; to++) {
            due("request: message(" + (to - 1) + ")", x.message(to - 1), letter(PREPARE, 0, to, 0));
        }
        due("request again", x.request(0, 3, 5, 77), 2);
        due("request with a lesser number", x.request(0, 3, 4, 77), -3);
        due("request of another client", x.request(0, 2, 4, 77), 0);
        due("request with a lesser number, not the latest entry", x.request(0, 3, 4, 77), -3);
        due("request again, not the latest entry", x.request(0, 3, 5, 78), 2);
        due("requests: sent()", x.sent(), 8);
        due("requests: length(0)", x.length(0), 2);
        due("requests: entry(0, 0) stays", x.entry(0, 0), -9);
        due("request with the greatest number", x.request(0, 0, MAX, MAX), 0);
        due("request then with a lesser one", x.request(0, 0, MAX - 1, 0), -3);
    }

    private static void requestWhenFull() {
        Group x = new Group(0);
        for (int number = 1; number <= 24; number++) {
            due("request number " + number, x.request(0, number % 3, number, number), 0);
        }
        due("full: request", x.request(0, 3, 1, 1), -4);
        due("full: request of a known client", x.request(0, 0, 25, 1), -4);
        due("full: request again", x.request(0, 0, 24, 1), 2);
        due("full: lesser number", x.request(0, 0, 23, 1), -3);
        due("full: length(0)", x.length(0), 24);
        due("full: sent()", x.sent(), 48);
        due("full: entry(0, 23)", x.entry(0, 23), 24);
        due("full: entry(0, 24)", x.entry(0, 24), 0);
        x.drain();
        x.dueReplica("full, received", 0, NORMAL, 0, 24, 24);
        due("full, received: length(1)", x.length(1), 24);
        due("full, received: request again", x.request(0, 0, 24, 1), 1);
        due("full, received: request", x.request(0, 3, 1, 1), -4);
    }

    /** A primary that is left behind answers an old number again: the client keeps the greater one. */
    private static void answersOfAnOldPrimary() {
        Group x = new Group(0);
        x.request(0, 2, 3, 10);
        x.drain();
        due("old primary: answer(2)", x.answer(2), 12);
        x.suspect(1);
        x.deliverLatest(CHANGE, 1, 2);
        x.deliverLatest(CHANGE, 2, 1);
        x.deliverLatest(PAPER, 2, 1);
        x.deliverLatest(STATE, 1, 2);
        due("old primary: its view", x.view(0), 0);
        x.dueReplica("new primary", 1, NORMAL, 1, 1, 0);
        due("request again at the new primary, not committed there", x.request(1, 2, 3, 10), 2);
        due("request at the new primary", x.request(1, 2, 4, 1), 0);
        x.deliverLatest(PREPARE, 1, 2);
        x.deliverLatest(OK, 2, 1);
        due("new primary: answered(2)", x.answered(2), 4);
        due("new primary: answer(2)", x.answer(2), 39);
        due("request again at the old primary", x.request(0, 2, 3, 55), 1);
        due("answered(2) stays", x.answered(2), 4);
        due("answer(2) stays", x.answer(2), 39);
        due("a lesser number of a client that the log doesn't have", x.request(0, 3, 1, 1), 0);
    }

    /** A commit that comes with a paper answers nobody, so the client asks again. */
    private static void answerAfterPaper() {
        Group x = new Group(0);
        x.request(0, 1, 1, 4);
        x.request(0, 0, 1, 6);
        x.deliverLatest(PREPARE, 0, 2);
        x.deliverLatest(FETCH, 2, 0);
        x.deliverLatest(STATE, 0, 2);
        x.suspect(1);
        x.deliverLatest(CHANGE, 1, 2);
        x.deliverLatest(PAPER, 2, 1);
        x.dueReplica("after paper", 1, NORMAL, 1, 2, 0);
        x.deliverLatest(STATE, 1, 2);
        x.deliverLatest(OK, 2, 1);
        due("after OK: commit(1)", x.commit(1), 2);
        due("after OK: answer(1)", x.answer(1), 5);
        due("after OK: answer(0)", x.answer(0), 21);
        x.remind(1);
        x.deliverLatest(PREPARE, 1, 2);
        due("after remind: commit(2)", x.commit(2), 2);
        x.suspect(2);
        x.deliverLatest(CHANGE, 2, 0);
        x.deliverLatest(PAPER, 0, 2);
        x.dueReplica("third primary", 2, NORMAL, 2, 2, 2);
        due("request again at the third primary", x.request(2, 1, 1, 99), 1);
    }

    private static void deliver() {
        Group x = new Group(0);
        int[] none = {-1, 0, 1, MIN, MAX};
        for (int k : none) {
            due("deliver(" + k + ")", x.deliver(k), -1);
        }
        x.request(0, 0, 1, 5);
        due("deliver(1)", x.deliver(1), 2);
        due("deliver(1) again", x.deliver(1), 2);
        due("deliver(4)", x.deliver(4), -1);
        due("delivered twice: length(2)", x.length(2), 1);
        due("delivered twice: sent()", x.sent(), 4);
        due("delivered twice: message(3)", x.message(3), letter(OK, 2, 0, 0));
    }

    private static void onlyTheLatestAreThere() {
        Group x = new Group(0);
        for (int i = 0; i < 32; i++) {
            x.remind(0);
        }
        due("64 sent: message(0)", x.message(0), letter(PREPARE, 0, 1, 0));
        due("64 sent: deliver(0)", x.deliver(0), 2);
        due("65 sent: sent()", x.sent(), 65);
        due("65 sent: message(0)", x.message(0), -1);
        due("65 sent: deliver(0)", x.deliver(0), -1);
        due("65 sent: message(1)", x.message(1), letter(PREPARE, 0, 2, 0));
        due("65 sent: message(64)", x.message(64), letter(OK, 1, 0, 0));
        due("65 sent: message(65)", x.message(65), -1);
        due("65 sent: next()", x.next(), 2);
        due("next received message 1: message(65)", x.message(65), letter(OK, 2, 0, 0));
    }

    /** A message's own sending pushes it out while it is received; what it says still counts. */
    private static void receivedWhilePushedOut() {
        Group x = new Group(0);
        x.request(0, 3, 9, 70);
        x.request(0, 1, 1, 80);
        x.deliver(1);
        x.deliver(3);
        x.suspect(2);
        x.deliverLatest(CHANGE, 2, 0);
        x.deliverLatest(CHANGE, 0, 2);
        int paper = x.latest(PAPER, 2, 1);
        x.deliver(2);
        due("oldest: a FETCH makes the count even", x.message(paper + 1), letter(FETCH, 1, 0, 0));
        while (x.sent() < paper + 64) {
            x.suspect(0);
        }
        due("oldest: message", x.message(paper), letter(PAPER, 2, 1, 1));
        due("oldest: status(1)", x.status(1), NORMAL);
        due("oldest: deliver", x.deliver(paper), 2);
        x.dueReplica("oldest", 1, NORMAL, 1, 2, 0);
        due("oldest: entry(1, 0)", x.entry(1, 0), 70);
        due("oldest: origin(1, 0)", x.origin(1, 0), 39);
        due("oldest: entry(1, 1)", x.entry(1, 1), 80);
        due("oldest: gone", x.message(paper), -1);
    }

    private static void next() {
        Group x = new Group(0);
        due("next() of none", x.next(), -1);
        x.request(0, 0, 1, 5);
        x.crash(2);
        due("next() is message 0", x.next(), 2);
        due("deliver(2) doesn't move next", x.deliver(2), 2);
        due("next() is message 1, to one that is DOWN", x.next(), 0);
        due("next() is message 2", x.next(), 2);
        due("next() has none left", x.next(), -1);
        due("next() has still none", x.next(), -1);
        x.remind(0);
        due("message(3)", x.message(3), letter(PREPARE, 0, 1, 0));
        due("next() is message 3", x.next(), 2);
        due("message(5)", x.message(5), letter(OK, 1, 0, 0));
    }

    private static void nextSkipsWhatIsGone() {
        Group x = new Group(0);
        x.remind(0);
        due("next() is message 0", x.next(), 2);
        for (int i = 0; i < 40; i++) {
            x.remind(0);
        }
        due("83 sent", x.sent(), 83);
        due("next() is message 19", x.next(), 2);
        due("message 19 was to replica 1", x.message(83), letter(OK, 1, 0, 0));
        due("message(19)", x.message(19), -1);
        due("message(20)", x.message(20), letter(PREPARE, 0, 2, 0));
        due("next() is message 20", x.next(), 2);
        due("message 20 was to replica 2", x.message(84), letter(OK, 2, 0, 0));
    }

    private static void remind() {
        Group x = new Group(1);
        int[] none = {-1, 5, MIN, MAX};
        for (int replica : none) {
            due("remind(" + replica + ")", x.remind(replica), false);
        }
        due("remind(1) of a backup", x.remind(1), false);
        due("refused: sent()", x.sent(), 0);
        due("remind(0) without entries", x.remind(0), true);
        due("reminded: sent()", x.sent(), 4);
        due("reminded: message(3)", x.message(3), letter(PREPARE, 0, 4, 0));
        due("reminded: deliver(3)", x.deliver(3), 2);
        due("reminded: message(4)", x.message(4), letter(OK, 4, 0, 0));
        x.dueReplica("reminded", 4, NORMAL, 0, 0, 0);
        x.suspect(1);
        due("remind(1) of a CHANGING primary", x.remind(1), false);
        x.crash(0);
        due("remind(0) of one that is DOWN", x.remind(0), false);
        x.recover(0, 1);
        due("remind(0) of one that is RECOVERING", x.remind(0), false);
    }

    private static void suspect() {
        Group x = new Group(0);
        int[] none = {-1, 3, MIN, MAX};
        for (int replica : none) {
            due("suspect(" + replica + ")", x.suspect(replica), false);
        }
        x.request(0, 0, 1, 5);
        due("suspect(0)", x.suspect(0), true);
        x.dueReplica("suspected", 0, CHANGING, 1, 1, 0);
        due("suspected: sent()", x.sent(), 4);
        due("suspected: message(2)", x.message(2), letter(CHANGE, 0, 1, 1));
        due("suspected: message(3)", x.message(3), letter(CHANGE, 0, 2, 1));
        due("suspect(0) while CHANGING", x.suspect(0), true);
        x.dueReplica("suspected again", 0, CHANGING, 2, 1, 0);
        due("suspected again: message(5)", x.message(5), letter(CHANGE, 0, 2, 2));
        x.crash(1);
        due("suspect(1), DOWN", x.suspect(1), false);
        x.recover(1, 1);
        due("suspect(1), RECOVERING", x.suspect(1), false);
        x.dueReplica("refused", 1, RECOVERING, 0, 0, 0);
        due("refused: sent()", x.sent(), 8);
    }

    private static void crash() {
        Group x = new Group(0);
        int[] none = {-1, 3, MIN, MAX};
        for (int replica : none) {
            due("crash(" + replica + ")", x.crash(replica), false);
        }
        x.request(0, 1, 1, 5);
        x.drain();
        due("crash(0)", x.crash(0), true);
        x.dueFresh("crashed", 0, DOWN);
        due("crash(0) again", x.crash(0), false);
        due("crash(1) with one DOWN", x.crash(1), false);
        x.dueReplica("not crashed", 1, NORMAL, 0, 1, 0);
        x.recover(0, 4);
        due("crash(1) with one RECOVERING", x.crash(1), false);
        due("crash(0) while RECOVERING", x.crash(0), true);
        x.dueFresh("crashed again", 0, DOWN);
        due("crashed: answered(1) stays", x.answered(1), 1);
        due("crashed: sent()", x.sent(), 6);
    }

    private static void crashOfFive() {
        Group x = new Group(1);
        due("crash(4)", x.crash(4), true);
        due("crash(2)", x.crash(2), true);
        due("crash(0), two are DOWN", x.crash(0), false);
        x.recover(4, 1);
        due("crash(0), one is DOWN and one RECOVERING", x.crash(0), false);
        due("crash(4), one other is DOWN", x.crash(4), true);
        due("crash(2), DOWN", x.crash(2), false);
        due("status(0)", x.status(0), NORMAL);
    }

    private static void recover() {
        Group x = new Group(0);
        int[] none = {-1, 3, MIN, MAX};
        for (int replica : none) {
            due("recover(" + replica + ", 1)", x.recover(replica, 1), false);
        }
        due("recover(1, 9), NORMAL", x.recover(1, 9), false);
        x.suspect(1);
        due("recover(1, 9), CHANGING", x.recover(1, 9), false);
        x.crash(1);
        int[] noNonces = {0, -1, MIN};
        for (int nonce : noNonces) {
            due("recover(1, " + nonce + ")", x.recover(1, nonce), false);
        }
        due("refused: sent()", x.sent(), 2);
        due("refused: status(1)", x.status(1), DOWN);
        due("recover(1, 3)", x.recover(1, 3), true);
        x.dueReplica("recovering", 1, RECOVERING, 0, 0, 0);
        due("recovering: vector(1, 1)", x.vector(1, 1), 3);
        due("recovering: vector(1, 0)", x.vector(1, 0), 0);
        due("recovering: vector(0, 1)", x.vector(0, 1), 0);
        due("recovering: message(2)", x.message(2), letter(RECOVERY, 1, 0, 0));
        due("recovering: message(3)", x.message(3), letter(RECOVERY, 1, 2, 0));
        due("recover(1, 3) again", x.recover(1, 3), false);
        due("recover(1, 2)", x.recover(1, 2), false);
        due("recover(1, 4), RECOVERING", x.recover(1, 4), true);
        due("recovering again: vector(1, 1)", x.vector(1, 1), 4);
        due("recovering again: sent()", x.sent(), 6);
        x.crash(1);
        due("crashed: vector(1, 1)", x.vector(1, 1), 0);
        due("recover(1, 4), a nonce of before the crash", x.recover(1, 4), false);
        due("recover(1, MAX)", x.recover(1, MAX), true);
        x.crash(1);
        due("recover(1, MAX) again", x.recover(1, MAX), false);
        due("status(1)", x.status(1), DOWN);
    }

    private static void noncesAreEachReplicasOwn() {
        Group x = new Group(1);
        x.crash(3);
        x.crash(4);
        due("recover(3, 7)", x.recover(3, 7), true);
        due("recover(4, 5)", x.recover(4, 5), true);
        due("vector(4, 4)", x.vector(4, 4), 5);
        due("vector(4, 3)", x.vector(4, 3), 0);
        due("vector(3, 3)", x.vector(3, 3), 7);
    }

    private static void statusesAndViews() {
        Group x = new Group(1);
        x.suspect(3);
        x.suspect(3);
        x.crash(1);
        x.crash(2);
        x.recover(2, 8);
        int[] statuses = {NORMAL, DOWN, RECOVERING, CHANGING, NORMAL};
        int[] views = {0, 0, 0, 2, 0};
        for (int replica = 0; replica < 5; replica++) {
            due("status(" + replica + ")", x.status(replica), statuses[replica]);
            due("view(" + replica + ")", x.view(replica), views[replica]);
        }
    }

    private static void entriesAndTotals() {
        Group x = new Group(0);
        x.request(0, 3, MAX, MAX);
        x.request(0, 1, 1 << 30, MIN);
        x.request(0, 0, 1, -1);
        due("entry(0, 0)", x.entry(0, 0), MAX);
        due("entry(0, 1)", x.entry(0, 1), MIN);
        due("entry(0, 2)", x.entry(0, 2), -1);
        due("origin(0, 0) wraps", x.origin(0, 0), -1);
        due("origin(0, 1) wraps", x.origin(0, 1), 1);
        due("origin(0, 2)", x.origin(0, 2), 4);
        due("total(0), nothing committed", x.total(0), 0);
        x.deliver(0);
        x.deliver(6);
        due("one acked: commit(0)", x.commit(0), 1);
        int first = MAX + 3;
        due("total(0) of one wraps", x.total(0), first);
        due("answer(3)", x.answer(3), first);
        due("answered(3)", x.answered(3), MAX);
        due("answered(1)", x.answered(1), 0);
        x.drain();
        int second = 3 * first + MIN + 1;
        int third = 3 * second - 1;
        due("commit(0)", x.commit(0), 3);
        due("total(0) of three wraps", x.total(0), third);
        due("answer(1)", x.answer(1), second);
        due("answered(1)", x.answered(1), 1 << 30);
        due("answer(0)", x.answer(0), third);
        due("answer(2)", x.answer(2), 0);
    }

    private static void prepare() {
        Group x = new Group(0);
        x.request(0, 0, 1, 5);
        x.request(0, 0, 2, 6);
        x.request(0, 0, 3, 7);
        due("prepare: too far", x.deliver(2), 2);
        due("prepare: too far fetches", x.message(6), letter(FETCH, 1, 0, 0));
        due("prepare: length(1)", x.length(1), 0);
        due("prepare: one more", x.deliver(0), 2);
        due("prepare: OK", x.message(7), letter(OK, 1, 0, 0));
        due("prepare: length(1) then", x.length(1), 1);
        x.deliver(2);
        x.deliver(0);
        due("prepare: an old one changes nothing", x.length(1), 2);
        due("prepare: an old one is OK", x.message(9), letter(OK, 1, 0, 0));
        x.deliver(9);
        due("prepare: OK says the sender's length", x.commit(0), 2);
        x.remind(0);
        due("prepare: remind of three", x.message(10), letter(PREPARE, 0, 1, 0));
        x.deliver(10);
        x.dueReplica("prepare: the latest entry comes with it", 1, NORMAL, 0, 3, 2);
        due("prepare: total(1)", x.total(1), 21);
        x.deliver(1);
        x.dueReplica("prepare: commit said when it was sent", 2, NORMAL, 0, 1, 0);
        x.deliver(3);
        x.deliver(5);
        x.deliver(11);
        x.dueReplica("prepare: the same length", 2, NORMAL, 0, 3, 2);
        x.deliver(5);
        due("prepare: commit doesn't sink", x.commit(2), 2);
    }

    private static void prepareOfOtherViews() {
        Group x = new Group(0);
        x.request(0, 0, 1, 5);
        x.suspect(1);
        due("older view", x.deliver(0), 2);
        due("older view: sent()", x.sent(), 4);
        due("older view: length(1)", x.length(1), 0);
        x.deliver(3);
        x.deliverLatest(CHANGE, 2, 1);
        x.deliverLatest(PAPER, 2, 1);
        x.request(1, 0, 1, 8);
        due("r is CHANGING to that view", x.deliverLatest(PREPARE, 1, 2), 2);
        due("CHANGING fetches", x.lastMessage(), letter(FETCH, 2, 1, 1));
        x.dueReplica("CHANGING", 2, CHANGING, 1, 0, 0);
        due("greater view", x.deliverLatest(PREPARE, 1, 0), 2);
        due("greater view fetches", x.lastMessage(), letter(FETCH, 0, 1, 0));
        x.dueReplica("greater view", 0, NORMAL, 0, 1, 0);
    }

    private static void commitIsNotBeyondTheLog() {
        Group x = new Group(0);
        x.request(0, 0, 1, 5);
        x.request(0, 0, 2, 6);
        x.deliver(0);
        x.deliver(2);
        x.deliver(5);
        due("commit(0)", x.commit(0), 2);
        x.request(0, 0, 3, 6);
        x.deliver(7);
        due("too far: commit(2)", x.commit(2), 0);
        x.deliver(1);
        x.deliver(3);
        x.deliver(7);
        x.dueReplica("in step", 2, NORMAL, 0, 3, 2);
    }

    private static void okOfFive() {
        Group x = new Group(1);
        x.request(0, 0, 1, 1);
        x.request(0, 1, 1, 2);
        x.deliver(0);
        x.deliver(4);
        due("both to 1: message(9)", x.message(9), letter(OK, 1, 0, 0));
        x.deliver(9);
        x.deliver(8);
        x.deliver(9);
        due("one has acked", x.commit(0), 0);
        x.deliver(1);
        x.deliver(10);
        due("a second has acked one", x.commit(0), 1);
        due("answer(0)", x.answer(0), 1);
        due("answered(1)", x.answered(1), 0);
        x.deliver(2);
        x.deliver(6);
        x.deliver(12);
        due("a third has acked two", x.commit(0), 2);
        due("answer(1)", x.answer(1), 6);
        due("acking is no commit of a backup", x.commit(3), 0);
    }

    private static void okOfNoUse() {
        Group x = new Group(0);
        x.request(0, 0, 1, 1);
        x.deliver(0);
        x.suspect(0);
        due("the primary is CHANGING", x.deliver(2), 2);
        due("CHANGING: commit(0)", x.commit(0), 0);
        Group y = new Group(0);
        y.request(0, 0, 1, 1);
        y.deliver(0);
        int old = y.latest(OK, 1, 0);
        for (int i = 0; i < 3; i++) {
            y.suspect(2);
        }
        y.deliverLatest(CHANGE, 2, 1);
        y.deliverLatest(PAPER, 1, 0);
        y.dueReplica("primary of view 3", 0, NORMAL, 3, 1, 0);
        due("an OK of view 0", y.deliver(old), 2);
        due("view 3: commit(0)", y.commit(0), 0);
        due("an OK of view 3", y.deliverLatest(STATE, 0, 1), 2);
        y.deliverLatest(OK, 1, 0);
        due("view 3: commit(0) then", y.commit(0), 1);
    }

    private static void nobodyHasAckedInANewView() {
        Group x = new Group(1);
        x.request(0, 0, 1, 1);
        x.deliver(0);
        x.deliver(4);
        due("one of two acks: commit(0)", x.commit(0), 0);
        for (int i = 0; i < 5; i++) {
            x.suspect(1);
        }
        x.suspect(2);
        x.suspect(2);
        x.suspect(2);
        x.suspect(2);
        x.suspect(2);
        x.deliverLatest(CHANGE, 1, 3);
        x.deliverLatest(CHANGE, 2, 3);
        x.deliverLatest(PAPER, 3, 0);
        x.deliverLatest(CHANGE, 1, 2);
        x.deliverLatest(CHANGE, 3, 2);
        x.deliverLatest(PAPER, 2, 0);
        x.dueReplica("primary again", 0, NORMAL, 5, 1, 0);
        x.deliverLatest(STATE, 0, 4);
        x.deliverLatest(OK, 4, 0);
        due("one of two acks in view 5", x.commit(0), 0);
        x.deliverLatest(STATE, 0, 3);
        x.deliverLatest(OK, 3, 0);
        due("two acks in view 5", x.commit(0), 1);
    }

    private static void fetchAndState() {
        Group x = new Group(0);
        x.request(0, 1, 1, 5);
        x.request(0, 1, 2, 6);
        x.deliver(3);
        due("FETCH to a NORMAL one", x.deliver(4), 2);
        due("it sends STATE", x.message(5), letter(STATE, 0, 2, 0));
        x.request(0, 1, 3, 7);
        due("STATE with a longer log", x.deliver(5), 2);
        x.dueReplica("STATE is of when it was sent", 2, NORMAL, 0, 2, 0);
        due("STATE is OK", x.message(8), letter(OK, 2, 0, 0));
        due("the same STATE again", x.deliver(5), 2);
        due("no longer log: sent()", x.sent(), 9);
        x.deliver(8);
        due("OK of STATE commits", x.commit(0), 2);
        x.suspect(0);
        due("FETCH to a CHANGING one", x.deliver(4), 2);
        due("CHANGING: sent()", x.sent(), 11);
        x.crash(0);
        due("FETCH to a DOWN one", x.deliver(4), 0);
    }

    private static void stateOfAGreaterView() {
        Group x = new Group(1);
        x.request(0, 0, 1, 5);
        x.suspect(2);
        x.deliverLatest(CHANGE, 2, 3);
        x.suspect(4);
        x.deliverLatest(CHANGE, 4, 3);
        due("two votes make a paper", x.lastMessage(), letter(PAPER, 3, 1, 1));
        x.deliverLatest(CHANGE, 3, 2);
        x.deliverLatest(CHANGE, 4, 2);
        x.deliverLatest(PAPER, 3, 1);
        due("one paper is not enough", x.status(1), CHANGING);
        x.deliverLatest(PAPER, 3, 1);
        due("nor is it twice", x.status(1), CHANGING);
        x.deliverLatest(PAPER, 2, 1);
        due("two papers are", x.status(1), NORMAL);
        due("STATE to 0", x.message(x.sent() - 4), letter(STATE, 1, 0, 1));
        due("STATE to 4", x.lastMessage(), letter(STATE, 1, 4, 1));
        due("STATE of a greater view", x.deliverLatest(STATE, 1, 0), 2);
        x.dueReplica("the entry of view 0 is lost", 0, NORMAL, 1, 0, 0);
        due("OK to the new primary", x.lastMessage(), letter(OK, 0, 1, 1));
        due("STATE while CHANGING", x.deliverLatest(STATE, 1, 4), 2);
        x.dueReplica("no longer CHANGING", 4, NORMAL, 1, 0, 0);
        x.suspect(4);
        int before = x.sent();
        due("STATE of an older view", x.deliverLatest(STATE, 1, 4), 2);
        x.dueReplica("older view", 4, CHANGING, 2, 0, 0);
        due("older view: sent()", x.sent(), before);
    }

    /** A late FETCH brings a STATE of view 3 to the primary of view 3, which does nothing with it. */
    private static void stateToThePrimary() {
        Group x = new Group(0);
        x.request(0, 0, 1, 5);
        x.suspect(1);
        x.deliverLatest(CHANGE, 1, 2);
        x.deliverLatest(CHANGE, 2, 1);
        x.deliverLatest(PAPER, 2, 1);
        x.remind(1);
        x.deliverLatest(PREPARE, 1, 2);
        due("CHANGING fetches", x.lastMessage(), letter(FETCH, 2, 1, 1));
        x.deliverLatest(FETCH, 2, 1);
        x.deliverLatest(STATE, 1, 2);
        due("2 is NORMAL in view 1", x.status(2), NORMAL);
        x.suspect(2);
        x.deliverLatest(CHANGE, 2, 1);
        x.deliverLatest(PAPER, 1, 2);
        x.dueReplica("2 leads view 2", 2, NORMAL, 2, 0, 0);
        x.remind(2);
        x.deliverLatest(PREPARE, 2, 0);
        int fetch = x.latest(FETCH, 0, 2);
        due("0 fetches from 2", x.message(fetch), letter(FETCH, 0, 2, 0));
        x.suspect(2);
        x.deliverLatest(CHANGE, 2, 1);
        x.deliverLatest(CHANGE, 1, 2);
        int paper = x.latest(PAPER, 1, 0);
        due("1's paper for view 3", x.message(paper), letter(PAPER, 1, 0, 3));
        x.deliver(paper);
        x.deliverLatest(STATE, 0, 2);
        x.dueReplica("0 leads view 3", 0, NORMAL, 3, 0, 0);
        x.deliver(fetch);
        due("2 says view 3 to its primary", x.lastMessage(), letter(STATE, 2, 0, 3));
        int before = x.sent();
        due("STATE to the primary", x.deliver(before - 1), 2);
        x.dueReplica("0 still leads view 3", 0, NORMAL, 3, 0, 0);
        due("STATE to the primary: sent()", x.sent(), before);
    }

    private static void change() {
        Group x = new Group(0);
        x.suspect(0);
        due("CHANGE to a backup", x.deliver(1), 2);
        x.dueReplica("it changes too", 2, CHANGING, 1, 0, 0);
        due("CHANGE to 0", x.message(2), letter(CHANGE, 2, 0, 1));
        due("CHANGE to 1", x.message(3), letter(CHANGE, 2, 1, 1));
        due("then its paper", x.message(4), letter(PAPER, 2, 1, 1));
        x.deliver(1);
        due("only one paper", x.sent(), 5);
        due("CHANGE to the primary", x.deliver(0), 2);
        due("the primary changes", x.status(1), CHANGING);
        due("and sends no paper", x.sent(), 7);
        x.suspect(2);
        due("CHANGE of an older view", x.deliver(1), 2);
        x.dueReplica("older view", 2, CHANGING, 2, 0, 0);
        due("older view: sent()", x.sent(), 9);
        due("CHANGE to view 2", x.deliver(7), 2);
        due("0's paper goes to 2", x.message(11), letter(PAPER, 0, 2, 2));
        x.suspect(0);
        x.suspect(1);
        x.suspect(1);
        due("CHANGE of 1 to view 3", x.message(16), letter(CHANGE, 1, 0, 3));
        x.deliver(16);
        due("0 is the primary of view 3 and sends no paper", x.sent(), 18);
    }

    private static void votesOfOneViewOnly() {
        Group x = new Group(1);
        x.suspect(2);
        x.deliverLatest(CHANGE, 2, 3);
        x.deliverLatest(CHANGE, 2, 3);
        due("one vote twice", x.latest(PAPER, 3, 1), -1);
        x.suspect(2);
        x.deliverLatest(CHANGE, 2, 3);
        due("a vote of another view doesn't count", x.latest(PAPER, 3, 2), -1);
        x.suspect(4);
        x.suspect(4);
        x.deliverLatest(CHANGE, 4, 3);
        due("two votes", x.lastMessage(), letter(PAPER, 3, 2, 2));
    }

    private static void changeOfTheSameViewWhenNormal() {
        Group x = new Group(0);
        x.suspect(0);
        x.deliver(0);
        x.deliver(1);
        x.deliverLatest(PAPER, 2, 1);
        x.dueReplica("leads", 1, NORMAL, 1, 0, 0);
        int before = x.sent();
        due("CHANGE of its own view to a NORMAL one", x.deliver(0), 2);
        due("PAPER of its own view to a NORMAL one", x.deliverLatest(PAPER, 2, 1), 2);
        x.dueReplica("still leads", 1, NORMAL, 1, 0, 0);
        due("nothing is sent", x.sent(), before);
    }

    private static void papersAreWeighed() {
        Group x = new Group(0);
        x.request(0, 0, 1, 5);
        x.request(0, 0, 2, 6);
        x.suspect(1);
        x.deliverLatest(CHANGE, 1, 2);
        x.deliverLatest(PAPER, 2, 1);
        x.deliverLatest(STATE, 1, 2);
        x.request(1, 3, 1, 9);
        x.deliverLatest(PREPARE, 1, 2);
        x.deliverLatest(OK, 2, 1);
        x.dueReplica("view 1", 2, NORMAL, 1, 1, 0);
        due("view 1: commit(1)", x.commit(1), 1);
        x.suspect(2);
        x.suspect(2);
        x.deliverLatest(CHANGE, 2, 1);
        due("1's paper", x.lastMessage(), letter(PAPER, 1, 0, 3));
        due("0 has the longer log of an older view", x.length(0), 2);
        x.deliverLatest(PAPER, 1, 0);
        x.dueReplica("the greater last view wins, with its commit", 0, NORMAL, 3, 1, 1);
        due("entry(0, 0)", x.entry(0, 0), 9);
        due("origin(0, 0)", x.origin(0, 0), 7);
        due("total(0)", x.total(0), 12);
    }

    private static void theLongerPaperWins() {
        Group x = new Group(1);
        x.request(0, 0, 1, 5);
        x.request(0, 0, 2, 6);
        x.deliverLatest(PREPARE, 0, 4);
        x.deliverLatest(FETCH, 4, 0);
        x.deliverLatest(STATE, 0, 4);
        x.deliver(1);
        x.suspect(3);
        x.deliverLatest(CHANGE, 3, 2);
        x.deliverLatest(CHANGE, 3, 4);
        x.deliverLatest(CHANGE, 2, 4);
        x.deliverLatest(CHANGE, 4, 2);
        x.deliverLatest(PAPER, 2, 1);
        x.deliverLatest(PAPER, 4, 1);
        x.dueReplica("the longest wins", 1, NORMAL, 1, 2, 0);
        due("entry(1, 1)", x.entry(1, 1), 6);
    }

    private static void theOwnLogWinsWhenLonger() {
        Group x = new Group(0);
        x.request(0, 0, 1, 5);
        x.deliver(0);
        x.deliver(2);
        x.remind(0);
        x.deliverLatest(PREPARE, 0, 1);
        x.dueReplica("before", 1, NORMAL, 0, 1, 1);
        x.suspect(1);
        x.deliverLatest(CHANGE, 1, 2);
        x.deliverLatest(PAPER, 2, 1);
        x.dueReplica("own log and commit", 1, NORMAL, 1, 1, 1);
    }

    private static void recovery() {
        Group x = new Group(0);
        x.request(0, 2, 1, 5);
        x.drain();
        x.crash(2);
        x.recover(2, 3);
        due("RECOVERY", x.deliverLatest(RECOVERY, 2, 0), 2);
        due("vector(0, 2)", x.vector(0, 2), 3);
        due("RESPONSE", x.lastMessage(), letter(RESPONSE, 0, 2, 0));
        due("RECOVERING hears no PREPARE", x.deliver(1), 0);
        due("first RESPONSE", x.deliverLatest(RESPONSE, 0, 2), 2);
        due("the same RESPONSE", x.deliverLatest(RESPONSE, 0, 2), 2);
        due("one replica's responses", x.status(2), RECOVERING);
        x.deliverLatest(RECOVERY, 2, 1);
        due("second RESPONSE", x.deliverLatest(RESPONSE, 1, 2), 2);
        x.dueReplica("recovered", 2, NORMAL, 0, 1, 1);
        due("total(2)", x.total(2), 7);
        due("vector(2, 2)", x.vector(2, 2), 3);
        due("a RESPONSE to a NORMAL one", x.deliverLatest(RESPONSE, 1, 2), 0);
        due("an OK of before the crash", x.deliverLatest(OK, 2, 0), 1);
        x.crash(2);
        due("a RESPONSE to a DOWN one", x.deliverLatest(RESPONSE, 1, 2), 0);
        x.recover(2, 4);
        due("a RESPONSE for an older nonce", x.deliverLatest(RESPONSE, 1, 2), 1);
        due("a RECOVERY of an older nonce is still taken", x.deliver(4), 2);
        due("a RECOVERY", x.deliverLatest(RECOVERY, 2, 0), 2);
        due("a RECOVERY of an older nonce is too late", x.deliver(4), 1);
        due("vector(1, 2)", x.vector(1, 2), 3);
        due("vector(0, 2) is then", x.vector(0, 2), 4);
    }

    private static void recoveryNeedsThePrimary() {
        Group x = new Group(0);
        x.request(0, 2, 1, 5);
        x.drain();
        x.crash(0);
        x.recover(0, 1);
        x.drain();
        due("nobody leads view 0", x.status(0), RECOVERING);
        due("the primary's request", x.request(0, 2, 2, 5), -2);
        x.suspect(1);
        due("a CHANGING one doesn't respond", x.deliverLatest(RECOVERY, 0, 1), 2);
        due("CHANGING: message", x.lastMessage(), letter(CHANGE, 1, 2, 1));
        x.drain();
        x.dueReplica("view 1", 1, NORMAL, 1, 1, 1);
        due("still RECOVERING", x.status(0), RECOVERING);
        x.recover(0, 2);
        x.deliverLatest(RECOVERY, 0, 2);
        x.deliverLatest(RESPONSE, 2, 0);
        due("half of the responses", x.status(0), RECOVERING);
        x.deliverLatest(RECOVERY, 0, 1);
        x.deliverLatest(RESPONSE, 1, 0);
        x.dueReplica("recovered in view 1", 0, NORMAL, 1, 1, 1);
    }

    /** In a group of five, three must respond, and the primary must have the greatest view itself. */
    private static void recoveryOfFive() {
        Group x = new Group(1);
        x.request(0, 0, 1, 5);
        x.drain();
        x.crash(4);
        x.recover(4, 2);
        x.deliverLatest(RECOVERY, 4, 0);
        x.deliverLatest(RECOVERY, 4, 3);
        x.deliverLatest(RESPONSE, 0, 4);
        x.deliverLatest(RESPONSE, 3, 4);
        due("two responses", x.status(4), RECOVERING);
        x.suspect(1);
        x.suspect(3);
        x.deliverLatest(CHANGE, 1, 2);
        x.deliverLatest(CHANGE, 3, 2);
        x.deliverLatest(CHANGE, 1, 3);
        x.deliverLatest(CHANGE, 2, 3);
        x.deliverLatest(PAPER, 2, 1);
        x.deliverLatest(PAPER, 3, 1);
        x.deliverLatest(STATE, 1, 2);
        due("2 is in view 1", x.view(2), 1);
        x.deliverLatest(RECOVERY, 4, 2);
        due("the third response", x.deliverLatest(RESPONSE, 2, 4), 2);
        due("none of view 1's primary", x.status(4), RECOVERING);
        x.deliverLatest(RECOVERY, 4, 1);
        x.deliverLatest(RESPONSE, 1, 4);
        x.dueReplica("with it", 4, NORMAL, 1, 1, x.commit(1));
    }

    /** What was kept from a replica is forgotten when its crash becomes known, by whomever. */
    private static void keptIsForgotten() {
        Group x = new Group(1);
        x.suspect(3);
        x.deliverLatest(CHANGE, 3, 4);
        due("one vote kept", x.status(4), CHANGING);
        x.crash(3);
        x.recover(3, 6);
        x.deliverLatest(RECOVERY, 3, 0);
        due("vector(0, 3)", x.vector(0, 3), 6);
        x.suspect(0);
        due("a vote that tells of 3's crash", x.deliverLatest(CHANGE, 0, 4), 2);
        due("vector(4, 3)", x.vector(4, 3), 6);
        due("one vote is left, so no paper", x.latest(PAPER, 4, 1), -1);
        due("3's vote is outdated", x.deliverLatest(CHANGE, 3, 4), 1);
        x.suspect(2);
        x.deliverLatest(CHANGE, 2, 4);
        due("two votes again", x.lastMessage(), letter(PAPER, 4, 1, 1));
    }

    private static void papersAreForgotten() {
        Group x = new Group(1);
        x.suspect(3);
        x.suspect(4);
        x.deliverLatest(CHANGE, 3, 2);
        x.deliverLatest(CHANGE, 4, 2);
        x.deliverLatest(CHANGE, 4, 3);
        x.deliverLatest(CHANGE, 2, 3);
        x.deliverLatest(CHANGE, 3, 4);
        x.deliverLatest(PAPER, 3, 1);
        due("one paper", x.status(1), CHANGING);
        x.crash(3);
        x.recover(3, 1);
        x.deliverLatest(RECOVERY, 3, 4);
        x.deliverLatest(CHANGE, 2, 4);
        x.deliverLatest(CHANGE, 1, 4);
        due("4's paper tells of the crash", x.lastMessage(), letter(PAPER, 4, 1, 1));
        due("4's paper", x.deliverLatest(PAPER, 4, 1), 2);
        due("one paper is left", x.status(1), CHANGING);
        due("vector(1, 3)", x.vector(1, 3), 1);
        x.deliverLatest(PAPER, 2, 1);
        due("two papers", x.status(1), NORMAL);
    }

    private static void responsesAreForgotten() {
        Group x = new Group(1);
        x.crash(3);
        x.crash(4);
        x.recover(3, 1);
        x.deliverLatest(RECOVERY, 3, 0);
        x.deliverLatest(RECOVERY, 3, 1);
        x.deliverLatest(RECOVERY, 3, 2);
        x.deliverLatest(RESPONSE, 1, 3);
        x.deliverLatest(RESPONSE, 2, 3);
        x.recover(4, 1);
        x.deliverLatest(RECOVERY, 4, 0);
        x.deliverLatest(RECOVERY, 4, 1);
        x.deliverLatest(RECOVERY, 4, 2);
        x.deliverLatest(RESPONSE, 0, 4);
        x.deliverLatest(RESPONSE, 1, 4);
        x.deliverLatest(RESPONSE, 2, 4);
        due("4 is back", x.status(4), NORMAL);
        due("it knows of 3's crash", x.vector(4, 3), 1);
        x.crash(1);
        x.recover(1, 5);
        due("1 crashed", x.status(1), RECOVERING);
        x.deliverLatest(RECOVERY, 1, 0);
        x.deliverLatest(RECOVERY, 3, 0);
        due("a response that tells of 1's crash", x.deliverLatest(RESPONSE, 0, 3), 2);
        due("two responses are left", x.status(3), RECOVERING);
        due("vector(3, 1)", x.vector(3, 1), 5);
        x.deliverLatest(RECOVERY, 3, 4);
        x.deliverLatest(RESPONSE, 4, 3);
        due("three responses", x.status(3), NORMAL);
    }

    /** The calls of README.md. */
    private static void readme() {
        Group group = new Group(0);
        due("readme: request", group.request(0, 1, 1, 10), 0);
        group.drain();
        due("readme: commit", group.commit(0), 1);
        due("readme: answer", group.answer(1), 11);
        due("readme: crash", group.crash(0), true);
        due("readme: suspect", group.suspect(1), true);
        group.drain();
        due("readme: recover", group.recover(0, 1), true);
        group.drain();
        due("readme: length", group.length(0), 1);
    }

    private static void requestsAndReceiving() {
        requestRefused();
        requestTaken();
        requestWhenFull();
        answersOfAnOldPrimary();
        answerAfterPaper();
        deliver();
        onlyTheLatestAreThere();
        receivedWhilePushedOut();
        next();
        nextSkipsWhatIsGone();
    }

    private static void otherCalls() {
        remind();
        suspect();
        crash();
        crashOfFive();
        recover();
        noncesAreEachReplicasOwn();
        statusesAndViews();
        entriesAndTotals();
    }

    private static void kindsOfMessages() {
        prepare();
        prepareOfOtherViews();
        commitIsNotBeyondTheLog();
        okOfFive();
        okOfNoUse();
        nobodyHasAckedInANewView();
        fetchAndState();
        stateOfAGreaterView();
        stateToThePrimary();
        change();
        votesOfOneViewOnly();
        changeOfTheSameViewWhenNormal();
        papersAreWeighed();
        theLongerPaperWins();
        theOwnLogWinsWhenLonger();
        recovery();
        recoveryNeedsThePrimary();
        recoveryOfFive();
        keptIsForgotten();
        papersAreForgotten();
        responsesAreForgotten();
    }

    public static void main(String[] args) {
        newObject();
        objectsAreApart();
        requestsAndReceiving();
        otherCalls();
        kindsOfMessages();
        readme();
        end();
    }
}
