/**
 * The boundary cases of promises 1 to 20: each sentence that names one has a test of its own, with
 * the values just inside, on and just outside it. Every refused call is tried on one of two twins,
 * so that a change by it would show.
 */
public final class Boundaries extends Due {
    private static final int[] NO_CLIENTS = {-1, 4, MIN, MAX};

    /** The numbers next to those of the replicas, and the farthest ones. */
    private static int[] noReplicas(int size) {
        return new int[] {-1, new Group(size).replicas, MIN, MAX};
    }

    private static void fill(Group x, int entries) {
        for (int number = 1; number <= entries; number++) {
            x.request(0, number % 4, number, number);
        }
    }

    // Promise 1

    /** "A group of 3 replicas if size is even, of 5 if it is odd". */
    private static void evenAndOddSizes() {
        int[] even = {0, 2, -2, 4, MIN, MAX - 1};
        for (int size : even) {
            due("size " + size + ": status(2)", new Group(size).status(2), NORMAL);
            due("size " + size + ": status(3)", new Group(size).status(3), -1);
        }
        int[] odd = {1, -1, 3, -3, MIN + 1, MAX};
        for (int size : odd) {
            due("size " + size + ": status(4)", new Group(size).status(4), NORMAL);
            due("size " + size + ": status(5)", new Group(size).status(5), -1);
        }
    }

    /** "no messages". */
    private static void noMessagesAtFirst() {
        for (int size = 0; size < 2; size++) {
            Group x = new Group(size);
            due("at first: sent()", x.sent(), 0);
            due("at first: message(0)", x.message(0), -1);
            due("at first: deliver(0)", x.deliver(0), -1);
            due("at first: next()", x.next(), -1);
        }
    }

    /** "At first each replica is NORMAL and FRESH." */
    private static void freshAtFirst() {
        for (int size = 0; size < 2; size++) {
            Group x = new Group(size);
            for (int replica = 0; replica < x.replicas; replica++) {
                x.dueFresh("at first", replica, NORMAL);
                due("at first: entry(" + replica + ", 0)", x.entry(replica, 0), 0);
                due("at first: origin(" + replica + ", 0)", x.origin(replica, 0), -1);
            }
        }
    }

    // Promise 2

    /** "-1 if there is no such replica". */
    private static void requestToNoReplica() {
        for (int size = 0; size < 2; size++) {
            Twins t = new Twins(size);
            t.both(x -> x.request(0, 0, 1, 5));
            for (int replica : noReplicas(size)) {
                t.idle("request(" + replica + ", 0, 2, 6)", -1, x -> x.request(replica, 0, 2, 6));
                t.idle("request(" + replica + ", 0, 1, 5)", -1, x -> x.request(replica, 0, 1, 5));
            }
            t.same("request to no replica");
            t.due("request to the last replica", -2, x -> x.request(x.replicas - 1, 0, 2, 6));
            t.due("request to the first replica", 0, x -> x.request(0, 0, 2, 6));
            t.both(Group::drain);
            t.same("request to no replica, then the messages");
        }
    }

    /** "-1 if there is no such .. client". */
    private static void requestOfNoClient() {
        Twins t = new Twins(0);
        for (int client : NO_CLIENTS) {
            t.idle("request(0, " + client + ", 1, 5)", -1, x -> x.request(0, client, 1, 5));
        }
        t.same("request of no client");
        t.due("request of the first client", 0, x -> x.request(0, 0, 1, 5));
        t.due("request of the last client", 0, x -> x.request(0, 3, 1, 6));
        t.both(Group::drain);
        t.same("request of no client, then of clients");
    }

    /** "-1 if .. number is less than 1". */
    private static void requestWithTooSmallANumber() {
        Twins t = new Twins(0);
        int[] numbers = {0, -1, MIN};
        for (int number : numbers) {
            t.idle("request(0, 0, " + number + ", 5)", -1, x -> x.request(0, 0, number, 5));
        }
        t.same("request with too small a number");
        t.due("request with the least number", 0, x -> x.request(0, 0, 1, 5));
        t.idle("request(0, 0, 0, 5) when there is an entry", -1, x -> x.request(0, 0, 0, 5));
        t.due("request with the greatest number", 0, x -> x.request(0, 0, MAX, 5));
        t.same("request with numbers that are no such ones");
    }

    /** "otherwise -2": what is wrong with the replica, client or number comes first. */
    private static void requestThatIsWrongTwice() {
        Twins t = new Twins(0);
        t.both(x -> x.crash(2));
        int[] notLeading = {1, 2};
        for (int replica : notLeading) {
            t.idle("no such client, not leading", -1, x -> x.request(replica, 4, 1, 5));
            t.idle("no such client, not leading", -1, x -> x.request(replica, -1, 1, 5));
            t.idle("no such number, not leading", -1, x -> x.request(replica, 0, 0, 5));
            t.idle("only not leading", -2, x -> x.request(replica, 0, 1, 5));
        }
        t.same("request that is wrong twice");
    }

    /** "-2 if the replica is not NORMAL". */
    private static void requestToOneThatIsNotNormal() {
        Twins t = new Twins(0);
        t.both(x -> x.suspectTo(3, 0));
        t.idle("request to the primary of view 3, CHANGING", -2, x -> x.request(0, 0, 1, 5));
        t.both(x -> x.crash(0));
        t.idle("request to the primary of view 0, DOWN", -2, x -> x.request(0, 0, 1, 5));
        t.both(x -> x.recover(0, 1));
        t.idle("request to the primary of view 0, RECOVERING", -2, x -> x.request(0, 0, 1, 5));
        t.same("request to one that is not NORMAL");
    }

    /** "-2 if the replica is .. not the primary of its view". */
    private static void requestToABackup() {
        Twins t = new Twins(0);
        t.idle("view 0: request(1, ..)", -2, x -> x.request(1, 0, 1, 5));
        t.idle("view 0: request(2, ..)", -2, x -> x.request(2, 0, 1, 5));
        t.both(x -> x.leadOfThree(1, 2));
        t.both(x -> x.deliverLatest(STATE, 1, 0));
        t.idle("view 1: request(0, ..)", -2, x -> x.request(0, 0, 1, 5));
        t.same("request to a backup");
        t.due("view 1: request(1, ..)", 0, x -> x.request(1, 0, 1, 5));
    }

    /** "otherwise": a backup answers -2 whatever its log has. */
    private static void requestToABackupThatHasIt() {
        Twins t = new Twins(0);
        t.both(x -> fill(x, 24));
        t.both(Group::drain);
        t.due("the backup's log is full", 24, x -> x.length(1));
        t.idle("backup: same number", -2, x -> x.request(1, 0, 24, 1));
        t.idle("backup: lesser number", -2, x -> x.request(1, 0, 23, 1));
        t.idle("backup: greater number", -2, x -> x.request(1, 0, 25, 1));
        t.same("request to a backup that has it");
    }

    /** "if the replica's log has an entry of this client whose number is greater: -3". */
    private static void requestWithALesserNumber() {
        Twins t = new Twins(0);
        t.both(x -> x.request(0, 1, 10, 5));
        t.idle("number 9 when 10 is there", -3, x -> x.request(0, 1, 9, 5));
        t.idle("number 1 when 10 is there", -3, x -> x.request(0, 1, 1, 5));
        t.idle("number 10 when 10 is there", 2, x -> x.request(0, 1, 10, 5));
        t.same("request with a lesser number");
        t.due("number 11 when 10 is there", 0, x -> x.request(0, 1, 11, 6));
        t.idle("number 10 when 11 is there too", -3, x -> x.request(0, 1, 10, 5));
        t.both(Group::drain);
        t.due("both are committed", 2, x -> x.commit(0));
        t.idle("number 10, committed, when 11 is there too", -3, x -> x.request(0, 1, 10, 5));
        t.same("request with a lesser number than the latest");
    }

    /** "an entry of this client": the numbers of others are of no meaning. */
    private static void requestWithALesserNumberThanOthers() {
        Group x = new Group(0);
        due("client 1, number 10", x.request(0, 1, 10, 5), 0);
        due("client 0, number 9", x.request(0, 0, 9, 5), 0);
        due("client 2, number 1", x.request(0, 2, 1, 5), 0);
        due("client 3, number 10", x.request(0, 3, 10, 5), 0);
        due("all are entries", x.length(0), 4);
    }

    /** -3 whether the greater number is the first, a middle or the latest entry. */
    private static void requestWithALesserNumberAnywhere() {
        for (int place = 0; place < 3; place++) {
            Twins t = new Twins(0);
            for (int k = 0; k < 3; k++) {
                int client = k == place ? 3 : 2;
                int number = k + 5;
                t.both(x -> x.request(0, client, number, 1));
            }
            int last = place + 5;
            t.idle("lesser than entry " + place, -3, x -> x.request(0, 3, last - 1, 1));
            t.idle("entry " + place + " again", 2, x -> x.request(0, 3, last, 1));
            t.same("entry " + place);
        }
    }

    /** "if the first so many entries that are committed contain it, .. 1 is answered; else 2". */
    private static void requestAgain() {
        Twins t = new Twins(0);
        t.both(x -> x.request(0, 0, 1, 5));
        t.both(x -> x.request(0, 1, 1, 6));
        t.both(x -> x.request(0, 2, 1, 7));
        t.idle("none is committed", 2, x -> x.request(0, 0, 1, 5));
        t.both(x -> x.deliver(0));
        t.both(x -> x.deliver(2));
        t.both(x -> x.deliverLatest(OK, 1, 0));
        t.due("two are committed", 2, x -> x.commit(0));
        t.idle("the entry before the last committed one", 1, x -> x.request(0, 0, 1, 5));
        t.idle("the last committed entry", 1, x -> x.request(0, 1, 1, 6));
        t.idle("the first entry that is not committed", 2, x -> x.request(0, 2, 1, 7));
        t.same("request again");
        t.due("answer(0) is the total after its entry", 5, x -> x.answer(0));
        t.due("answer(1) is the total after its entry", 22, x -> x.answer(1));
        t.due("answered(2)", 0, x -> x.answered(2));
    }

    /** "value is of no meaning". */
    private static void requestAgainWithAnotherValue() {
        Twins t = new Twins(0);
        t.both(x -> x.request(0, 3, 4, 5));
        t.idle("another value, not committed", 2, x -> x.request(0, 3, 4, MAX));
        t.both(Group::drain);
        t.idle("another value, committed", 1, x -> x.request(0, 3, 4, MIN));
        t.due("entry(0, 0)", 5, x -> x.entry(0, 0));
        t.due("answer(3)", 8, x -> x.answer(3));
        t.same("request again with another value");
    }

    /** "Otherwise -4 (refused) if the log has 24 entries". */
    private static void requestWhenTheLogIsFull() {
        Twins t = new Twins(0);
        t.both(x -> fill(x, 22));
        t.due("the 23rd entry", 0, x -> x.request(0, 3, 23, 23));
        t.due("the 24th entry", 0, x -> x.request(0, 0, 24, 24));
        t.idle("a 25th entry", -4, x -> x.request(0, 1, 25, 25));
        t.idle("a 25th entry with the greatest number", -4, x -> x.request(0, 1, MAX, 25));
        t.due("length(0)", 24, x -> x.length(0));
        t.due("sent()", 48, x -> x.sent());
        t.same("request when the log is full");
    }

    /** "Otherwise -4": the answers -3, 1 and 2 come first. */
    private static void requestAgainWhenTheLogIsFull() {
        Twins t = new Twins(0);
        t.both(x -> fill(x, 24));
        t.idle("full: lesser number", -3, x -> x.request(0, 0, 23, 1));
        t.idle("full: same number", 2, x -> x.request(0, 0, 24, 1));
        t.both(Group::drain);
        t.idle("full and committed: same number", 1, x -> x.request(0, 0, 24, 1));
        t.idle("full and committed: greater number", -4, x -> x.request(0, 0, 25, 1));
        t.same("request again when the log is full");
    }

    /** A log that is full came whole to the others, who keep it through a change of views. */
    private static void fullLogInANewView() {
        Group x = new Group(0);
        fill(x, 24);
        x.drain();
        x.leadOfThree(1, 2);
        x.dueReplica("full in view 1", 1, NORMAL, 1, 24, x.commit(1));
        due("full in view 1: request", x.request(1, 0, 25, 1), -4);
        due("full in view 1: entry(1, 23)", x.entry(1, 23), 24);
        due("full in view 1: length(1)", x.length(1), 24);
    }

    // Promise 3

    /** "refused (-1) if it is not there": not yet sent. */
    private static void deliverOfNoMessage() {
        Twins t = new Twins(0);
        t.idle("none sent: deliver(0)", -1, x -> x.deliver(0));
        t.both(x -> x.request(0, 0, 1, 5));
        int[] none = {-1, 2, 3, 64, -64, MIN, MAX};
        for (int k : none) {
            t.idle("two sent: deliver(" + k + ")", -1, x -> x.deliver(k));
        }
        t.same("deliver of no message");
        t.due("deliver(0), the first", 2, x -> x.deliver(0));
        t.due("deliver(1), the last one sent before", 2, x -> x.deliver(1));
        t.due("deliver(3), the last one", 2, x -> x.deliver(3));
        t.idle("deliver(4)", -1, x -> x.deliver(4));
        t.due("next() is still the first", 2, x -> x.next());
        t.same("deliver of no message, then next");
    }

    /** "refused (-1) if it is not there": gone. */
    private static void deliverOfAMessageThatIsGone() {
        Twins t = new Twins(1);
        t.both(x -> x.request(0, 0, 1, 5));
        t.both(x -> {
            while (x.sent() < 68) {
                x.remind(0);
            }
        });
        t.idle("68 sent: deliver(3)", -1, x -> x.deliver(3));
        t.idle("68 sent: deliver(0)", -1, x -> x.deliver(0));
        t.due("68 sent: length(4)", 0, x -> x.length(4));
        t.same("deliver of a message that is gone");
        t.due("68 sent: deliver(4)", 2, x -> x.deliver(4));
        t.due("69 sent: length(1)", 1, x -> x.length(1));
        t.idle("69 sent: deliver(4)", -1, x -> x.deliver(4));
        t.due("69 sent: deliver(5)", 2, x -> x.deliver(5));
        t.same("deliver of a message that is gone, then of those that are there");
    }

    // Promise 4

    /** "refused (-1) if there is none": and then the first of all is still the first. */
    private static void nextOfNoMessage() {
        Twins t = new Twins(0);
        t.idle("none sent: next()", -1, x -> x.next());
        t.idle("none sent: next() again", -1, x -> x.next());
        t.both(x -> x.request(0, 0, 1, 5));
        t.due("next() is message 0", 2, x -> x.next());
        t.due("next() was to replica 1", 1, x -> x.length(1));
        t.due("next() was not to replica 2", 0, x -> x.length(2));
        t.same("next of no message");
    }

    /** "refused (-1) if there is none": after the latest message, as often as one likes. */
    private static void nextAfterTheLatest() {
        Twins t = new Twins(0);
        t.both(x -> x.request(0, 0, 1, 5));
        t.both(Group::drain);
        t.due("four sent", 4, x -> x.sent());
        t.idle("next() has none left", -1, x -> x.next());
        t.idle("next() has still none", -1, x -> x.next());
        t.both(x -> x.remind(0));
        t.due("next() is message 4", 2, x -> x.next());
        t.due("message 4 was to replica 1", letter(OK, 1, 0, 0), x -> x.lastMessage());
        t.same("next after the latest");
    }

    /** Reminds until so many messages are sent, but for one that an OK may lack. */
    private static void sendUpTo(Group x, int count) {
        while (x.sent() + 2 <= count) {
            x.remind(0);
        }
        if (x.sent() < count) {
            x.deliverLatest(PREPARE, 0, 2);
        }
        due("so many are sent", x.sent(), count);
    }

    /** "the first of all, if there was no such call": of those that are there. */
    private static void nextForTheFirstTime() {
        int[] counts = {63, 64, 65, 66};
        int[] addressees = {1, 1, 2, 1};
        for (int i = 0; i < counts.length; i++) {
            Group x = new Group(0);
            sendUpTo(x, counts[i]);
            due("first next() of " + counts[i], x.next(), 2);
            int reply = letter(OK, addressees[i], 0, 0);
            due("first next() of " + counts[i] + ": reply", x.message(counts[i]), reply);
        }
    }

    /** "the first one with a greater number than the one RECEIVED by the latest call of next". */
    private static void nextWhenSomeAreGone() {
        int[] counts = {64, 65, 66, 67};
        int[] repliers = {2, 2, 0, 1};
        for (int i = 0; i < counts.length; i++) {
            Group x = new Group(0);
            x.remind(0);
            due("next() is message 0", x.next(), 2);
            due("its reply is message 2", x.message(2), letter(OK, 1, 0, 0));
            sendUpTo(x, counts[i]);
            due("next() of " + counts[i], x.next(), 2);
            int reply = repliers[i] == 0 ? -1 : letter(OK, repliers[i], 0, 0);
            due("next() of " + counts[i] + ": reply", x.message(counts[i]), reply);
        }
    }

    /** "the latest call of next that was not refused": also one with the outcome 0 or 1. */
    private static void nextWithEveryOutcome() {
        Group x = new Group(0);
        x.suspect(2);
        x.crash(2);
        x.recover(2, 5);
        x.deliver(2);
        x.remind(0);
        due("next() is message 0, outdated", x.next(), 1);
        due("next() is message 1", x.next(), 2);
        due("next() is message 2", x.next(), 2);
        x.dueReplica("message 1 was a CHANGE", 1, CHANGING, 1, 0, 0);
        due("next() is message 3", x.next(), 2);
        due("message 3 was the RECOVERY", x.vector(1, 2), 5);
        due("next() is message 4, a RESPONSE", x.next(), 2);
        due("next() is message 5, a PREPARE of an older view", x.next(), 2);
        due("next() is message 6, to one that is RECOVERING", x.next(), 0);
        due("next() is message 7, a CHANGE of 1", x.message(7), letter(CHANGE, 1, 0, 1));
        due("next() is message 7", x.next(), 2);
        x.dueReplica("message 7 was received", 0, CHANGING, 1, 0, 0);
    }

    /** "the one RECEIVED by the latest call of next": not by deliver. */
    private static void nextIsNotMovedByDeliver() {
        Group x = new Group(0);
        x.request(0, 0, 1, 5);
        x.deliver(1);
        x.deliver(0);
        due("next() is message 0", x.next(), 2);
        due("its reply is of 1", x.message(4), letter(OK, 1, 0, 0));
        due("next() is message 1", x.next(), 2);
        due("its reply is of 2", x.message(5), letter(OK, 2, 0, 0));
        x.deliver(0);
        due("next() is message 2", x.next(), 2);
        due("an OK has no reply", x.sent(), 7);
        due("it was committed by that", x.commit(0), 1);
    }

    // Promises 5 and 6

    /** "refused (false) if there is no such replica". */
    private static void remindAndSuspectOfNoReplica() {
        for (int size = 0; size < 2; size++) {
            Twins t = new Twins(size);
            for (int replica : noReplicas(size)) {
                t.refused("remind(" + replica + ")", x -> x.remind(replica));
                t.refused("suspect(" + replica + ")", x -> x.suspect(replica));
            }
            t.same("remind and suspect of no replica");
            t.due("remind of the first", 1, x -> x.remind(0) ? 1 : 0);
            t.due("suspect of the first", 1, x -> x.suspect(0) ? 1 : 0);
            t.due("suspect of the last", 1, x -> x.suspect(x.replicas - 1) ? 1 : 0);
            t.same("remind and suspect of no replica, then of replicas");
        }
    }

    /** remind: "or it is not NORMAL". */
    private static void remindOfOneThatIsNotNormal() {
        Twins t = new Twins(0);
        t.both(x -> x.suspectTo(3, 0));
        t.refused("remind(0), CHANGING to view 3", x -> x.remind(0));
        t.both(x -> x.crash(0));
        t.refused("remind(0), DOWN", x -> x.remind(0));
        t.both(x -> x.recover(0, 1));
        t.refused("remind(0), RECOVERING", x -> x.remind(0));
        t.same("remind of one that is not NORMAL");
    }

    /** remind: "or not the primary of its view". */
    private static void remindOfABackup() {
        Twins t = new Twins(0);
        t.refused("view 0: remind(1)", x -> x.remind(1));
        t.refused("view 0: remind(2)", x -> x.remind(2));
        t.both(x -> x.leadOfThree(1, 2));
        t.due("0 is still in view 0: remind(0)", 1, x -> x.remind(0) ? 1 : 0);
        t.both(x -> x.deliverLatest(STATE, 1, 0));
        t.refused("view 1: remind(0)", x -> x.remind(0));
        t.same("remind of a backup");
        t.due("view 1: remind(1)", 1, x -> x.remind(1) ? 1 : 0);
    }

    /** suspect: "or it is neither NORMAL nor CHANGING". */
    private static void suspectOfEachStatus() {
        Twins t = new Twins(0);
        t.due("NORMAL: suspect(1)", 1, x -> x.suspect(1) ? 1 : 0);
        t.due("CHANGING: suspect(1)", 1, x -> x.suspect(1) ? 1 : 0);
        t.due("its view", 2, x -> x.view(1));
        t.both(x -> x.crash(1));
        t.refused("DOWN: suspect(1)", x -> x.suspect(1));
        t.both(x -> x.recover(1, 1));
        t.refused("RECOVERING: suspect(1)", x -> x.suspect(1));
        t.same("suspect of each status");
    }

    // Promise 7

    /** "refused (false) if there is no such replica". */
    private static void crashOfNoReplica() {
        for (int size = 0; size < 2; size++) {
            Twins t = new Twins(size);
            t.both(x -> x.request(0, 0, 1, 5));
            for (int replica : noReplicas(size)) {
                t.refused("crash(" + replica + ")", x -> x.crash(replica));
            }
            t.same("crash of no replica");
            t.due("crash of the last", 1, x -> x.crash(x.replicas - 1) ? 1 : 0);
            int[] enough = size == 0 ? new int[] {0, 1} : new int[] {0, 1, 2};
            t.both(x -> x.recoverWith(x.replicas - 1, 1, enough));
            t.due("crash of the first", 1, x -> x.crash(0) ? 1 : 0);
        }
    }

    /** "refused (false) if .. it is DOWN". */
    private static void crashOfOneThatIsDown() {
        Twins t = new Twins(1);
        t.both(x -> x.crash(1));
        t.refused("crash(1), DOWN, and no other is", x -> x.crash(1));
        t.same("crash of one that is DOWN");
        t.due("crash(2), as only one other is DOWN", 1, x -> x.crash(2) ? 1 : 0);
    }

    /** "or F others are DOWN or RECOVERING": 0 and 1 of three. */
    private static void crashOfThree() {
        Twins t = new Twins(0);
        t.both(x -> x.request(0, 0, 1, 5));
        t.both(Group::drain);
        t.due("no other is lost: crash(2)", 1, x -> x.crash(2) ? 1 : 0);
        t.refused("one other is DOWN: crash(0)", x -> x.crash(0));
        t.refused("one other is DOWN: crash(1)", x -> x.crash(1));
        t.both(x -> x.recover(2, 1));
        t.refused("one other is RECOVERING: crash(0)", x -> x.crash(0));
        t.refused("one other is RECOVERING: crash(1)", x -> x.crash(1));
        t.due("itself is RECOVERING: crash(2)", 1, x -> x.crash(2) ? 1 : 0);
        t.both(x -> x.recoverWith(2, 2, 0, 1));
        t.due("none is lost again", NORMAL, x -> x.status(2));
        t.same("crash of three");
        t.due("crash(0) then", 1, x -> x.crash(0) ? 1 : 0);
    }

    /** "or F others are DOWN or RECOVERING": 1 and 2 of five. */
    private static void crashOfFive() {
        Twins t = new Twins(1);
        t.both(x -> x.crash(3));
        t.due("one other is DOWN: crash(4)", 1, x -> x.crash(4) ? 1 : 0);
        t.refused("two others are DOWN", x -> x.crash(0));
        t.both(x -> x.recover(3, 1));
        t.refused("one is DOWN, one RECOVERING", x -> x.crash(0));
        t.both(x -> x.recover(4, 1));
        t.refused("two others are RECOVERING", x -> x.crash(0));
        t.due("itself and one other are RECOVERING", 1, x -> x.crash(3) ? 1 : 0);
        t.both(x -> x.recoverWith(3, 2, 0, 1, 2));
        t.due("one is RECOVERING, one is back", NORMAL, x -> x.status(3));
        t.same("crash of five");
        t.due("crash(0) then", 1, x -> x.crash(0) ? 1 : 0);
    }

    /** "F others": whichever they are. */
    private static void crashWithAnyOtherLost() {
        for (int lost = 0; lost < 3; lost++) {
            for (int tried = 0; tried < 3; tried++) {
                Group x = new Group(0);
                x.crash(lost);
                due(lost + " is DOWN: crash(" + tried + ")", x.crash(tried), false);
            }
        }
        for (int lost = 0; lost < 25; lost++) {
            for (int tried = 0; tried < 5; tried++) {
                Group x = new Group(1);
                boolean two = x.crash(lost / 5) & x.crash(lost % 5);
                String at = lost / 5 + " and " + lost % 5 + " are DOWN: crash(" + tried + ")";
                due(at, x.crash(tried), !two && tried != lost % 5);
            }
        }
    }

    /** "F others are DOWN or RECOVERING": those that are CHANGING do not count. */
    private static void crashWhenOthersAreChanging() {
        Group x = new Group(0);
        x.suspect(0);
        x.suspect(2);
        due("both others are CHANGING: crash(1)", x.crash(1), true);
        Group y = new Group(0);
        y.suspect(1);
        due("itself is CHANGING: crash(1)", y.crash(1), true);
        y.dueFresh("it was CHANGING", 1, DOWN);
    }

    /** A refused crash leaves what can't be asked: the votes kept, and what was acked. */
    private static void refusedCrashForgetsNothing() {
        Twins t = new Twins(1);
        t.both(x -> x.request(0, 0, 1, 5));
        t.both(x -> x.deliverLatest(PREPARE, 0, 1));
        t.both(x -> x.deliverLatest(OK, 1, 0));
        t.both(x -> x.deliverLatest(PREPARE, 0, 2));
        t.both(x -> x.suspect(1));
        t.both(x -> x.deliverLatest(CHANGE, 1, 2));
        t.both(x -> x.crash(3));
        t.both(x -> x.crash(4));
        t.refused("crash(0), which has one acked", x -> x.crash(0));
        t.refused("crash(2), which has a vote", x -> x.crash(2));
        t.both(x -> x.deliverLatest(OK, 2, 0));
        t.due("the second ack commits", 1, x -> x.commit(0));
        t.both(x -> x.suspect(0));
        t.both(x -> x.deliverLatest(CHANGE, 0, 2));
        t.due("the second vote makes a paper", letter(PAPER, 2, 1, 1), x -> x.lastMessage());
        t.same("refused crash");
    }

    /** "The replica is DOWN and FRESH". */
    private static void crashForgetsEverything() {
        Group x = new Group(1);
        x.crash(4);
        x.recoverWith(4, 3, 0, 1, 2);
        x.leadOfFive(2, 3, 4);
        x.request(2, 0, 1, 5);
        for (int other = 3; other < 5; other++) {
            x.deliverLatest(STATE, 2, other);
            x.deliverLatest(PREPARE, 2, other);
            x.deliverLatest(OK, other, 2);
        }
        x.dueReplica("before", 2, NORMAL, 2, 1, 1);
        due("before: vector(2, 4)", x.vector(2, 4), 3);
        int sent = x.sent();
        due("crash(2)", x.crash(2), true);
        x.dueFresh("crashed", 2, DOWN);
        due("crashed: entry(2, 0)", x.entry(2, 0), 0);
        due("crashed: origin(2, 0)", x.origin(2, 0), -1);
        due("crashed: sent()", x.sent(), sent);
    }

    // Promise 8

    /** "Refused (false) if there is no such replica". */
    private static void recoverOfNoReplica() {
        for (int size = 0; size < 2; size++) {
            Twins t = new Twins(size);
            t.both(x -> x.crash(0));
            for (int replica : noReplicas(size)) {
                t.refused("recover(" + replica + ", 9)", x -> x.recover(replica, 9));
            }
            t.same("recover of no replica");
            t.due("recover of the first", 1, x -> x.recover(0, 1) ? 1 : 0);
            Group y = new Group(size);
            y.crash(y.replicas - 1);
            due("recover of the last", y.recover(y.replicas - 1, 1), true);
        }
    }

    /** "it is neither DOWN nor RECOVERING", and a refused nonce is no earlier one. */
    private static void recoverOfEachStatus() {
        Twins t = new Twins(0);
        t.refused("NORMAL: recover(1, 9)", x -> x.recover(1, 9));
        t.both(x -> x.suspect(1));
        t.refused("CHANGING: recover(1, 9)", x -> x.recover(1, 9));
        t.refused("CHANGING: recover(1, MAX)", x -> x.recover(1, MAX));
        t.same("recover of one that is not lost");
        t.both(x -> x.crash(1));
        t.due("DOWN: recover(1, 1)", 1, x -> x.recover(1, 1) ? 1 : 0);
        t.due("RECOVERING: recover(1, 2)", 1, x -> x.recover(1, 2) ? 1 : 0);
        t.same("recover of each status");
    }

    /** "nonce is not greater than 0". */
    private static void recoverWithTooSmallANonce() {
        Twins t = new Twins(0);
        t.both(x -> x.crash(1));
        int[] nonces = {0, -1, MIN};
        for (int nonce : nonces) {
            t.refused("recover(1, " + nonce + ")", x -> x.recover(1, nonce));
        }
        t.same("recover with too small a nonce");
        t.due("recover(1, 1)", 1, x -> x.recover(1, 1) ? 1 : 0);
        t.due("vector(1, 1)", 1, x -> x.vector(1, 1));
    }

    /** "and than every nonce of this replica in an earlier call that was not refused". */
    private static void recoverWithAnEarlierNonce() {
        Twins t = new Twins(0);
        t.both(x -> x.crash(1));
        t.both(x -> x.recover(1, 5));
        t.refused("RECOVERING, after 5: recover(1, 4)", x -> x.recover(1, 4));
        t.refused("RECOVERING, after 5: recover(1, 5)", x -> x.recover(1, 5));
        t.due("RECOVERING, after 5: recover(1, 6)", 1, x -> x.recover(1, 6) ? 1 : 0);
        t.both(x -> x.crash(1));
        t.refused("DOWN, after 6: recover(1, 5)", x -> x.recover(1, 5));
        t.refused("DOWN, after 6: recover(1, 6)", x -> x.recover(1, 6));
        t.same("recover with an earlier nonce");
        t.both(x -> x.recoverWith(1, 7, 0, 2));
        t.due("it is back", NORMAL, x -> x.status(1));
        t.both(x -> x.crash(1));
        t.refused("crashed again, after 7: recover(1, 7)", x -> x.recover(1, 7));
        t.due("crashed again, after 7: recover(1, 8)", 1, x -> x.recover(1, 8) ? 1 : 0);
        t.same("recover with an earlier nonce, after it was back");
    }

    /** The greatest nonce, after which none is left. */
    private static void recoverWithTheGreatestNonce() {
        Twins t = new Twins(0);
        t.both(x -> x.crash(1));
        t.due("recover(1, MAX - 1)", 1, x -> x.recover(1, MAX - 1) ? 1 : 0);
        t.due("recover(1, MAX)", 1, x -> x.recover(1, MAX) ? 1 : 0);
        t.refused("recover(1, MAX) again", x -> x.recover(1, MAX));
        t.refused("recover(1, MIN)", x -> x.recover(1, MIN));
        t.due("vector(1, 1)", MAX, x -> x.vector(1, 1));
        t.due("RECOVERY to 0", 2, x -> x.deliverLatest(RECOVERY, 1, 0));
        t.due("vector(0, 1)", MAX, x -> x.vector(0, 1));
        t.same("recover with the greatest nonce");
    }

    /** "every nonce of this replica": those of others are of no meaning. */
    private static void recoverWithAnothersNonce() {
        Group x = new Group(1);
        x.crash(1);
        x.crash(2);
        due("recover(1, 9)", x.recover(1, 9), true);
        due("recover(2, 9)", x.recover(2, 9), true);
        x.crash(2);
        due("recover(2, 10)", x.recover(2, 10), true);
        due("recover(1, 10)", x.recover(1, 10), true);
    }

    /** "RECOVERING and FRESH": the responses kept are forgotten, but by a refused call they are not. */
    private static void recoverForgetsTheResponses() {
        Twins t = new Twins(0);
        t.both(x -> x.crash(1));
        t.both(x -> x.recover(1, 3));
        t.both(x -> x.deliverLatest(RECOVERY, 1, 0));
        t.both(x -> x.deliverLatest(RESPONSE, 0, 1));
        t.both(x -> x.recover(1, 4));
        t.both(x -> x.deliverLatest(RECOVERY, 1, 2));
        t.due("the first response to 4", 2, x -> x.deliverLatest(RESPONSE, 2, 1));
        t.due("that to 3 is forgotten", RECOVERING, x -> x.status(1));
        t.refused("recover(1, 4) again", x -> x.recover(1, 4));
        t.both(x -> x.deliverLatest(RECOVERY, 1, 0));
        t.both(x -> x.deliverLatest(RESPONSE, 0, 1));
        t.due("the second response to 4", NORMAL, x -> x.status(1));
        t.same("recover forgets the responses");
    }

    /** "FRESH, but its vector has nonce for itself": what it knew of others is forgotten. */
    private static void recoverForgetsTheVector() {
        Group x = new Group(0);
        x.crash(2);
        x.recoverWith(2, 6, 0, 1);
        x.crash(1);
        x.recover(1, 3);
        x.deliverLatest(RECOVERY, 1, 2);
        x.deliverLatest(RESPONSE, 2, 1);
        due("it knows of 2: vector(1, 2)", x.vector(1, 2), 6);
        due("recover(1, 4)", x.recover(1, 4), true);
        due("vector(1, 0)", x.vector(1, 0), 0);
        due("vector(1, 1)", x.vector(1, 1), 4);
        due("vector(1, 2)", x.vector(1, 2), 0);
        x.dueReplica("recovering again", 1, RECOVERING, 0, 0, 0);
    }

    // Promises 9 to 16

    /** "-1 if there is no such replica", and 0 for entry and total. */
    private static void looksAtNoReplica() {
        for (int size = 0; size < 2; size++) {
            Group x = new Group(size);
            x.request(0, 0, 1, 5);
            x.drain();
            for (int replica : noReplicas(size)) {
                due("status(" + replica + ")", x.status(replica), -1);
                due("view(" + replica + ")", x.view(replica), -1);
                due("length(" + replica + ")", x.length(replica), -1);
                due("commit(" + replica + ")", x.commit(replica), -1);
                due("entry(" + replica + ", 0)", x.entry(replica, 0), 0);
                due("origin(" + replica + ", 0)", x.origin(replica, 0), -1);
                due("total(" + replica + ")", x.total(replica), 0);
                due("vector(" + replica + ", 0)", x.vector(replica, 0), -1);
            }
        }
    }

    /** The first and the last replica are there for every look. */
    private static void looksAtTheFirstAndLastReplica() {
        for (int size = 0; size < 2; size++) {
            Group x = new Group(size);
            int last = x.replicas - 1;
            x.request(0, 1, 2, 5);
            x.drain();
            x.remind(0);
            x.deliverLatest(PREPARE, 0, last);
            int[] ends = {0, last};
            for (int replica : ends) {
                x.dueReplica("ends", replica, NORMAL, 0, 1, 1);
                due("ends: entry(" + replica + ", 0)", x.entry(replica, 0), 5);
                due("ends: origin(" + replica + ", 0)", x.origin(replica, 0), 9);
                due("ends: total(" + replica + ")", x.total(replica), 6);
                due("ends: vector(" + replica + ", 0)", x.vector(replica, 0), 0);
            }
        }
    }

    /** A look changes nothing, not even one at nothing. */
    private static void looksChangeNothing() {
        Twins t = new Twins(0);
        t.both(x -> x.request(0, 1, 2, 5));
        t.idle("all looks", 0, x -> x.everything().isEmpty() ? 1 : 0);
        t.idle("message(-1)", -1, x -> x.message(-1));
        t.idle("entry(0, 1)", 0, x -> x.entry(0, 1));
        t.idle("vector(3, 3)", -1, x -> x.vector(3, 3));
        t.both(Group::drain);
        t.same("looks");
    }

    /** status: "0 NORMAL, 1 CHANGING, 2 RECOVERING, 3 DOWN". */
    private static void statuses() {
        Group x = new Group(0);
        due("NORMAL", x.status(2), 0);
        x.suspect(2);
        due("CHANGING", x.status(2), 1);
        x.crash(2);
        due("DOWN", x.status(2), 3);
        x.recover(2, 1);
        due("RECOVERING", x.status(2), 2);
    }

    /** entry: "0 if there is no such .. entry"; origin: "-1". Entries need not be committed. */
    private static void entriesAtTheEndsOfTheLog() {
        Group x = new Group(0);
        due("empty: entry(0, 0)", x.entry(0, 0), 0);
        due("empty: origin(0, 0)", x.origin(0, 0), -1);
        x.request(0, 1, 2, 5);
        x.request(0, 3, 7, 6);
        int[] none = {-1, 2, 3, 24, MIN, MAX};
        for (int k : none) {
            due("entry(0, " + k + ")", x.entry(0, k), 0);
            due("origin(0, " + k + ")", x.origin(0, k), -1);
            due("entry(1, " + k + ")", x.entry(1, k), 0);
            due("origin(1, " + k + ")", x.origin(1, k), -1);
        }
        due("entry(0, 0)", x.entry(0, 0), 5);
        due("entry(0, 1)", x.entry(0, 1), 6);
        due("origin(0, 0)", x.origin(0, 0), 9);
        due("origin(0, 1)", x.origin(0, 1), 31);
    }

    /** "at most 24": the last entry of a full log, and the one after it. */
    private static void entriesOfAFullLog() {
        Group x = new Group(0);
        fill(x, 24);
        due("full: entry(0, 0)", x.entry(0, 0), 1);
        due("full: entry(0, 23)", x.entry(0, 23), 24);
        due("full: origin(0, 23)", x.origin(0, 23), 96);
        due("full: entry(0, 24)", x.entry(0, 24), 0);
        due("full: origin(0, 24)", x.origin(0, 24), -1);
    }

    /** entry: values of every size, a 0 that is an entry's among them. */
    private static void entriesOfEveryValue() {
        Group x = new Group(0);
        int[] values = {0, -1, MIN, MAX};
        for (int k = 0; k < values.length; k++) {
            x.request(0, 0, k + 1, values[k]);
        }
        x.drain();
        x.dueValues("primary", 0, values);
        x.dueValues("backup", 2, values);
    }

    /** origin: "times 4, plus its client (wrapping as ints do)". */
    private static void originWraps() {
        int[] numbers = {1, (1 << 29) - 1, 1 << 29, (1 << 30) - 1, 1 << 30, MAX};
        int[] origins = {4, MAX - 3, MIN, -4, 0, -4};
        for (int i = 0; i < numbers.length; i++) {
            for (int client = 0; client < 4; client++) {
                Group x = new Group(0);
                x.request(0, client, numbers[i], 5);
                due("origin of " + numbers[i] + " of " + client, x.origin(0, 0), origins[i] + client);
            }
        }
    }

    /** total: "the first so many entries of the replica's log as are committed". */
    private static void totalOfWhatIsCommitted() {
        Group x = new Group(0);
        due("empty: total(0)", x.total(0), 0);
        x.request(0, 0, 1, 5);
        x.request(0, 1, 1, 6);
        x.request(0, 2, 1, 7);
        int[] totals = {0, 5, 22, 75};
        due("0 of 3: total(0)", x.total(0), totals[0]);
        for (int count = 1; count <= 3; count++) {
            x.deliver(2 * count - 2);
            x.deliverLatest(OK, 1, 0);
            due(count + " of 3: commit(0)", x.commit(0), count);
            due(count + " of 3: total(0)", x.total(0), totals[count]);
            due(count + " of 3: total(1)", x.total(1), 0);
        }
    }

    /** "3 * (the total before) + the entry's value + its client, wrapping as ints do". */
    private static void totalWraps() {
        int[] values = {MAX - 3, MAX - 2, MAX, MIN, -3};
        int[] totals = {MAX, MIN, MIN + 2, MIN + 3, 0};
        for (int i = 0; i < values.length; i++) {
            Group x = new Group(0);
            x.request(0, 3, 1, values[i]);
            x.drain();
            due("total after " + values[i] + " of client 3", x.total(0), totals[i]);
            due("answer after " + values[i] + " of client 3", x.answer(3), totals[i]);
        }
    }

    /** "3 * (the total before)" wraps too. */
    private static void totalBeforeWraps() {
        int[] firsts = {715827882, 715827883, -715827882, -715827883, MAX};
        int[] totals = {MAX - 1, MIN + 1, MIN + 2, MAX, MAX - 2};
        for (int i = 0; i < firsts.length; i++) {
            Group x = new Group(0);
            x.request(0, 0, 1, firsts[i]);
            x.request(0, 0, 2, 0);
            x.drain();
            due("total after " + firsts[i] + " and 0", x.total(0), totals[i]);
            due("answer after " + firsts[i] + " and 0", x.answer(0), totals[i]);
        }
    }

    /** "wrapping as ints do": through a whole log of 24 entries. */
    private static void totalOfAFullLog() {
        Group x = new Group(0);
        int total = 0;
        for (int number = 1; number <= 24; number++) {
            x.request(0, 1, number, MAX - number);
            total = 3 * total + MAX - number + 1;
        }
        x.drain();
        due("full: total(0)", x.total(0), total);
        due("full: answer(1)", x.answer(1), total);
        due("full: answered(1)", x.answered(1), 24);
    }

    /** vector: "-1 if there is no such replica or other". */
    private static void vectorOfNoOther() {
        for (int size = 0; size < 2; size++) {
            Group x = new Group(size);
            int last = x.replicas - 1;
            for (int other : noReplicas(size)) {
                due("vector(0, " + other + ")", x.vector(0, other), -1);
                due("vector(" + last + ", " + other + ")", x.vector(last, other), -1);
                due("vector(" + other + ", " + last + ")", x.vector(other, last), -1);
                due("vector(" + other + ", " + other + ")", x.vector(other, other), -1);
            }
            x.crash(last);
            x.recover(last, 4);
            x.deliverLatest(RECOVERY, last, 0);
            due("vector(0, last)", x.vector(0, last), 4);
            due("vector(last, last)", x.vector(last, last), 4);
            due("vector(last, 0)", x.vector(last, 0), 0);
            due("vector(0, 0)", x.vector(0, 0), 0);
        }
    }

    // Promises 17 to 20

    /** sent: "How many messages were sent": those that are gone too, and none by a refused call. */
    private static void sentCountsAll() {
        Group x = new Group(1);
        due("none: sent()", x.sent(), 0);
        x.remind(1);
        x.request(1, 0, 1, 5);
        x.request(0, 0, 0, 5);
        x.recover(0, 1);
        due("refused: sent()", x.sent(), 0);
        for (int times = 1; times <= 40; times++) {
            x.remind(0);
            due("sent()", x.sent(), 4 * times);
        }
        x.crash(1);
        due("crash sends none: sent()", x.sent(), 160);
        due("an outcome of 0 sends none", x.deliver(156), 0);
        due("an outcome of 0: sent()", x.sent(), 160);
    }

    /** message: "-1 if it is not there". */
    private static void messageThatIsNotThere() {
        Group x = new Group(0);
        int[] none = {0, -1, 1, MIN, MAX};
        for (int k : none) {
            due("none sent: message(" + k + ")", x.message(k), -1);
        }
        x.remind(0);
        due("two sent: message(-1)", x.message(-1), -1);
        due("two sent: message(0)", x.message(0), letter(PREPARE, 0, 1, 0));
        due("two sent: message(1)", x.message(1), letter(PREPARE, 0, 2, 0));
        due("two sent: message(2)", x.message(2), -1);
        due("two sent: message(64)", x.message(64), -1);
        due("two sent: message(-62)", x.message(-62), -1);
        due("two sent: message(MIN)", x.message(MIN), -1);
        due("two sent: message(MAX)", x.message(MAX), -1);
    }

    /** "the latest 64 are THERE, older ones are gone". */
    private static void theLatest64AreThere() {
        int[] counts = {63, 64, 65, 66, 127, 128, 129, 200};
        for (int count : counts) {
            Group x = new Group(0);
            sendUpTo(x, count);
            int first = Math.max(0, count - 64);
            String at = count + " sent: ";
            due(at + "the one before the first", x.message(first - 1), -1);
            due(at + "the first is there", x.message(first) == -1, false);
            due(at + "the last is there", x.message(count - 1) == -1, false);
            due(at + "the one after the last", x.message(count), -1);
            due(at + "64 before the last", x.message(count - 65), -1);
            due(at + "deliver the one before the first", x.deliver(first - 1), -1);
            due(at + "deliver the one after the last", x.deliver(count), -1);
            due(at + "deliver the first", x.deliver(first), 2);
        }
    }

    /** message: "its kind (1 to 8) + 16 * sender + 128 * addressee + 1024 * view". */
    private static void messagesOfEveryKind() {
        Group x = new Group(1);
        x.leadOfFive(4, 3, 0);
        due("CHANGE", x.message(x.latest(CHANGE, 3, 4)), 5 + 16 * 3 + 128 * 4 + 1024 * 4);
        due("PAPER", x.message(x.latest(PAPER, 3, 4)), 6 + 16 * 3 + 128 * 4 + 1024 * 4);
        due("STATE", x.message(x.latest(STATE, 4, 0)), 4 + 16 * 4 + 1024 * 4);
        x.deliverLatest(STATE, 4, 3);
        due("OK", x.lastMessage(), 2 + 16 * 3 + 128 * 4 + 1024 * 4);
        x.remind(4);
        due("PREPARE", x.lastMessage(), 1 + 16 * 4 + 128 * 3 + 1024 * 4);
        x.deliverLatest(PREPARE, 4, 0);
        due("FETCH", x.lastMessage(), 3 + 128 * 4 + 1024 * 4);
        x.crash(1);
        x.recover(1, 1);
        due("RECOVERY", x.lastMessage(), 7 + 16 + 128 * 4);
        x.deliverLatest(RECOVERY, 1, 4);
        due("RESPONSE", x.lastMessage(), 8 + 16 * 4 + 128 + 1024 * 4);
    }

    /** answered: "-1 if there is no such client"; answer: "0". */
    private static void clientsThatAreNoSuchOnes() {
        Group x = new Group(0);
        for (int client = 0; client < 4; client++) {
            due("at first: answered(" + client + ")", x.answered(client), 0);
            due("at first: answer(" + client + ")", x.answer(client), 0);
            x.request(0, client, 7 + client, 1);
        }
        x.drain();
        for (int client : NO_CLIENTS) {
            due("answered(" + client + ")", x.answered(client), -1);
            due("answer(" + client + ")", x.answer(client), 0);
        }
        int[] answers = {1, 5, 18, 58};
        for (int client = 0; client < 4; client++) {
            due("answered(" + client + ")", x.answered(client), 7 + client);
            due("answer(" + client + ")", x.answer(client), answers[client]);
        }
    }

    // What it is

    /** "An object is used for at most 512 calls": up to the last of them all holds. */
    private static void theLastOf512Calls() {
        for (int last = 0; last < 5; last++) {
            Group x = new Group(1);
            while (x.callsLeft() > 1) {
                x.suspect(4);
            }
            switch (last) {
                case 0 -> due("512th call: view(4)", x.view(4), 511);
                case 1 -> due("512th call: sent()", x.sent(), 511 * 4);
                case 2 -> due("512th call: message", x.message(511 * 4 - 1), letter(CHANGE, 4, 3, 511));
                case 3 -> due("512th call: next()", x.next(), 2);
                default -> due("512th call: suspect(4)", x.suspect(4), true);
            }
        }
    }

    /** The dearest calls there are, as many as there can be, with a full log. */
    private static void a512CallsWithAFullLog() {
        Group x = new Group(1);
        fill(x, 24);
        while (x.callsLeft() > 4) {
            x.next();
        }
        x.dueReplica("full", 0, NORMAL, 0, 24, 24);
    }

    private static void newObjectsAndRequests() {
        evenAndOddSizes();
        noMessagesAtFirst();
        freshAtFirst();
        requestToNoReplica();
        requestOfNoClient();
        requestWithTooSmallANumber();
        requestThatIsWrongTwice();
        requestToOneThatIsNotNormal();
        requestToABackup();
        requestToABackupThatHasIt();
        requestWithALesserNumber();
        requestWithALesserNumberThanOthers();
        requestWithALesserNumberAnywhere();
        requestAgain();
        requestAgainWithAnotherValue();
        requestWhenTheLogIsFull();
        requestAgainWhenTheLogIsFull();
        fullLogInANewView();
    }

    private static void receiving() {
        deliverOfNoMessage();
        deliverOfAMessageThatIsGone();
        nextOfNoMessage();
        nextAfterTheLatest();
        nextForTheFirstTime();
        nextWhenSomeAreGone();
        nextWithEveryOutcome();
        nextIsNotMovedByDeliver();
    }

    private static void callsOfReplicas() {
        remindAndSuspectOfNoReplica();
        remindOfOneThatIsNotNormal();
        remindOfABackup();
        suspectOfEachStatus();
        crashOfNoReplica();
        crashOfOneThatIsDown();
        crashOfThree();
        crashOfFive();
        crashWithAnyOtherLost();
        crashWhenOthersAreChanging();
        refusedCrashForgetsNothing();
        crashForgetsEverything();
        recoverOfNoReplica();
        recoverOfEachStatus();
        recoverWithTooSmallANonce();
        recoverWithAnEarlierNonce();
        recoverWithTheGreatestNonce();
        recoverWithAnothersNonce();
        recoverForgetsTheResponses();
        recoverForgetsTheVector();
    }

    private static void looks() {
        looksAtNoReplica();
        looksAtTheFirstAndLastReplica();
        looksChangeNothing();
        statuses();
        entriesAtTheEndsOfTheLog();
        entriesOfAFullLog();
        entriesOfEveryValue();
        originWraps();
        totalOfWhatIsCommitted();
        totalWraps();
        totalBeforeWraps();
        totalOfAFullLog();
        vectorOfNoOther();
        sentCountsAll();
        messageThatIsNotThere();
        theLatest64AreThere();
        messagesOfEveryKind();
        clientsThatAreNoSuchOnes();
    }

    public static void main(String[] args) {
        newObjectsAndRequests();
        receiving();
        callsOfReplicas();
        looks();
        theLastOf512Calls();
        a512CallsWithAFullLog();
        end();
    }
}
