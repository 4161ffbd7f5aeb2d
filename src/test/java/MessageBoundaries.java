/**
 * The boundary cases of messages and their outcomes, in the document's terms. Each sentence that
 * names one has a test of its own, with what is just inside, on and just outside it. A receiving
 * that must change nothing is tried on one of two twins.
 */
public final class MessageBoundaries extends Due {
    // Messages

    /** "The PRIMARY of a view v is replica v mod N": papers go to it. */
    private static void primaries() {
        for (int view = 1; view <= 7; view++) {
            Group x = new Group(0);
            int paper = (view + 1) % 3;
            x.suspectTo(view, (view + 2) % 3);
            x.deliverLatest(CHANGE, (view + 2) % 3, paper);
            due("view " + view + " of three", x.lastMessage(), letter(PAPER, paper, view % 3, view));
        }
        for (int view = 1; view <= 11; view++) {
            Group x = new Group(1);
            int paper = (view + 1) % 5;
            x.suspectTo(view, (view + 2) % 5);
            x.suspectTo(view, (view + 3) % 5);
            x.deliverLatest(CHANGE, (view + 2) % 5, paper);
            x.deliverLatest(CHANGE, (view + 3) % 5, paper);
            due("view " + view + " of five", x.lastMessage(), letter(PAPER, paper, view % 5, view));
        }
    }

    /** "Sending TO ALL is sending one message to each other replica, in the order of their numbers." */
    private static void toAllInOrder() {
        for (int size = 0; size < 2; size++) {
            Group x = new Group(size);
            int k = 0;
            for (int sender = 0; sender < x.replicas; sender++) {
                x.suspect(sender);
                for (int to = 0; to < x.replicas; to++) {
                    if (to != sender) {
                        due("message(" + k + ")", x.message(k), letter(CHANGE, sender, to, 1));
                        k++;
                    }
                }
                due("sent()", x.sent(), k);
            }
        }
    }

    /** "can be RECEIVED, by its addressee r, as often as one likes". */
    private static void receivedOften() {
        Group x = new Group(0);
        x.request(0, 0, 1, 5);
        for (int times = 1; times <= 20; times++) {
            due("deliver(1)", x.deliver(1), 2);
            due("deliver(1): sent()", x.sent(), 2 + times);
            due("deliver(1): reply", x.lastMessage(), letter(OK, 2, 0, 0));
        }
        x.dueReplica("received often", 2, NORMAL, 0, 1, 0);
        x.dueReplica("only by the addressee", 1, NORMAL, 0, 0, 0);
    }

    /** "a view .. which are the sender's as they are when it is sent". */
    private static void viewOfWhenItWasSent() {
        Group x = new Group(0);
        x.suspect(0);
        x.suspect(0);
        due("first CHANGE", x.message(1), letter(CHANGE, 0, 2, 1));
        due("second CHANGE", x.message(3), letter(CHANGE, 0, 2, 2));
        x.deliver(1);
        x.dueReplica("the first one received", 2, CHANGING, 1, 0, 0);
        x.crash(0);
        due("the sender is DOWN", x.message(3), letter(CHANGE, 0, 2, 2));
        due("its message is received", x.deliver(3), 2);
        x.dueReplica("the second one received", 2, CHANGING, 2, 0, 0);
    }

    /** "a vector, which are the sender's as they are when it is sent". */
    private static void vectorOfWhenItWasSent() {
        Group x = new Group(0);
        x.suspect(1);
        x.crash(2);
        x.recover(2, 4);
        x.deliverLatest(RECOVERY, 2, 1);
        due("1 knows then", x.vector(1, 2), 4);
        due("its CHANGE of before", x.deliver(0), 2);
        due("0 doesn't know by it", x.vector(0, 2), 0);
        x.suspect(1);
        due("its CHANGE of after", x.deliverLatest(CHANGE, 1, 0), 2);
        due("0 knows by it", x.vector(0, 2), 4);
    }

    // Outcomes

    private static final int[] KINDS_TO_1 = {PREPARE, OK, FETCH, STATE, CHANGE, PAPER, RECOVERY};
    private static final int[] THEIR_SENDERS = {0, 2, 0, 0, 2, 2, 2};

    /** Every kind of message is sent to replica 1 of three, which is RECOVERING at last. */
    private static void sendEveryKindTo1(Group x) {
        x.request(0, 0, 1, 5);
        x.request(0, 0, 2, 6);
        x.deliverLatest(PREPARE, 0, 1);
        x.deliverLatest(FETCH, 1, 0);
        x.leadOfThree(1, 2);
        x.deliverLatest(STATE, 1, 2);
        x.remind(1);
        x.deliverLatest(PREPARE, 1, 0);
        x.crash(2);
        x.recoverWith(2, 7, 0, 1);
        x.crash(1);
        x.recover(1, 3);
        x.deliverLatest(RECOVERY, 1, 0);
        x.deliverLatest(RECOVERY, 1, 2);
    }

    private static void dueUnheardBy1(Twins t, String at) {
        for (int i = 0; i < KINDS_TO_1.length; i++) {
            int kind = KINDS_TO_1[i];
            int sender = THEIR_SENDERS[i];
            t.idle(at + ": kind " + kind, 0, x -> x.deliverLatest(kind, sender, 1));
        }
    }

    /** "0, and nothing changes, if r is DOWN". */
    private static void unheardByOneThatIsDown() {
        Twins t = new Twins(0);
        t.both(MessageBoundaries::sendEveryKindTo1);
        t.both(x -> x.crash(1));
        dueUnheardBy1(t, "DOWN");
        t.idle("DOWN: RESPONSE of 0", 0, x -> x.deliverLatest(RESPONSE, 0, 1));
        t.idle("DOWN: RESPONSE of 2", 0, x -> x.deliverLatest(RESPONSE, 2, 1));
        t.both(x -> x.dueFresh("DOWN", 1, DOWN));
        t.same("DOWN");
    }

    /** "or r is RECOVERING and the kind is not RESPONSE". */
    private static void unheardByOneThatIsRecovering() {
        Twins t = new Twins(0);
        t.both(MessageBoundaries::sendEveryKindTo1);
        dueUnheardBy1(t, "RECOVERING");
        t.due("it knows nothing of 2", 0, x -> x.vector(1, 2));
        t.due("a RESPONSE", 2, x -> x.deliverLatest(RESPONSE, 0, 1));
        t.same("RECOVERING");
    }

    /** 0 comes before 1: to one that is RECOVERING what is outdated and no RESPONSE is 0. */
    private static void unheardThoughOutdated() {
        Twins t = new Twins(0);
        t.both(MessageBoundaries::sendEveryKindTo1);
        t.due("a RESPONSE of 2", 2, x -> x.deliverLatest(RESPONSE, 2, 1));
        t.due("it knows of 2's crash", 7, x -> x.vector(1, 2));
        dueUnheardBy1(t, "RECOVERING and outdated");
        t.same("RECOVERING and outdated");
    }

    /** "or the kind is RESPONSE and r is not RECOVERING", also if it is outdated. */
    private static void responseToOneThatIsNotRecovering() {
        Twins t = new Twins(0);
        t.both(MessageBoundaries::sendEveryKindTo1);
        t.due("2 is NORMAL", NORMAL, x -> x.status(2));
        t.due("2 knows of 1's crash", 3, x -> x.vector(2, 1));
        t.idle("NORMAL: RESPONSE of 0", 0, x -> x.deliverLatest(RESPONSE, 0, 2));
        t.idle("NORMAL: RESPONSE of 1, outdated", 0, x -> x.deliverLatest(RESPONSE, 1, 2));
        t.both(x -> x.suspect(2));
        t.idle("CHANGING: RESPONSE of 0", 0, x -> x.deliverLatest(RESPONSE, 0, 2));
        t.idle("CHANGING: RESPONSE of 1, outdated", 0, x -> x.deliverLatest(RESPONSE, 1, 2));
        t.same("RESPONSE to one that is not RECOVERING");
    }

    /** The same with a RESPONSE that would tell of a crash. */
    private static void responseWithNewsToOneThatIsNotRecovering() {
        Twins t = new Twins(1);
        t.both(x -> x.crash(4));
        t.both(x -> x.recoverWith(4, 1, 0, 1));
        t.both(x -> x.deliverLatest(RECOVERY, 4, 2));
        t.both(x -> x.crash(3));
        t.both(x -> x.recover(3, 9));
        t.both(x -> x.deliverLatest(RECOVERY, 3, 2));
        t.both(x -> x.deliver(x.latest(RESPONSE, 2, 4)));
        t.due("4 is NORMAL", NORMAL, x -> x.status(4));
        t.both(x -> x.deliverLatest(RECOVERY, 4, 2));
        t.idle("NORMAL: RESPONSE with news", 0, x -> x.deliverLatest(RESPONSE, 2, 4));
        t.both(x -> x.suspect(4));
        t.idle("CHANGING: RESPONSE with news", 0, x -> x.deliverLatest(RESPONSE, 2, 4));
        t.due("4 doesn't know by it", 0, x -> x.vector(4, 3));
        t.same("RESPONSE with news to one that is not RECOVERING");
    }

    /** "0, and nothing changes": the responses and votes that are kept stay. */
    private static void unheardForgetsNothing() {
        Twins t = new Twins(1);
        t.both(x -> x.remind(0));
        t.both(x -> x.crash(4));
        t.both(x -> x.recoverWith(4, 1, 0, 1));
        t.idle("RECOVERING: a PREPARE", 0, x -> x.deliver(3));
        t.both(x -> x.deliverLatest(RECOVERY, 4, 2));
        t.both(x -> x.deliverLatest(RESPONSE, 2, 4));
        t.due("three responses", NORMAL, x -> x.status(4));
        t.both(x -> x.suspect(2));
        t.both(x -> x.deliverLatest(CHANGE, 2, 4));
        t.idle("CHANGING: a RESPONSE", 0, x -> x.deliverLatest(RESPONSE, 1, 4));
        t.both(x -> x.suspect(3));
        t.both(x -> x.deliverLatest(CHANGE, 3, 4));
        t.due("two votes", letter(PAPER, 4, 1, 1), x -> x.lastMessage());
        t.same("unheard");
    }

    /** "1, .. if the message's vector has for s less than r's vector has for s". */
    private static void outdatedBySender() {
        Twins t = new Twins(0);
        t.both(x -> x.crash(2));
        t.both(x -> x.recover(2, 6));
        t.both(x -> x.recover(2, 7));
        t.both(x -> x.recover(2, 8));
        t.due("RECOVERY of 7, 0 is known", 2, x -> x.deliver(2));
        t.idle("RECOVERY of 6, 7 is known", 1, x -> x.deliver(0));
        t.due("RECOVERY of 7, 7 is known", 2, x -> x.deliver(2));
        t.due("RECOVERY of 8, 7 is known", 2, x -> x.deliver(4));
        t.idle("RECOVERY of 7, 8 is known", 1, x -> x.deliver(2));
        t.idle("RECOVERY of 6, 8 is known", 1, x -> x.deliver(0));
        t.due("vector(0, 2)", 8, x -> x.vector(0, 2));
        t.same("outdated by sender");
    }

    /** Every kind but RESPONSE can be outdated, and then changes nothing. */
    private static void everyKindOutdated() {
        Twins t = new Twins(0);
        t.both(x -> x.request(0, 0, 1, 5));
        t.both(x -> x.request(0, 0, 2, 6));
        t.both(x -> x.deliverLatest(PREPARE, 0, 2));
        t.both(x -> x.deliver(x.latest(FETCH, 2, 0)));
        t.both(x -> x.suspect(0));
        t.both(x -> x.crash(0));
        t.both(x -> x.recover(0, 4));
        t.both(x -> x.deliverLatest(RECOVERY, 0, 2));
        t.due("2 knows", 4, x -> x.vector(2, 0));
        t.idle("PREPARE", 1, x -> x.deliverLatest(PREPARE, 0, 2));
        t.idle("STATE", 1, x -> x.deliverLatest(STATE, 0, 2));
        t.idle("CHANGE", 1, x -> x.deliverLatest(CHANGE, 0, 2));
        t.both(x -> x.dueReplica("outdated", 2, NORMAL, 0, 0, 0));
        t.same("outdated PREPARE, STATE and CHANGE");
    }

    /** The same for the kinds that a primary gets. */
    private static void everyKindOutdatedToAPrimary() {
        Twins t = new Twins(0);
        t.both(x -> x.request(0, 0, 1, 5));
        t.both(x -> x.request(0, 0, 2, 6));
        t.both(x -> x.deliver(3));
        t.both(x -> x.deliver(1));
        t.both(x -> x.suspectTo(3, 1));
        t.both(x -> x.deliverLatest(CHANGE, 1, 2));
        t.both(x -> x.crash(2));
        t.both(x -> x.recover(2, 4));
        t.both(x -> x.deliverLatest(RECOVERY, 2, 0));
        t.idle("FETCH", 1, x -> x.deliverLatest(FETCH, 2, 0));
        t.idle("OK", 1, x -> x.deliverLatest(OK, 2, 0));
        t.idle("PAPER", 1, x -> x.deliverLatest(PAPER, 2, 0));
        t.both(x -> x.dueReplica("outdated", 0, NORMAL, 0, 2, 0));
        t.same("outdated FETCH, OK and PAPER");
    }

    /** "1, and nothing changes": not even by what an outdated message tells of others. */
    private static void outdatedWithNews() {
        Twins t = new Twins(1);
        t.both(x -> x.crash(4));
        t.both(x -> x.recoverWith(4, 7, 0, 1, 2));
        t.both(x -> x.suspect(1));
        t.both(x -> x.crash(1));
        t.both(x -> x.recover(1, 2));
        t.both(x -> x.deliverLatest(RECOVERY, 1, 3));
        t.idle("a CHANGE that knows of 4", 1, x -> x.deliverLatest(CHANGE, 1, 3));
        t.due("vector(3, 1)", 2, x -> x.vector(3, 1));
        t.due("vector(3, 4)", 0, x -> x.vector(3, 4));
        t.same("outdated with news");
    }

    /** Only the sender's number makes a message outdated; r's numbers don't sink. */
    private static void othersNumbersMayBeLess() {
        Group x = new Group(1);
        x.crash(4);
        x.recover(4, 7);
        x.deliverLatest(RECOVERY, 4, 0);
        due("0 knows", x.vector(0, 4), 7);
        x.suspect(3);
        due("a CHANGE of 3, which doesn't know", x.deliverLatest(CHANGE, 3, 0), 2);
        due("0 still knows", x.vector(0, 4), 7);
        x.dueReplica("it was received", 0, CHANGING, 1, 0, 0);
    }

    /** "or the kind is RESPONSE and the message's vector has for r another number". */
    private static void responseToAnotherNonce() {
        Twins t = new Twins(0);
        t.both(x -> x.crash(1));
        t.both(x -> x.recover(1, 3));
        t.both(x -> x.deliver(0));
        t.both(x -> x.deliver(1));
        t.both(x -> x.recover(1, 4));
        t.idle("RESPONSE of 0 to 3", 1, x -> x.deliver(2));
        t.idle("RESPONSE of 2 to 3", 1, x -> x.deliver(3));
        t.due("RECOVERING", RECOVERING, x -> x.status(1));
        t.both(x -> x.deliverLatest(RECOVERY, 1, 0));
        t.due("RESPONSE of 0 to 4", 2, x -> x.deliverLatest(RESPONSE, 0, 1));
        t.idle("RESPONSE of 2 to 3", 1, x -> x.deliver(3));
        t.same("response to another nonce");
        t.both(x -> x.deliverLatest(RECOVERY, 1, 2));
        t.due("RESPONSE of 2 to 4", 2, x -> x.deliverLatest(RESPONSE, 2, 1));
        t.due("NORMAL", NORMAL, x -> x.status(1));
    }

    /** Such a RESPONSE changes nothing, though it knows of another's crash. */
    private static void responseToAnotherNonceWithNews() {
        Twins t = new Twins(1);
        t.both(x -> x.crash(3));
        t.both(x -> x.recover(3, 9));
        t.both(x -> x.deliverLatest(RECOVERY, 3, 1));
        t.both(x -> x.crash(4));
        t.both(x -> x.recover(4, 1));
        t.both(x -> x.deliverLatest(RECOVERY, 4, 1));
        t.both(x -> x.recover(4, 2));
        t.idle("RESPONSE to 1", 1, x -> x.deliverLatest(RESPONSE, 1, 4));
        t.due("vector(4, 3)", 0, x -> x.vector(4, 3));
        t.same("response to another nonce, with news");
    }

    /** A RESPONSE can be outdated by its sender's number too. */
    private static void responseOutdatedBySender() {
        Twins t = new Twins(1);
        t.both(x -> x.crash(4));
        t.both(x -> x.recover(4, 1));
        t.both(x -> x.deliverLatest(RECOVERY, 4, 1));
        t.both(x -> x.crash(1));
        t.both(x -> x.recover(1, 5));
        t.both(x -> x.deliverLatest(RECOVERY, 1, 0));
        t.both(x -> x.deliverLatest(RECOVERY, 4, 0));
        t.due("RESPONSE of 0, which knows of 1", 2, x -> x.deliverLatest(RESPONSE, 0, 4));
        t.idle("RESPONSE of 1", 1, x -> x.deliverLatest(RESPONSE, 1, 4));
        t.both(x -> x.deliverLatest(RECOVERY, 4, 2));
        t.both(x -> x.deliverLatest(RESPONSE, 2, 4));
        t.due("two responses are not enough", RECOVERING, x -> x.status(4));
        t.same("response outdated by sender");
    }

    /** "each number of r's vector becomes the greater one of it and that of the message's vector". */
    private static void theGreaterNumbers() {
        Group x = new Group(1);
        x.crash(4);
        x.recover(4, 7);
        x.deliverLatest(RECOVERY, 4, 0);
        x.crash(3);
        x.recover(3, 9);
        x.deliverLatest(RECOVERY, 3, 1);
        x.suspect(1);
        due("CHANGE of 1", x.deliverLatest(CHANGE, 1, 0), 2);
        int[] numbers = {0, 0, 0, 9, 7};
        for (int other = 0; other < 5; other++) {
            due("vector(0, " + other + ")", x.vector(0, other), numbers[other]);
        }
        due("the sender's vector stays", x.vector(1, 4), 0);
    }

    /** Only this one learns that replica 4 of five has crashed. */
    private static void tellOfCrash(Group x, int replica) {
        x.crash(4);
        x.recover(4, 7);
        x.deliverLatest(RECOVERY, 4, replica);
    }

    private static void dueNews(String what, Group x, int kind, int sender, int addressee) {
        due(what + ": before", x.vector(addressee, 4), 0);
        due(what, x.deliverLatest(kind, sender, addressee), 2);
        due(what + ": then", x.vector(addressee, 4), 7);
    }

    /** Every kind of message raises the vector; RECOVERY is seen in the tests of outdated ones. */
    private static void theGreaterNumbersByPrepareAndOk() {
        Group x = new Group(1);
        tellOfCrash(x, 0);
        x.remind(0);
        dueNews("PREPARE", x, PREPARE, 0, 1);
        Group y = new Group(1);
        y.remind(0);
        tellOfCrash(y, 1);
        y.deliver(0);
        dueNews("OK", y, OK, 1, 0);
    }

    private static void theGreaterNumbersByFetchAndState() {
        Group x = new Group(1);
        x.request(0, 0, 1, 5);
        x.request(0, 0, 2, 6);
        tellOfCrash(x, 1);
        x.deliver(4);
        dueNews("FETCH", x, FETCH, 1, 0);
        x.deliver(5);
        x.deliverLatest(FETCH, 2, 0);
        dueNews("STATE", x, STATE, 0, 2);
    }

    private static void theGreaterNumbersByChangeAndPaper() {
        Group x = new Group(1);
        tellOfCrash(x, 2);
        x.suspect(2);
        dueNews("CHANGE", x, CHANGE, 2, 3);
        Group y = new Group(1);
        tellOfCrash(y, 2);
        y.papersOfFive(1, 2, 3);
        dueNews("PAPER", y, PAPER, 2, 1);
    }

    private static void theGreaterNumbersByResponse() {
        Group x = new Group(1);
        tellOfCrash(x, 0);
        x.crash(3);
        x.recover(3, 1);
        x.deliverLatest(RECOVERY, 3, 0);
        dueNews("RESPONSE", x, RESPONSE, 0, 3);
    }

    /** The vector is raised also when the kind then says: nothing. */
    private static void theGreaterNumbersByAnOlderView() {
        Group x = new Group(1);
        x.crash(3);
        x.recover(3, 9);
        x.deliverLatest(RECOVERY, 3, 0);
        x.suspect(2);
        x.remind(0);
        int sent = x.sent();
        due("PREPARE of an older view", x.deliverLatest(PREPARE, 0, 2), 2);
        due("vector(2, 3)", x.vector(2, 3), 9);
        x.dueReplica("older view", 2, CHANGING, 1, 0, 0);
        due("older view: sent()", x.sent(), sent);
    }

    // What is kept and forgotten

    /** "whatever came from a replica t in a message whose vector had for t less .. is forgotten". */
    private static void voteOfOneThatCrashed() {
        int[][] groups = {{0, 2, 3}, {2, 3, 0}, {3, 0, 2}};
        for (int[] group : groups) {
            int crashed = group[0];
            Group x = new Group(1);
            x.suspect(crashed);
            x.deliverLatest(CHANGE, crashed, 4);
            x.crash(crashed);
            x.recover(crashed, 6);
            x.deliverLatest(RECOVERY, crashed, group[1]);
            x.suspect(group[1]);
            due("a vote tells of it", x.deliverLatest(CHANGE, group[1], 4), 2);
            due("4 knows", x.vector(4, crashed), 6);
            due("one vote is left", x.latest(PAPER, 4, 1), -1);
            x.suspect(group[2]);
            x.deliverLatest(CHANGE, group[2], 4);
            due("two votes, of which one was there before", x.lastMessage(), letter(PAPER, 4, 1, 1));
        }
    }

    /** The same when the message that tells of the crash says no more: it is of an older view. */
    private static void voteOfOneThatCrashedByAnOlderView() {
        Group x = new Group(1);
        x.suspect(3);
        x.deliverLatest(CHANGE, 3, 4);
        x.crash(3);
        x.recover(3, 6);
        x.deliverLatest(RECOVERY, 3, 0);
        x.remind(0);
        due("a PREPARE of an older view tells of it", x.deliverLatest(PREPARE, 0, 4), 2);
        x.suspect(2);
        x.deliverLatest(CHANGE, 2, 4);
        due("one vote is left", x.latest(PAPER, 4, 1), -1);
    }

    /** A vote whose number is the same stays. */
    private static void voteOfOneThatCrashedBefore() {
        Group x = new Group(1);
        x.crash(3);
        x.recoverWith(3, 6, 0, 1, 2);
        x.suspect(3);
        x.deliverLatest(CHANGE, 3, 4);
        due("4 knows by the vote", x.vector(4, 3), 6);
        x.suspect(0);
        due("0 knows too", x.vector(0, 3), 6);
        x.deliverLatest(CHANGE, 0, 4);
        due("both votes stay", x.lastMessage(), letter(PAPER, 4, 1, 1));
    }

    /** A paper "whose vector had for t less" is forgotten. */
    private static void paperOfOneThatCrashed() {
        int[] crashes = {0, 3, 4};
        for (int crashed : crashes) {
            Group x = new Group(1);
            x.papersOfFive(1, 2, crashed);
            x.deliverLatest(PAPER, crashed, 1);
            x.crash(crashed);
            x.recover(crashed, 6);
            x.deliverLatest(RECOVERY, crashed, 1);
            due("1 knows", x.vector(1, crashed), 6);
            x.deliverLatest(PAPER, 2, 1);
            due("one paper is left", x.status(1), CHANGING);
        }
    }

    /** The same when it is the second paper that tells of the crash. */
    private static void paperThatTellsOfACrash() {
        Group x = new Group(1);
        x.papersOfFive(1, 3, 4);
        x.deliverLatest(PAPER, 3, 1);
        x.crash(3);
        x.recover(3, 6);
        x.deliverLatest(CHANGE, 1, 2);
        x.deliverLatest(RECOVERY, 3, 2);
        x.deliverLatest(CHANGE, 4, 2);
        due("2's paper", x.lastMessage(), letter(PAPER, 2, 1, 1));
        due("1 doesn't know yet", x.vector(1, 3), 0);
        x.deliverLatest(PAPER, 2, 1);
        due("1 knows", x.vector(1, 3), 6);
        due("one paper is left", x.status(1), CHANGING);
        x.deliverLatest(PAPER, 4, 1);
        due("two papers", x.status(1), NORMAL);
    }

    /** A paper whose number is the same stays. */
    private static void paperOfOneThatCrashedBefore() {
        Group x = new Group(1);
        x.crash(3);
        x.recoverWith(3, 6, 0, 2, 4);
        x.papersOfFive(1, 2, 3);
        x.deliverLatest(PAPER, 3, 1);
        due("1 knows", x.vector(1, 3), 6);
        x.deliverLatest(PAPER, 2, 1);
        due("both papers stay", x.status(1), NORMAL);
    }

    /** A response "whose vector had for t less" is forgotten. */
    private static void responseOfOneThatCrashed() {
        Group x = new Group(1);
        x.crash(4);
        x.recoverWith(4, 1, 1, 2);
        x.crash(1);
        x.recover(1, 5);
        x.deliverLatest(RECOVERY, 1, 0);
        x.deliverLatest(RECOVERY, 4, 0);
        due("RESPONSE of 0, which knows of 1", x.deliverLatest(RESPONSE, 0, 4), 2);
        due("two responses are left", x.status(4), RECOVERING);
        x.deliverLatest(RECOVERY, 4, 3);
        x.deliverLatest(RESPONSE, 3, 4);
        due("three responses", x.status(4), NORMAL);
    }

    /** The same for the response that would have been enough, of the primary. */
    private static void responseOfAPrimaryThatCrashed() {
        Group x = new Group(1);
        x.crash(4);
        x.recoverWith(4, 1, 0, 2);
        x.crash(0);
        x.recover(0, 5);
        x.deliverLatest(RECOVERY, 0, 1);
        x.deliverLatest(RECOVERY, 4, 1);
        due("RESPONSE of 1, which knows of 0", x.deliverLatest(RESPONSE, 1, 4), 2);
        due("the primary's response is forgotten", x.status(4), RECOVERING);
    }

    /** A response whose number is the same stays. */
    private static void responseOfOneThatCrashedBefore() {
        Group x = new Group(1);
        x.crash(1);
        x.recoverWith(1, 5, 0, 2, 3);
        x.crash(4);
        x.recoverWith(4, 1, 1, 2, 0);
        due("0 knows of 1", x.vector(0, 1), 5);
        due("all three responses stay", x.status(4), NORMAL);
    }

    private static void messagesAndOutcomes() {
        primaries();
        toAllInOrder();
        receivedOften();
        viewOfWhenItWasSent();
        vectorOfWhenItWasSent();
        unheardByOneThatIsDown();
        unheardByOneThatIsRecovering();
        unheardThoughOutdated();
        responseToOneThatIsNotRecovering();
        responseWithNewsToOneThatIsNotRecovering();
        unheardForgetsNothing();
        outdatedBySender();
        everyKindOutdated();
        everyKindOutdatedToAPrimary();
        outdatedWithNews();
        othersNumbersMayBeLess();
        responseToAnotherNonce();
        responseToAnotherNonceWithNews();
        responseOutdatedBySender();
        theGreaterNumbers();
        theGreaterNumbersByPrepareAndOk();
        theGreaterNumbersByFetchAndState();
        theGreaterNumbersByChangeAndPaper();
        theGreaterNumbersByResponse();
        theGreaterNumbersByAnOlderView();
    }

    private static void keptAndForgotten() {
        voteOfOneThatCrashed();
        voteOfOneThatCrashedByAnOlderView();
        voteOfOneThatCrashedBefore();
        paperOfOneThatCrashed();
        paperThatTellsOfACrash();
        paperOfOneThatCrashedBefore();
        responseOfOneThatCrashed();
        responseOfAPrimaryThatCrashed();
        responseOfOneThatCrashedBefore();
    }

    public static void main(String[] args) {
        messagesAndOutcomes();
        keptAndForgotten();
        end();
    }
}
