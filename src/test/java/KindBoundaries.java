/**
 * The boundary cases of the eight kinds of messages, and of answering a client, in the document's
 * terms. Each sentence that names one has a test of its own, with what is just inside, on and just
 * outside it. A receiving that must change nothing is tried on one of two twins.
 */
public final class KindBoundaries extends Due {
    // PREPARE

    /** "when the length said is more than r's length + 1 .. otherwise, when it is r's length + 1 .." */
    private static void prepareOfEachLength() {
        Group x = new Group(0);
        for (int number = 1; number <= 4; number++) {
            x.request(0, 0, number, 10 + number);
        }
        x.deliver(0);
        x.deliver(2);
        x.dueValues("at first", 1, 11, 12);
        due("length + 2", x.deliver(6), 2);
        due("length + 2", x.lastMessage(), letter(FETCH, 1, 0, 0));
        x.dueValues("length + 2", 1, 11, 12);
        due("length + 1", x.deliver(4), 2);
        due("length + 1", x.lastMessage(), letter(OK, 1, 0, 0));
        x.dueValues("length + 1", 1, 11, 12, 13);
        int[] notLonger = {4, 2, 0};
        for (int k : notLonger) {
            int sent = x.sent();
            due("not longer: deliver(" + k + ")", x.deliver(k), 2);
            due("not longer", x.message(sent), letter(OK, 1, 0, 0));
            due("not longer: sent()", x.sent(), sent + 1);
            x.dueValues("not longer", 1, 11, 12, 13);
        }
        x.deliver(6);
        x.dueValues("length + 1 then", 1, 11, 12, 13, 14);
    }

    /** "its latest entry if it has one". */
    private static void prepareWithoutAnEntry() {
        Group x = new Group(0);
        x.remind(0);
        due("length 0 to length 0", x.deliver(0), 2);
        due("length 0 to length 0", x.lastMessage(), letter(OK, 1, 0, 0));
        x.dueReplica("length 0 to length 0", 1, NORMAL, 0, 0, 0);
        due("its OK", x.deliverLatest(OK, 1, 0), 2);
        due("its OK commits nothing", x.commit(0), 0);
        x.request(0, 0, 1, 5);
        x.deliverLatest(PREPARE, 0, 1);
        due("length 0 to length 1", x.deliver(0), 2);
        due("length 0 to length 1", x.lastMessage(), letter(OK, 1, 0, 0));
        x.dueValues("length 0 to length 1", 1, 5);
    }

    /** The log of a replica that follows holds 24 entries and no more. */
    private static void prepareOfAFullLog() {
        Group x = new Group(0);
        for (int number = 1; number <= 24; number++) {
            x.request(0, 0, number, number);
            x.deliverLatest(PREPARE, 0, 1);
        }
        due("full: length(1)", x.length(1), 24);
        due("full: entry(1, 23)", x.entry(1, 23), 24);
        due("full: the last again", x.deliverLatest(PREPARE, 0, 1), 2);
        due("full: length(1) then", x.length(1), 24);
        due("full: a FETCH of one that has none", x.deliverLatest(PREPARE, 0, 2), 2);
        x.deliverLatest(FETCH, 2, 0);
        x.deliverLatest(STATE, 0, 2);
        due("full: length(2)", x.length(2), 24);
        due("full: entry(2, 23)", x.entry(2, 23), 24);
    }

    /** "r's commit becomes the greater one of it and the lesser one of the commit said and r's length". */
    private static void prepareOfEachCommit() {
        Group x = new Group(0);
        x.request(0, 0, 1, 5);
        x.deliver(0);
        x.deliver(2);
        x.remind(0);
        due("the commit said is 1", x.commit(0), 1);
        x.deliver(3);
        due("more than r's", x.commit(1), 1);
        x.deliver(3);
        due("the same as r's", x.commit(1), 1);
        x.deliver(0);
        due("less than r's", x.commit(1), 1);
        x.deliver(4);
        x.dueReplica("the same as r's length, with the entry", 2, NORMAL, 0, 1, 1);
        x.request(0, 0, 2, 6);
        x.deliverLatest(PREPARE, 0, 2);
        x.dueReplica("less than r's length", 2, NORMAL, 0, 2, 1);
    }

    /** What is too far says no commit, not even of entries that r has. */
    private static void prepareTooFarWithACommit() {
        for (int own = 0; own < 2; own++) {
            Group x = new Group(0);
            x.request(0, 0, 1, 5);
            x.deliver(0);
            x.deliver(2);
            if (own == 1) {
                x.deliver(1);
            }
            x.request(0, 0, 2, 6);
            x.request(0, 0, 3, 7);
            due("the commit said", x.commit(0), 1);
            due("too far", x.deliverLatest(PREPARE, 0, 2), 2);
            due("too far", x.lastMessage(), letter(FETCH, 2, 0, 0));
            x.dueReplica("too far", 2, NORMAL, 0, own, 0);
        }
    }

    /** "If v is less than r's view: nothing." */
    private static void prepareOfALesserView() {
        Twins t = new Twins(0);
        t.both(x -> x.request(0, 0, 1, 5));
        t.both(x -> x.leadOfThree(1, 2));
        t.idle("NORMAL in view 1: PREPARE of view 0", 2, x -> x.deliver(0));
        t.idle("CHANGING to view 1: PREPARE of view 0", 2, x -> x.deliver(1));
        t.due("length(1)", 0, x -> x.length(1));
        t.same("PREPARE of a lesser view");
    }

    /** "v is r's view and r is CHANGING": FETCH, though the entry would fit. */
    private static void prepareOfTheSameViewWhileChanging() {
        Group x = new Group(0);
        x.leadOfThree(1, 2);
        x.request(1, 0, 1, 5);
        due("PREPARE of view 1", x.deliverLatest(PREPARE, 1, 2), 2);
        due("PREPARE of view 1", x.lastMessage(), letter(FETCH, 2, 1, 1));
        x.dueReplica("PREPARE of view 1", 2, CHANGING, 1, 0, 0);
    }

    /** "In all other cases (v is greater ..)": FETCH, though the entry would fit. */
    private static void prepareOfAGreaterView() {
        Group x = new Group(0);
        x.leadOfThree(1, 2);
        x.request(1, 0, 1, 5);
        due("NORMAL in view 0: PREPARE of view 1", x.deliverLatest(PREPARE, 1, 0), 2);
        due("NORMAL in view 0", x.lastMessage(), letter(FETCH, 0, 1, 0));
        x.dueReplica("NORMAL in view 0", 0, NORMAL, 0, 0, 0);
        Group y = new Group(0);
        y.suspect(0);
        y.leadOfThree(2, 1);
        y.request(2, 0, 1, 5);
        due("CHANGING to view 1: PREPARE of view 2", y.deliverLatest(PREPARE, 2, 0), 2);
        due("CHANGING to view 1", y.lastMessage(), letter(FETCH, 0, 2, 1));
        y.dueReplica("CHANGING to view 1", 0, CHANGING, 1, 0, 0);
    }

    // OK

    /** "at least F others have acked k entries or more": 1 of three. */
    private static void okOfThree() {
        Group x = new Group(0);
        x.request(0, 0, 1, 5);
        x.deliver(1);
        due("none has acked", x.commit(0), 0);
        x.deliver(2);
        due("one has acked", x.commit(0), 1);
        x.deliver(0);
        x.deliver(3);
        due("two have acked", x.commit(0), 1);
    }

    /** "at least F others have acked k entries or more": 2 of five, and each counts once. */
    private static void okOfFive() {
        Group x = new Group(1);
        x.request(0, 0, 1, 5);
        for (int k = 0; k < 4; k++) {
            x.deliver(k);
        }
        x.deliver(4);
        due("one has acked", x.commit(0), 0);
        x.deliver(4);
        due("one has acked twice", x.commit(0), 0);
        x.deliver(7);
        due("two have acked", x.commit(0), 1);
        x.deliver(5);
        x.deliver(6);
        due("four have acked", x.commit(0), 1);
    }

    /** "the greatest k that is its commit, or is such that at least F others have acked k .. or more". */
    private static void okOfEachLength() {
        Group x = new Group(1);
        for (int number = 1; number <= 3; number++) {
            x.request(0, number, number, number);
        }
        int[] toEach = {0, 4, 8, 1, 2, 6, 3, 7, 11};
        for (int k : toEach) {
            x.deliver(k);
        }
        x.deliver(14);
        due("1 has acked 3", x.commit(0), 0);
        x.deliver(12);
        due("1 has acked 3, and 1 said late", x.commit(0), 0);
        x.deliver(15);
        due("2 has acked 1", x.commit(0), 1);
        due("2 has acked 1: answered(2)", x.answered(2), 0);
        x.deliver(17);
        due("3 has acked 2", x.commit(0), 2);
        x.deliver(20);
        due("4 has acked 3", x.commit(0), 3);
        x.deliver(15);
        x.deliver(12);
        due("late ones", x.commit(0), 3);
    }

    /** "the greatest k that is its commit, or ..": with too few acks in a new view it stays. */
    private static void okOfTooFewLeavesTheCommit() {
        Group x = new Group(1);
        x.request(0, 0, 1, 5);
        x.deliver(0);
        x.deliver(1);
        x.deliver(4);
        x.deliver(5);
        x.leadOfFive(5, 1, 2);
        x.dueReplica("leads again", 0, NORMAL, 5, 1, 1);
        x.request(0, 0, 2, 6);
        x.deliverLatest(STATE, 0, 1);
        due("one OK", x.deliverLatest(OK, 1, 0), 2);
        x.dueReplica("one OK", 0, NORMAL, 5, 2, 1);
        due("one OK: answered(0)", x.answered(0), 1);
    }

    /** "for each entry that is so committed now, in order, its client is ANSWERED". */
    private static void okAnswersWhatIsCommittedNow() {
        Group x = new Group(0);
        x.request(0, 0, 1, 5);
        x.request(0, 1, 4, 6);
        x.request(0, 1, 5, 7);
        x.request(0, 2, 1, 8);
        for (int k = 0; k < 8; k += 2) {
            x.deliver(k);
        }
        x.deliver(10);
        due("three are committed", x.commit(0), 3);
        due("answered(0)", x.answered(0), 1);
        due("answer(0)", x.answer(0), 5);
        due("answered(1), the later one", x.answered(1), 5);
        due("answer(1), the later one", x.answer(1), 3 * 22 + 7 + 1);
        due("answered(2), not committed", x.answered(2), 0);
        due("answer(2), not committed", x.answer(2), 0);
        x.deliver(11);
        due("answered(2), committed", x.answered(2), 1);
        due("answer(2), committed", x.answer(2), 3 * 74 + 8 + 2);
        due("answer(1) stays", x.answer(1), 74);
    }

    /** "If r is NORMAL": otherwise an OK does nothing. */
    private static void okWhileChanging() {
        Twins t = new Twins(0);
        t.both(x -> x.request(0, 0, 1, 5));
        t.both(x -> x.deliver(0));
        t.both(x -> x.suspect(0));
        t.idle("CHANGING to view 1: OK of view 0", 2, x -> x.deliver(2));
        t.both(x -> x.suspectTo(3, 0));
        t.idle("CHANGING to view 3: OK of view 0", 2, x -> x.deliver(2));
        t.due("commit(0)", 0, x -> x.commit(0));
        t.due("answered(0)", 0, x -> x.answered(0));
        t.same("OK while CHANGING");
    }

    /** "v is r's view": an OK of a view that r led before does nothing. */
    private static void okOfALesserView() {
        Twins t = new Twins(0);
        t.both(x -> x.request(0, 0, 1, 5));
        t.both(x -> x.deliver(0));
        t.both(x -> x.leadOfThree(3, 1));
        t.both(x -> x.dueReplica("leads view 3", 0, NORMAL, 3, 1, 0));
        t.idle("OK of view 0", 2, x -> x.deliver(2));
        t.due("commit(0)", 0, x -> x.commit(0));
        t.same("OK of a lesser view");
        t.both(x -> x.deliverLatest(STATE, 0, 1));
        t.both(x -> x.deliverLatest(OK, 1, 0));
        t.due("an OK of view 3", 1, x -> x.commit(0));
    }

    /** "r its primary": one that follows in its view keeps no count of what it led before. */
    private static void okToOneThatLedBefore() {
        Twins t = new Twins(0);
        t.both(x -> x.request(0, 0, 1, 5));
        t.both(x -> x.deliver(0));
        t.both(x -> x.leadOfThree(1, 2));
        t.both(x -> x.deliverLatest(STATE, 1, 0));
        t.both(x -> x.dueReplica("follows in view 1", 0, NORMAL, 1, 1, 0));
        t.idle("OK of view 0", 2, x -> x.deliver(2));
        t.same("OK to one that led before");
    }

    // FETCH

    /** "If r is NORMAL, it sends STATE to s": also one that no longer leads. */
    private static void fetchFromOneThatLedBefore() {
        Group x = new Group(0);
        x.leadOfThree(1, 2);
        x.remind(1);
        x.deliverLatest(PREPARE, 1, 0);
        x.leadOfThree(2, 1);
        int fetch = x.latest(FETCH, 0, 1);
        int sent = x.sent();
        due("FETCH to a CHANGING one", x.deliver(fetch), 2);
        due("FETCH to a CHANGING one: sent()", x.sent(), sent);
        x.deliverLatest(STATE, 2, 1);
        due("FETCH to a NORMAL one", x.deliver(fetch), 2);
        due("FETCH to a NORMAL one", x.lastMessage(), letter(STATE, 1, 0, 2));
        due("STATE of one that follows", x.deliverLatest(STATE, 1, 0), 2);
        x.dueReplica("STATE of one that follows", 0, NORMAL, 2, 0, 0);
        due("OK goes to the primary", x.lastMessage(), letter(OK, 0, 2, 2));
    }

    // STATE

    /** Replica 2 of three gets STATE of 2, 3 and 4 entries sent, as messages 5, 8 and 11. */
    private static void sendStates(Group x) {
        x.request(0, 0, 1, 11);
        x.request(0, 0, 2, 12);
        x.deliver(3);
        x.deliver(4);
        x.request(0, 0, 3, 13);
        x.deliver(4);
        x.request(0, 0, 4, 14);
        x.deliver(4);
    }

    /** "v is r's view and the log said is longer than r's". */
    private static void stateOfEachLength() {
        Twins t = new Twins(0);
        t.both(KindBoundaries::sendStates);
        t.due("STATE of 2", letter(STATE, 0, 2, 0), x -> x.message(5));
        t.due("STATE of 3", letter(STATE, 0, 2, 0), x -> x.message(8));
        t.due("STATE of 4", letter(STATE, 0, 2, 0), x -> x.message(11));
        t.due("3 to 0", 2, x -> x.deliver(8));
        t.both(x -> x.dueValues("3 to 0", 2, 11, 12, 13));
        t.due("3 to 0", letter(OK, 2, 0, 0), x -> x.lastMessage());
        t.idle("3 to 3", 2, x -> x.deliver(8));
        t.idle("2 to 3", 2, x -> x.deliver(5));
        t.same("STATE that is not longer");
        t.due("4 to 3", 2, x -> x.deliver(11));
        t.both(x -> x.dueValues("4 to 3", 2, 11, 12, 13, 14));
        t.due("4 to 3", letter(OK, 2, 0, 0), x -> x.lastMessage());
    }

    /** "v is r's view and r is CHANGING": whatever the lengths, here longer and as long as r's. */
    private static void stateWhileChanging() {
        for (int own = 0; own < 2; own++) {
            Group x = new Group(0);
            x.request(0, 0, 1, 5);
            x.deliver(0);
            if (own == 1) {
                x.deliver(1);
            }
            x.suspect(2);
            x.leadOfThree(1, 0);
            x.dueReplica("before", 2, CHANGING, 1, own, 0);
            due("STATE of 1 to " + own, x.deliverLatest(STATE, 1, 2), 2);
            x.dueReplica("STATE of 1 to " + own, 2, NORMAL, 1, 1, 0);
            due("STATE of 1 to " + own, x.lastMessage(), letter(OK, 2, 1, 1));
        }
    }

    /** The same for a log that is shorter than r's. */
    private static void shorterStateWhileChanging() {
        Group x = new Group(0);
        x.request(0, 0, 1, 5);
        x.suspect(0);
        x.leadOfThree(1, 2);
        x.dueReplica("before", 0, CHANGING, 1, 1, 0);
        due("a shorter STATE", x.deliverLatest(STATE, 1, 0), 2);
        x.dueReplica("a shorter STATE", 0, NORMAL, 1, 0, 0);
        due("a shorter STATE", x.lastMessage(), letter(OK, 0, 1, 1));
    }

    /** "v is greater than r's view": whatever the lengths and the status. */
    private static void stateOfAGreaterView() {
        for (int own = 0; own < 3; own++) {
            Group x = new Group(0);
            for (int number = 1; number <= own; number++) {
                x.request(0, 0, number, number);
            }
            x.leadOfThree(2, 1);
            x.request(2, 1, 1, 9);
            x.deliverLatest(STATE, 2, 1);
            x.deliverLatest(PREPARE, 2, 1);
            x.remind(2);
            x.deliverLatest(PREPARE, 2, 0);
            x.deliverLatest(FETCH, 0, 2);
            if (own == 1) {
                x.suspect(0);
            }
            x.dueReplica("before", 0, own == 1 ? CHANGING : NORMAL, own == 1 ? 1 : 0, own, 0);
            due("STATE of view 2 to " + own, x.deliverLatest(STATE, 2, 0), 2);
            x.dueReplica("STATE of view 2 to " + own, 0, NORMAL, 2, 1, 0);
            due("STATE of view 2: entry(0, 0)", x.entry(0, 0), 9);
            due("STATE of view 2 to " + own, x.lastMessage(), letter(OK, 0, 2, 2));
        }
    }

    /** No condition holds for a lesser view, though the log is longer or r is CHANGING. */
    private static void stateOfALesserView() {
        Twins t = new Twins(0);
        t.both(KindBoundaries::sendStates);
        t.both(x -> x.leadOfThree(1, 2));
        t.idle("CHANGING to view 1: STATE of view 0", 2, x -> x.deliver(11));
        t.both(x -> x.dueReplica("CHANGING", 2, CHANGING, 1, 0, 0));
        t.both(x -> x.deliverLatest(STATE, 1, 2));
        t.idle("NORMAL in view 1: STATE of view 0", 2, x -> x.deliver(11));
        t.both(x -> x.dueReplica("NORMAL", 2, NORMAL, 1, 0, 0));
        t.same("STATE of a lesser view");
    }

    /** "If r is the primary of v: nothing." */
    private static void stateToThePrimary() {
        Twins t = new Twins(0);
        t.both(x -> x.leadOfThree(2, 1));
        t.both(x -> x.remind(2));
        t.both(x -> x.deliverLatest(PREPARE, 2, 0));
        t.both(x -> x.leadOfThree(3, 1));
        t.both(x -> x.deliverLatest(STATE, 0, 2));
        t.both(x -> x.deliverLatest(FETCH, 0, 2));
        t.due("STATE of view 3 to 0", letter(STATE, 2, 0, 3), x -> x.lastMessage());
        t.idle("of the same length", 2, x -> x.deliverLatest(STATE, 2, 0));
        t.both(x -> x.request(0, 0, 1, 5));
        t.idle("shorter", 2, x -> x.deliverLatest(STATE, 2, 0));
        t.both(x -> x.suspect(0));
        t.idle("of a lesser view", 2, x -> x.deliverLatest(STATE, 2, 0));
        t.same("STATE to the primary");
    }

    /** "its commit the greater one of it and the one said". */
    private static void stateOfEachCommit() {
        Group x = new Group(0);
        x.request(0, 0, 1, 5);
        x.deliver(0);
        x.deliver(2);
        x.leadOfThree(1, 2);
        x.dueReplica("it says 0", 1, NORMAL, 1, 1, 0);
        x.dueReplica("r has 1", 0, NORMAL, 0, 1, 1);
        due("less", x.deliverLatest(STATE, 1, 0), 2);
        x.dueReplica("less", 0, NORMAL, 1, 1, 1);
        x.deliverLatest(OK, 0, 1);
        x.remind(1);
        x.deliverLatest(PREPARE, 1, 2);
        x.deliverLatest(FETCH, 2, 1);
        x.dueReplica("it says 1", 1, NORMAL, 1, 1, 1);
        due("r has 0", x.commit(2), 0);
        due("more", x.deliverLatest(STATE, 1, 2), 2);
        x.dueReplica("more", 2, NORMAL, 1, 1, 1);
    }

    // CHANGE

    /** "If v is greater than r's view, r STARTS changing to v": NORMAL or CHANGING. */
    private static void changeToAGreaterView() {
        Group x = new Group(1);
        x.suspect(0);
        due("NORMAL in view 0: CHANGE to 1", x.deliverLatest(CHANGE, 0, 2), 2);
        x.dueReplica("CHANGE to 1", 2, CHANGING, 1, 0, 0);
        due("CHANGE to 1: sent()", x.sent(), 8);
        due("CHANGE to 1", x.lastMessage(), letter(CHANGE, 2, 4, 1));
        x.suspect(0);
        x.suspect(0);
        due("CHANGING to 1: CHANGE to 3", x.deliverLatest(CHANGE, 0, 2), 2);
        x.dueReplica("CHANGE to 3", 2, CHANGING, 3, 0, 0);
        due("CHANGE to 3: sent()", x.sent(), 20);
        due("CHANGE to 3", x.message(16), letter(CHANGE, 2, 0, 3));
    }

    /** A vote for a lesser view is not kept. */
    private static void changeToALesserView() {
        Twins t = new Twins(1);
        t.both(x -> x.suspect(2));
        t.both(x -> x.suspectTo(2, 4));
        t.idle("CHANGING to 2: CHANGE to 1", 2, x -> x.deliver(3));
        t.both(x -> x.suspectTo(2, 3));
        t.both(x -> x.deliverLatest(CHANGE, 3, 4));
        t.due("one vote", -1, x -> x.latest(PAPER, 4, 2));
        t.same("CHANGE to a lesser view");
        t.both(x -> x.suspectTo(2, 0));
        t.both(x -> x.deliverLatest(CHANGE, 0, 4));
        t.due("two votes", letter(PAPER, 4, 2, 2), x -> x.lastMessage());
    }

    /** "Then if v is r's view and r is CHANGING": to one that is NORMAL in v or later it is nothing. */
    private static void changeToOneThatIsNormal() {
        Twins t = new Twins(0);
        t.both(x -> x.leadOfThree(1, 2));
        t.both(x -> x.deliverLatest(STATE, 1, 2));
        t.idle("2 is NORMAL in view 1: CHANGE to 1", 2, x -> x.deliverLatest(CHANGE, 1, 2));
        t.idle("1 is NORMAL in view 1: CHANGE to 1", 2, x -> x.deliverLatest(CHANGE, 2, 1));
        t.both(x -> x.dueReplica("view 1", 2, NORMAL, 1, 0, 0));
        int change = 1;
        t.due("it was the CHANGE of 1", letter(CHANGE, 1, 2, 1), x -> x.message(change));
        t.both(x -> x.leadOfThree(2, 1));
        t.both(x -> x.dueReplica("view 2", 2, NORMAL, 2, 0, 0));
        t.idle("2 is NORMAL in view 2: CHANGE to 1", 2, x -> x.deliver(change));
        t.same("CHANGE to one that is NORMAL");
    }

    /** "and votes of at least F replicas are kept": 1 of three. */
    private static void votesOfThree() {
        Group x = new Group(0);
        x.suspect(2);
        due("no vote", x.sent(), 2);
        x.suspect(0);
        x.deliverLatest(CHANGE, 0, 2);
        due("one vote", x.lastMessage(), letter(PAPER, 2, 1, 1));
        x.suspect(1);
        int sent = x.sent();
        x.deliverLatest(CHANGE, 1, 2);
        x.deliverLatest(CHANGE, 0, 2);
        due("its paper is sent", x.sent(), sent);
    }

    /** "and votes of at least F replicas are kept": 2 of five, each once. */
    private static void votesOfFive() {
        Group x = new Group(1);
        for (int replica = 0; replica < 5; replica++) {
            x.suspect(replica);
        }
        int sent = x.sent();
        x.deliverLatest(CHANGE, 0, 2);
        x.deliverLatest(CHANGE, 0, 2);
        due("one vote, twice", x.sent(), sent);
        x.deliverLatest(CHANGE, 4, 2);
        due("two votes", x.sent(), sent + 1);
        due("two votes", x.lastMessage(), letter(PAPER, 2, 1, 1));
        x.deliverLatest(CHANGE, 1, 2);
        x.deliverLatest(CHANGE, 3, 2);
        due("four votes", x.sent(), sent + 1);
    }

    /** "if r is not the primary of v". */
    private static void votesToThePrimary() {
        for (int size = 0; size < 2; size++) {
            Group x = new Group(size);
            for (int replica = 0; replica < x.replicas; replica++) {
                x.suspect(replica);
            }
            int sent = x.sent();
            for (int replica = 0; replica < x.replicas; replica++) {
                if (replica != 1) {
                    due("vote of " + replica, x.deliverLatest(CHANGE, replica, 1), 2);
                }
            }
            due("no paper to itself", x.sent(), sent);
            due("still CHANGING", x.status(1), CHANGING);
        }
    }

    /** STARTING: "what it has kept is forgotten, its paper is not sent". */
    private static void startForgetsVotesAndPaper() {
        Group x = new Group(1);
        x.suspect(3);
        x.suspect(4);
        x.deliverLatest(CHANGE, 4, 3);
        x.suspect(3);
        x.suspectTo(2, 0);
        x.deliverLatest(CHANGE, 0, 3);
        due("one vote for view 2, by suspect", x.latest(PAPER, 3, 2), -1);
        x.suspectTo(2, 4);
        x.deliverLatest(CHANGE, 4, 3);
        due("two votes for view 2", x.lastMessage(), letter(PAPER, 3, 2, 2));
        x.suspectTo(4, 4);
        x.deliverLatest(CHANGE, 4, 3);
        due("one vote for view 4, by CHANGE", x.lastMessage(), letter(CHANGE, 3, 4, 4));
        x.suspectTo(4, 0);
        x.deliverLatest(CHANGE, 0, 3);
        due("two votes for view 4, and its paper again", x.lastMessage(), letter(PAPER, 3, 4, 4));
    }

    /** STARTING: "its paper is not sent", by suspect too. */
    private static void paperAgainAfterSuspect() {
        Group x = new Group(1);
        for (int view = 1; view <= 2; view++) {
            x.suspect(3);
            x.suspectTo(view, 0);
            x.suspectTo(view, 4);
            x.deliverLatest(CHANGE, 0, 3);
            due("one vote", x.lastMessage(), letter(CHANGE, 4, 3, view));
            x.deliverLatest(CHANGE, 4, 3);
            due("two votes", x.lastMessage(), letter(PAPER, 3, view, view));
        }
    }

    // PAPER

    /** "If v is greater than r's view, r STARTS changing to v", and then keeps the paper. */
    private static void paperOfAGreaterView() {
        for (int suspects = 0; suspects < 2; suspects++) {
            Group x = new Group(0);
            x.suspectTo(4, 0);
            x.deliverLatest(CHANGE, 0, 2);
            due("paper", x.lastMessage(), letter(PAPER, 2, 1, 4));
            x.suspectTo(suspects, 1);
            int sent = x.sent();
            due("CHANGING or NORMAL before", x.status(1), suspects == 0 ? NORMAL : CHANGING);
            due("PAPER of view 4", x.deliverLatest(PAPER, 2, 1), 2);
            x.dueReplica("PAPER of view 4", 1, NORMAL, 4, 0, 0);
            due("first CHANGE", x.message(sent), letter(CHANGE, 1, 0, 4));
            due("second CHANGE", x.message(sent + 1), letter(CHANGE, 1, 2, 4));
            due("first STATE", x.message(sent + 2), letter(STATE, 1, 0, 4));
            due("second STATE", x.message(sent + 3), letter(STATE, 1, 2, 4));
            due("PAPER of view 4: sent()", x.sent(), sent + 4);
        }
    }

    /** "Then if v is r's view and r is CHANGING": to one that is NORMAL in v it is nothing. */
    private static void paperOfTheSameViewWhenNormal() {
        Twins t = new Twins(0);
        t.both(x -> x.leadOfThree(1, 2));
        t.both(x -> x.request(1, 0, 1, 5));
        t.idle("PAPER again", 2, x -> x.deliverLatest(PAPER, 2, 1));
        t.both(x -> x.dueReplica("leads", 1, NORMAL, 1, 1, 0));
        t.same("PAPER of the same view");
    }

    /** A paper for a lesser view is not kept, by one that is CHANGING or NORMAL. */
    private static void paperOfALesserView() {
        Twins t = new Twins(0);
        t.both(x -> x.suspect(0));
        t.both(x -> x.deliverLatest(CHANGE, 0, 2));
        t.both(x -> x.suspectTo(2, 1));
        t.idle("CHANGING to 2: PAPER of view 1", 2, x -> x.deliverLatest(PAPER, 2, 1));
        t.both(x -> x.leadOfThree(2, 1));
        t.both(x -> x.deliverLatest(STATE, 2, 1));
        t.both(x -> x.dueReplica("view 2", 1, NORMAL, 2, 0, 0));
        t.idle("NORMAL in 2: PAPER of view 1", 2, x -> x.deliverLatest(PAPER, 2, 1));
        t.same("PAPER of a lesser view");
    }

    /** "if papers of at least F replicas are kept": 1 of three. */
    private static void papersOfThree() {
        Group x = new Group(0);
        x.suspect(1);
        x.deliverLatest(CHANGE, 1, 2);
        due("no paper", x.status(1), CHANGING);
        x.deliverLatest(PAPER, 2, 1);
        due("one paper", x.status(1), NORMAL);
    }

    /** "if papers of at least F replicas are kept": 2 of five, each once. */
    private static void papersOfFive() {
        Group x = new Group(1);
        x.papersOfFive(1, 2, 4);
        int sent = x.sent();
        x.deliverLatest(PAPER, 4, 1);
        due("one paper", x.status(1), CHANGING);
        due("a paper again", x.deliverLatest(PAPER, 4, 1), 2);
        due("one paper, twice", x.status(1), CHANGING);
        due("one paper: sent()", x.sent(), sent);
        x.deliverLatest(PAPER, 2, 1);
        due("two papers", x.status(1), NORMAL);
        int[] others = {0, 2, 3, 4};
        for (int i = 0; i < others.length; i++) {
            due("STATE to all", x.message(sent + i), letter(STATE, 1, others[i], 1));
        }
        due("two papers: sent()", x.sent(), sent + 4);
    }

    /** STARTING forgets the papers too. */
    private static void startForgetsPapers() {
        Group x = new Group(1);
        x.papersOfFive(1, 2, 3);
        x.deliverLatest(PAPER, 2, 1);
        x.papersOfFive(6, 2, 3);
        due("a paper of view 6", x.deliverLatest(PAPER, 3, 1), 2);
        due("one paper of view 6", x.status(1), CHANGING);
        x.deliverLatest(PAPER, 2, 1);
        x.dueReplica("two papers of view 6", 1, NORMAL, 6, 0, 0);
    }

    /** "the one with the greatest last view": a paper's, though r's own log is longer. */
    private static void paperWithAGreaterLastView() {
        Group x = new Group(0);
        x.request(0, 0, 1, 5);
        x.request(0, 0, 2, 6);
        x.leadOfThree(1, 2);
        x.request(1, 3, 1, 9);
        x.leadOfThree(3, 1);
        x.dueValues("the last view 1 wins", 0, 9);
        x.dueReplica("the last view 1 wins", 0, NORMAL, 3, 1, 0);
    }

    /** "the one with the greatest last view": r's own, though a paper's log is longer. */
    private static void paperWithALesserLastView() {
        Group x = new Group(0);
        x.request(0, 0, 1, 5);
        x.request(0, 0, 2, 6);
        x.leadOfThree(1, 2);
        x.request(1, 3, 1, 9);
        x.deliverLatest(STATE, 1, 2);
        x.deliverLatest(PREPARE, 1, 2);
        x.leadOfThree(2, 0);
        x.dueValues("the own last view 1 wins", 2, 9);
        x.dueReplica("the own last view 1 wins", 2, NORMAL, 2, 1, 0);
    }

    /** FRESH is last view 0, as of one that recovered in view 0: so the longer log wins. */
    private static void paperWithTheLastViewOfAtFirst() {
        for (int recovered = 1; recovered < 3; recovered++) {
            Group x = new Group(0);
            int other = 3 - recovered;
            x.crash(recovered);
            x.recoverWith(recovered, 1, 0, other);
            x.request(0, 0, 1, 5);
            x.deliverLatest(PREPARE, 0, other);
            due("one has no entry", x.length(recovered), 0);
            x.leadOfThree(1, 2);
            x.dueValues("the longer log of last view 0", 1, 5);
        }
    }

    /** The greatest last view of two papers, in either order of coming and of numbers. */
    private static void twoPapersWithLastViews() {
        for (int order = 0; order < 4; order++) {
            Group x = new Group(1);
            int old = order < 2 ? 0 : 3;
            int later = order < 2 ? 3 : 2;
            x.request(0, 0, 1, 5);
            x.request(0, 0, 2, 6);
            if (old == 3) {
                x.deliver(2);
                x.deliver(6);
            }
            x.leadOfFive(1, 2, order < 2 ? 3 : 4);
            x.request(1, 3, 1, 9);
            x.deliverLatest(STATE, 1, later);
            x.deliverLatest(PREPARE, 1, later);
            x.dueReplica("the longer log", old, NORMAL, 0, 2, 0);
            x.dueReplica("the greater last view", later, NORMAL, 1, 1, 0);
            x.papersOfFive(4, old, later);
            x.deliverLatest(PAPER, order % 2 == 0 ? old : later, 4);
            x.deliverLatest(PAPER, order % 2 == 0 ? later : old, 4);
            x.dueReplica("order " + order, 4, NORMAL, 4, 1, 0);
            x.dueValues("order " + order, 4, 9);
        }
    }

    /** "among these the longest": of two papers of one last view, in either order. */
    private static void twoPapersWithLengths() {
        for (int order = 0; order < 4; order++) {
            Group x = new Group(1);
            int shorter = order < 2 ? 2 : 4;
            int longer = order < 2 ? 4 : 2;
            x.request(0, 0, 1, 5);
            x.request(0, 0, 2, 6);
            x.deliver(shorter - 1);
            x.deliver(longer - 1);
            x.deliver(longer + 3);
            x.papersOfFive(1, 2, 4);
            x.deliverLatest(PAPER, order % 2 == 0 ? shorter : longer, 1);
            x.deliverLatest(PAPER, order % 2 == 0 ? longer : shorter, 1);
            x.dueValues("order " + order, 1, 5, 6);
        }
    }

    /** "or else that of the replica with the least number": of papers that are alike, in either order. */
    private static void twoPapersThatAreAlike() {
        for (int first = 2; first <= 4; first += 2) {
            Group x = new Group(1);
            x.request(0, 0, 1, 5);
            x.deliver(1);
            x.deliver(3);
            x.papersOfFive(1, 2, 4);
            x.deliverLatest(PAPER, first, 1);
            x.deliverLatest(PAPER, 6 - first, 1);
            x.dueReplica(first + " was first", 1, NORMAL, 1, 1, 0);
            x.dueValues(first + " was first", 1, 5);
        }
    }

    /** "among these the longest, among these r's own": shorter, as long and longer than a paper's. */
    private static void ownLogOfEachLength() {
        for (int own = 0; own < 3; own++) {
            Group x = new Group(0);
            x.request(0, 0, 1, 5);
            x.request(0, 0, 2, 6);
            x.deliver(1);
            for (int k = 0; k < own; k++) {
                x.deliver(2 * k);
            }
            due("own length", x.length(1), own);
            x.leadOfThree(1, 2);
            if (own < 2) {
                x.dueValues("own " + own, 1, 5);
            } else {
                x.dueValues("own " + own, 1, 5, 6);
            }
        }
    }

    /** "r's commit becomes the greatest of all their commits": of a paper whose log is not taken. */
    private static void commitOfALosingPaper() {
        Group x = new Group(0);
        x.request(0, 0, 1, 5);
        x.deliver(0);
        x.deliver(2);
        x.leadOfThree(1, 2);
        x.deliverLatest(STATE, 1, 2);
        x.dueReplica("the paper's", 0, NORMAL, 0, 1, 1);
        x.dueReplica("the own one", 2, NORMAL, 1, 1, 0);
        x.leadOfThree(2, 0);
        x.dueReplica("the own log, the paper's commit", 2, NORMAL, 2, 1, 1);
    }

    /** "r's commit becomes the greatest of all their commits": its own, though a paper's log is taken. */
    private static void ownCommitWithAnothersLog() {
        Group x = new Group(0);
        x.request(0, 0, 1, 5);
        x.deliver(0);
        x.deliver(2);
        x.leadOfThree(1, 2);
        x.request(1, 3, 1, 9);
        x.dueReplica("the paper's", 1, NORMAL, 1, 2, 0);
        x.leadOfThree(3, 1);
        x.dueReplica("the paper's log, the own commit", 0, NORMAL, 3, 2, 1);
        x.dueValues("the paper's log", 0, 5, 9);
    }

    /** "nobody has acked anything": what was acked in an earlier view counts no more. */
    private static void nobodyHasAcked() {
        int[] ackers = {1, 4};
        for (int acker : ackers) {
            Group x = new Group(1);
            x.request(0, 0, 1, 5);
            x.deliver(acker - 1);
            x.deliverLatest(OK, acker, 0);
            x.leadOfFive(5, 2, 3);
            x.dueReplica("leads again", 0, NORMAL, 5, 1, 0);
            x.deliverLatest(STATE, 0, 2);
            x.deliverLatest(OK, 2, 0);
            due("one has acked in view 5", x.commit(0), 0);
            x.deliverLatest(STATE, 0, 3);
            x.deliverLatest(OK, 3, 0);
            due("two have acked in view 5", x.commit(0), 1);
        }
    }

    /** The same for what replica 0 has acked to another that leads twice. */
    private static void nobodyHasAckedToAnother() {
        Group x = new Group(1);
        x.leadOfFive(1, 2, 3);
        x.request(1, 0, 1, 5);
        x.deliverLatest(STATE, 1, 0);
        x.deliverLatest(PREPARE, 1, 0);
        x.deliverLatest(OK, 0, 1);
        x.leadOfFive(6, 2, 3);
        x.dueReplica("leads again", 1, NORMAL, 6, 1, 0);
        x.deliverLatest(STATE, 1, 2);
        x.deliverLatest(OK, 2, 1);
        due("one has acked in view 6", x.commit(1), 0);
        x.deliverLatest(STATE, 1, 4);
        x.deliverLatest(OK, 4, 1);
        due("two have acked in view 6", x.commit(1), 1);
    }

    // RECOVERY

    /** "If r is NORMAL, it sends RESPONSE to s": the primary, one that follows, and none else. */
    private static void recoveryToEachStatus() {
        Group x = new Group(0);
        x.crash(2);
        x.recover(2, 4);
        due("to the primary", x.deliver(0), 2);
        due("to the primary", x.lastMessage(), letter(RESPONSE, 0, 2, 0));
        due("to one that follows", x.deliver(1), 2);
        due("to one that follows", x.lastMessage(), letter(RESPONSE, 1, 2, 0));
        x.recover(2, 5);
        x.suspect(1);
        int sent = x.sent();
        due("to one that is CHANGING", x.deliverLatest(RECOVERY, 2, 1), 2);
        due("to one that is CHANGING: sent()", x.sent(), sent);
        due("to one that is CHANGING: vector(1, 2)", x.vector(1, 2), 5);
    }

    // RESPONSE

    /** "if responses of at least F + 1 replicas are kept": 2 of three, each once. */
    private static void responsesOfThree() {
        Group x = new Group(0);
        x.crash(2);
        x.recoverWith(2, 1, 0);
        due("one response", x.status(2), RECOVERING);
        x.deliverLatest(RESPONSE, 0, 2);
        x.deliverLatest(RECOVERY, 2, 0);
        x.deliverLatest(RESPONSE, 0, 2);
        due("one replica's responses", x.status(2), RECOVERING);
        x.deliverLatest(RECOVERY, 2, 1);
        int sent = x.sent();
        x.deliverLatest(RESPONSE, 1, 2);
        due("two responses", x.status(2), NORMAL);
        due("two responses: nothing is sent", x.sent(), sent);
    }

    /** "if responses of at least F + 1 replicas are kept": 3 of five, each once. */
    private static void responsesOfFive() {
        Group x = new Group(1);
        x.crash(2);
        x.recoverWith(2, 1, 0, 4);
        due("two responses", x.status(2), RECOVERING);
        x.deliverLatest(RESPONSE, 0, 2);
        due("two replicas' responses", x.status(2), RECOVERING);
        x.deliverLatest(RECOVERY, 2, 3);
        x.deliverLatest(RESPONSE, 3, 2);
        due("three responses", x.status(2), NORMAL);
    }

    /** "one of them is from the primary of the greatest view among them". */
    private static void responsesWithoutThePrimary() {
        Group x = new Group(1);
        x.crash(4);
        x.recoverWith(4, 1, 1, 2, 3);
        due("three, without the primary", x.status(4), RECOVERING);
        x.deliverLatest(RECOVERY, 4, 0);
        x.deliverLatest(RESPONSE, 0, 4);
        due("four, with the primary", x.status(4), NORMAL);
    }

    /** "and has that view": the primary's response must be of that view itself. */
    private static void primarysResponseOfALesserView() {
        Group x = new Group(1);
        x.crash(4);
        x.recoverWith(4, 2, 1);
        x.leadOfFive(1, 2, 3);
        x.deliverLatest(STATE, 1, 2);
        x.deliverLatest(RECOVERY, 4, 2);
        due("a response of view 1", x.deliverLatest(RESPONSE, 2, 4), 2);
        x.deliverLatest(RECOVERY, 4, 0);
        due("a response of view 0's primary", x.deliverLatest(RESPONSE, 0, 4), 2);
        due("1's response is of view 0", x.status(4), RECOVERING);
        x.deliverLatest(RECOVERY, 4, 1);
        due("1's response of view 1", x.deliverLatest(RESPONSE, 1, 4), 2);
        x.dueReplica("recovered", 4, NORMAL, 1, 0, 0);
    }

    /** "It is kept, in the place of an earlier one from s", be it sent later or before. */
    private static void responseInThePlaceOfAnEarlierOne() {
        Group x = new Group(1);
        x.crash(4);
        x.recoverWith(4, 2, 3);
        int first = x.latest(RESPONSE, 3, 4);
        x.deliverLatest(RECOVERY, 4, 2);
        int ofTwo = x.latest(RESPONSE, 2, 4);
        x.leadOfFive(1, 2, 3);
        x.deliverLatest(STATE, 1, 3);
        x.deliverLatest(RECOVERY, 4, 3);
        due("3's response of view 1", x.deliverLatest(RESPONSE, 3, 4), 2);
        x.deliverLatest(RECOVERY, 4, 0);
        due("0's response of view 0", x.deliverLatest(RESPONSE, 0, 4), 2);
        due("2's response of view 0", x.deliver(ofTwo), 2);
        due("the greatest view is 1", x.status(4), RECOVERING);
        due("3's response of view 0 again", x.deliver(first), 2);
        x.dueReplica("the greatest view is 0", 4, NORMAL, 0, 0, 0);
    }

    /** "the greatest view among them": the one that only the latest response has. */
    private static void greatestViewInOneResponse() {
        for (int view = 4; view <= 5; view++) {
            Group x = new Group(1);
            int primary = view % 5;
            int lost = 3;
            x.crash(lost);
            x.recoverWith(lost, 2, 1, primary == 0 ? 4 : 0);
            due("two responses of view 0", x.status(lost), RECOVERING);
            x.leadOfFive(view, 1, 2);
            x.request(primary, 0, 1, 5);
            x.deliverLatest(RECOVERY, lost, primary);
            due("a response of view " + view, x.deliverLatest(RESPONSE, primary, lost), 2);
            x.dueReplica("recovered", lost, NORMAL, view, 1, 0);
        }
    }

    /** "its log and commit those of that response": though others are longer or have more committed. */
    private static void responseOfThePrimaryIsTaken() {
        for (int first = 0; first < 2; first++) {
            Group x = new Group(0);
            x.request(0, 0, 1, 5);
            x.deliver(0);
            x.deliver(2);
            x.request(0, 0, 2, 6);
            x.leadOfThree(1, 2);
            x.crash(2);
            x.recoverWith(2, 1, first, 1 - first);
            x.dueReplica("0's response", 0, NORMAL, 0, 2, 1);
            x.dueReplica("1's response", 1, NORMAL, 1, 1, 0);
            x.dueReplica("recovered, " + first + " was first", 2, NORMAL, 1, 1, 0);
        }
    }

    /** "its view and last view are that view": its next paper says so. */
    private static void lastViewOfOneThatRecovered() {
        Group x = new Group(0);
        x.request(0, 0, 1, 5);
        x.request(0, 0, 2, 6);
        x.leadOfThree(1, 2);
        x.request(1, 3, 1, 9);
        x.crash(2);
        x.recoverWith(2, 5, 0, 1);
        x.dueReplica("recovered", 2, NORMAL, 1, 1, 0);
        x.leadOfThree(3, 2);
        x.dueValues("the last view 1 wins", 0, 9);
    }

    // Answers

    /** Client 2 gets number 4 answered by the primary of view 1; replica 0 stays behind in view 0. */
    private static void answerInViewOne(Group x) {
        x.leadOfThree(1, 2);
        x.request(1, 2, 4, 1);
        x.deliverLatest(STATE, 1, 2);
        x.deliverLatest(PREPARE, 1, 2);
        x.deliverLatest(OK, 2, 1);
    }

    /** "if the number is not less than the one that it was answered with last". */
    private static void answeredWithEachNumber() {
        Twins t = new Twins(0);
        t.both(x -> x.request(0, 2, 3, 10));
        t.both(x -> x.deliver(0));
        t.both(x -> x.deliver(2));
        t.due("greater: answered(2)", 3, x -> x.answered(2));
        t.idle("the same: request again", 1, x -> x.request(0, 2, 3, 10));
        t.same("answered with the same number");
        t.both(KindBoundaries::answerInViewOne);
        t.due("greater again: answered(2)", 4, x -> x.answered(2));
        t.due("greater again: answer(2)", 3 * 12 + 1 + 2, x -> x.answer(2));
        t.idle("less: request again at the old primary", 1, x -> x.request(0, 2, 3, 10));
        t.due("less: answered(2)", 4, x -> x.answered(2));
        t.due("less: answer(2)", 39, x -> x.answer(2));
        t.same("answered with a lesser number");
    }

    /** "the one that it was answered with last" is its latest number: a lesser one never counts. */
    private static void answeredTwiceWithALesserNumber() {
        Group x = new Group(0);
        x.request(0, 2, 3, 10);
        x.deliver(0);
        x.deliver(2);
        answerInViewOne(x);
        due("the new primary: answered(2)", x.answered(2), 4);
        for (int time = 1; time <= 3; time++) {
            due("the old primary, time " + time, x.request(0, 2, 3, 10), 1);
            due("the old primary, time " + time + ": answered(2)", x.answered(2), 4);
            due("the old primary, time " + time + ": answer(2)", x.answer(2), 39);
        }
    }

    private static void preparesAndOks() {
        prepareOfEachLength();
        prepareWithoutAnEntry();
        prepareOfAFullLog();
        prepareOfEachCommit();
        prepareTooFarWithACommit();
        prepareOfALesserView();
        prepareOfTheSameViewWhileChanging();
        prepareOfAGreaterView();
        okOfThree();
        okOfFive();
        okOfEachLength();
        okOfTooFewLeavesTheCommit();
        okAnswersWhatIsCommittedNow();
        okWhileChanging();
        okOfALesserView();
        okToOneThatLedBefore();
    }

    private static void fetchesAndStates() {
        fetchFromOneThatLedBefore();
        stateOfEachLength();
        stateWhileChanging();
        shorterStateWhileChanging();
        stateOfAGreaterView();
        stateOfALesserView();
        stateToThePrimary();
        stateOfEachCommit();
    }

    private static void changes() {
        changeToAGreaterView();
        changeToALesserView();
        changeToOneThatIsNormal();
        votesOfThree();
        votesOfFive();
        votesToThePrimary();
        startForgetsVotesAndPaper();
        paperAgainAfterSuspect();
    }

    private static void papers() {
        paperOfAGreaterView();
        paperOfTheSameViewWhenNormal();
        paperOfALesserView();
        papersOfThree();
        papersOfFive();
        startForgetsPapers();
        paperWithAGreaterLastView();
        paperWithALesserLastView();
        paperWithTheLastViewOfAtFirst();
        twoPapersWithLastViews();
        twoPapersWithLengths();
        twoPapersThatAreAlike();
        ownLogOfEachLength();
        commitOfALosingPaper();
        ownCommitWithAnothersLog();
        nobodyHasAcked();
        nobodyHasAckedToAnother();
    }

    private static void recoveriesAndResponses() {
        recoveryToEachStatus();
        responsesOfThree();
        responsesOfFive();
        responsesWithoutThePrimary();
        primarysResponseOfALesserView();
        responseInThePlaceOfAnEarlierOne();
        greatestViewInOneResponse();
        responseOfThePrimaryIsTaken();
        lastViewOfOneThatRecovered();
    }

    public static void main(String[] args) {
        preparesAndOks();
        fetchesAndStates();
        changes();
        papers();
        recoveriesAndResponses();
        answeredWithEachNumber();
        answeredTwiceWithALesserNumber();
        end();
    }
}
