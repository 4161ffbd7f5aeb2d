/** The example of README.md, call by call, with what it says there. */
public final class Readme extends Due {
    private static void dueInStep(String at, Group group) {
        for (int replica = 0; replica < group.replicas; replica++) {
            due(at + ": status(" + replica + ")", group.status(replica), NORMAL);
            group.dueValues(at, replica, 10);
        }
    }

    public static void main(String[] args) {
        Group group = new Group(0);
        due("request(0, 1, 1, 10)", group.request(0, 1, 1, 10), 0);
        group.drain();
        due("commit(0)", group.commit(0), 1);
        due("answer(1)", group.answer(1), 11);
        dueInStep("received", group);

        due("crash(0)", group.crash(0), true);
        due("crashed: length(0)", group.length(0), 0);
        due("suspect(1)", group.suspect(1), true);
        group.drain();
        due("changed: view(1)", group.view(1), 1);
        due("recover(0, 1)", group.recover(0, 1), true);
        group.drain();
        due("length(0)", group.length(0), 1);
        dueInStep("recovered", group);
        end();
    }
}
