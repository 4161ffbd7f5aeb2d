import java.util.ArrayList;
import java.util.List;
import java.util.Map;
import java.util.TreeMap;

/**
 * Long mixed runs of calls on GroupLog and on a second model of the document, written as plainly as
 * the document's words and with whole copies everywhere; every answer must be the same.
 */
public final class ModelRuns {
    private static final int RUNS = 6000;
    private static final int CALLS = 512;

    private static int wrong = 0;
    private static final TreeMap<String, Integer> SEEN = new TreeMap<>();

    /** What the runs must have come through, so that their agreement says something. */
    private static final List<String> MUST_BE_SEEN = List.of(
        "PREPARE outcome 0", "PREPARE outcome 1", "PREPARE of an older view", "PREPARE of a greater view",
        "PREPARE too far", "PREPARE while changing", "OK outcome 0", "OK outcome 1", "OK of no use",
        "OK commits several", "FETCH outcome 0", "FETCH outcome 1", "FETCH outcome 2", "STATE outcome 0",
        "STATE outcome 1", "STATE longer", "STATE of a greater view", "STATE to the primary",
        "STATE while changing", "CHANGE outcome 0", "CHANGE outcome 1", "CHANGE outcome 2",
        "PAPER outcome 0", "PAPER outcome 1", "PAPER starts a change", "PAPER with a greater last view",
        "PAPER with a longer log", "RECOVERY outcome 0", "RECOVERY outcome 1", "RECOVERY outcome 2",
        "RESPONSE outcome 0", "RESPONSE outcome 1", "recovered", "responses enough, but not the primary's",
        "client answered with a lesser number", "kept forgotten by vector", "recover true", "recover false",
        "request -4", "request -3", "request -2", "request -1", "request 0", "request 1", "request 2");

    private static void see(String what) {
        SEEN.merge(what, 1, Integer::sum);
    }

    record Entry(int client, int number, int value) { }

    /** A message, or what is kept of one. */
    record Letter(int sender, int addressee, String kind, int view, int lastView, List<Integer> vector,
                  List<Entry> log, int commit) { }

    static final class Member {
        String status = "NORMAL";
        int view;
        int last;
        List<Entry> log = new ArrayList<>();
        int commit;
        List<Integer> vector = new ArrayList<>();
        Map<Integer, Integer> acked = new TreeMap<>();
        boolean paperSent;
        Map<Integer, Letter> votes = new TreeMap<>();
        Map<Integer, Letter> papers = new TreeMap<>();
        Map<Integer, Letter> responses = new TreeMap<>();

        Member(int n) {
            for (int i = 0; i < n; i++) {
                vector.add(0);
            }
        }

        void forgetKept() {
            votes.clear();
            papers.clear();
            responses.clear();
        }

        boolean is(String wanted) {
            return status.equals(wanted);
        }
    }

    static final class Model {
        static final List<String> KINDS =
            List.of("", "PREPARE", "OK", "FETCH", "STATE", "CHANGE", "PAPER", "RECOVERY", "RESPONSE");
        static final List<String> STATUSES = List.of("NORMAL", "CHANGING", "RECOVERING", "DOWN");
        final int n;
        final int f;
        final List<Member> members = new ArrayList<>();
        final List<Letter> letters = new ArrayList<>();
        final List<List<Integer>> nonces = new ArrayList<>();
        int nextAfter = -1;
        final int[] number = new int[4];
        final int[] answer = new int[4];

        Model(int size) {
            n = (size & 1) == 0 ? 3 : 5;
            f = (n - 1) / 2;
            for (int i = 0; i < n; i++) {
                members.add(new Member(n));
                nonces.add(new ArrayList<>());
            }
        }

        static int totalAfter(List<Entry> log, int count) {
            int total = 0;
            for (int i = 0; i < count; i++) {
                total = 3 * total + log.get(i).value() + log.get(i).client();
            }
            return total;
        }

        void send(int from, int to, String kind) {
            Member m = members.get(from);
            letters.add(new Letter(from, to, kind, m.view, m.last, new ArrayList<>(m.vector),
                new ArrayList<>(m.log), m.commit));
        }

        void sendAll(int from, String kind) {
            for (int to = 0; to < n; to++) {
                if (to != from) {
                    send(from, to, kind);
                }
            }
        }

        void answerTo(int client, int num, int total) {
            if (num >= number[client]) {
                number[client] = num;
                answer[client] = total;
            } else {
                see("client answered with a lesser number");
            }
        }

        boolean there(int k) {
            return k >= 0 && k < letters.size() && k >= letters.size() - 64;
        }

        boolean leads(int i) {
            return members.get(i).is("NORMAL") && members.get(i).view % n == i;
        }

        int request(int i, int client, int num, int value) {
            if (i < 0 || i >= n || client < 0 || client > 3 || num < 1) {
                return -1;
            }
            if (!leads(i)) {
                return -2;
            }
            Member m = members.get(i);
            for (Entry e : m.log) {
                if (e.client() == client && e.number() > num) {
                    return -3;
                }
            }
            for (int k = 0; k < m.log.size(); k++) {
                if (m.log.get(k).client() == client && m.log.get(k).number() == num) {
                    if (k < m.commit) {
                        answerTo(client, num, totalAfter(m.log, k + 1));
                        return 1;
                    }
                    return 2;
                }
            }
            if (m.log.size() == 24) {
                return -4;
            }
            m.log.add(new Entry(client, num, value));
            sendAll(i, "PREPARE");
            return 0;
        }

        int deliver(int k) {
            return there(k) ? receive(letters.get(k)) : -1;
        }

        int next() {
            for (int k = nextAfter + 1; k < letters.size(); k++) {
                if (there(k)) {
                    nextAfter = k;
                    return receive(letters.get(k));
                }
            }
            return -1;
        }

        boolean remind(int i) {
            if (i < 0 || i >= n || !leads(i)) {
                return false;
            }
            sendAll(i, "PREPARE");
            return true;
        }

        boolean suspect(int i) {
            if (i < 0 || i >= n || !members.get(i).is("NORMAL") && !members.get(i).is("CHANGING")) {
                return false;
            }
            start(i, members.get(i).view + 1);
            return true;
        }

        boolean gone(int i) {
            return members.get(i).is("DOWN") || members.get(i).is("RECOVERING");
        }

        boolean crash(int i) {
            if (i < 0 || i >= n || members.get(i).is("DOWN")) {
                return false;
            }
            int others = 0;
            for (int j = 0; j < n; j++) {
                others += j != i && gone(j) ? 1 : 0;
            }
            if (others >= f) {
                return false;
            }
            members.set(i, new Member(n));
            members.get(i).status = "DOWN";
            return true;
        }

        boolean recover(int i, int nonce) {
            if (i < 0 || i >= n || !gone(i) || nonce <= 0) {
                return false;
            }
            for (int earlier : nonces.get(i)) {
                if (nonce <= earlier) {
                    return false;
                }
            }
            nonces.get(i).add(nonce);
            members.set(i, new Member(n));
            members.get(i).status = "RECOVERING";
            members.get(i).vector.set(i, nonce);
            sendAll(i, "RECOVERY");
            return true;
        }

        void start(int i, int v) {
            Member m = members.get(i);
            m.status = "CHANGING";
            m.view = v;
            m.forgetKept();
            m.paperSent = false;
            sendAll(i, "CHANGE");
        }

        int receive(Letter x) {
            int outcome = outcome(x);
            see(x.kind() + " outcome " + outcome);
            if (outcome == 2) {
                take(x);
            }
            return outcome;
        }

        int outcome(Letter x) {
            Member r = members.get(x.addressee());
            boolean response = x.kind().equals("RESPONSE");
            if (r.is("DOWN") || r.is("RECOVERING") && !response || response && !r.is("RECOVERING")) {
                return 0;
            }
            if (x.vector().get(x.sender()) < r.vector.get(x.sender())) {
                return 1;
            }
            if (response && !x.vector().get(x.addressee()).equals(r.vector.get(x.addressee()))) {
                return 1;
            }
            return 2;
        }

        void take(Letter x) {
            Member r = members.get(x.addressee());
            for (int t = 0; t < n; t++) {
                r.vector.set(t, Math.max(r.vector.get(t), x.vector().get(t)));
            }
            for (Map<Integer, Letter> kept : List.of(r.votes, r.papers, r.responses)) {
                int before = kept.size();
                kept.values().removeIf(y -> y.vector().get(y.sender()) < r.vector.get(y.sender()));
                if (kept.size() < before) {
                    see("kept forgotten by vector");
                }
            }
            switch (x.kind()) {
                case "PREPARE" -> prepare(x, r);
                case "OK" -> ok(x, r);
                case "FETCH" -> {
                    if (r.is("NORMAL")) {
                        send(x.addressee(), x.sender(), "STATE");
                    }
                }
                case "STATE" -> state(x, r);
                case "CHANGE" -> change(x, r);
                case "PAPER" -> paper(x, r);
                case "RECOVERY" -> {
                    if (r.is("NORMAL")) {
                        send(x.addressee(), x.sender(), "RESPONSE");
                    }
                }
                default -> response(x, r);
            }
        }

        void prepare(Letter x, Member r) {
            if (x.view() < r.view) {
                see("PREPARE of an older view");
                return;
            }
            if (x.view() == r.view && r.is("NORMAL")) {
                if (x.log().size() > r.log.size() + 1) {
                    see("PREPARE too far");
                    send(x.addressee(), x.sender(), "FETCH");
                    return;
                }
                if (x.log().size() == r.log.size() + 1) {
                    r.log.add(x.log().get(x.log().size() - 1));
                }
                r.commit = Math.max(r.commit, Math.min(x.commit(), r.log.size()));
                send(x.addressee(), x.sender(), "OK");
                return;
            }
            see(x.view() == r.view ? "PREPARE while changing" : "PREPARE of a greater view");
            send(x.addressee(), x.sender(), "FETCH");
        }

        void ok(Letter x, Member r) {
            if (!r.is("NORMAL") || x.view() != r.view || r.view % n != x.addressee()) {
                see("OK of no use");
                return;
            }
            r.acked.merge(x.sender(), x.log().size(), Math::max);
            int before = r.commit;
            for (int k = before + 1; k <= 24; k++) {
                int enough = 0;
                for (int length : r.acked.values()) {
                    enough += length >= k ? 1 : 0;
                }
                if (enough >= f) {
                    r.commit = k;
                }
            }
            for (int k = before; k < r.commit && k < r.log.size(); k++) {
                answerTo(r.log.get(k).client(), r.log.get(k).number(), totalAfter(r.log, k + 1));
            }
            see(r.commit > before + 1 ? "OK commits several" : "OK commits at most one");
        }

        void state(Letter x, Member r) {
            if (x.view() % n == x.addressee()) {
                see("STATE to the primary");
                return;
            }
            boolean greater = x.view() > r.view;
            boolean changing = x.view() == r.view && r.is("CHANGING");
            boolean longer = x.view() == r.view && x.log().size() > r.log.size();
            if (greater || changing || longer) {
                see(greater ? "STATE of a greater view" : changing ? "STATE while changing" : "STATE longer");
                r.status = "NORMAL";
                r.view = x.view();
                r.last = x.view();
                r.log = new ArrayList<>(x.log());
                r.commit = Math.max(r.commit, x.commit());
                r.forgetKept();
                send(x.addressee(), x.view() % n, "OK");
            }
        }

        void change(Letter x, Member r) {
            if (x.view() > r.view) {
                start(x.addressee(), x.view());
            }
            if (x.view() == r.view && r.is("CHANGING")) {
                r.votes.put(x.sender(), x);
                if (r.view % n != x.addressee() && !r.paperSent && r.votes.size() >= f) {
                    send(x.addressee(), r.view % n, "PAPER");
                    r.paperSent = true;
                }
            }
        }

        void paper(Letter x, Member r) {
            if (x.view() > r.view) {
                see("PAPER starts a change");
                start(x.addressee(), x.view());
            }
            if (x.view() != r.view || !r.is("CHANGING")) {
                return;
            }
            r.papers.put(x.sender(), x);
            if (r.papers.size() < f) {
                return;
            }
            int view = r.last;
            int length = r.log.size();
            for (Letter p : r.papers.values()) {
                if (p.lastView() > view || p.lastView() == view && p.log().size() > length) {
                    view = p.lastView();
                    length = p.log().size();
                }
            }
            if (r.last != view || r.log.size() != length) {
                see(r.last != view ? "PAPER with a greater last view" : "PAPER with a longer log");
                for (Letter p : r.papers.values()) {
                    if (p.lastView() == view && p.log().size() == length) {
                        r.log = new ArrayList<>(p.log());
                        break;
                    }
                }
            }
            for (Letter p : r.papers.values()) {
                r.commit = Math.max(r.commit, p.commit());
            }
            r.status = "NORMAL";
            r.last = x.view();
            r.acked.clear();
            r.forgetKept();
            sendAll(x.addressee(), "STATE");
        }

        void response(Letter x, Member r) {
            r.responses.put(x.sender(), x);
            if (r.responses.size() < f + 1) {
                return;
            }
            int greatest = 0;
            for (Letter p : r.responses.values()) {
                greatest = Math.max(greatest, p.view());
            }
            for (Letter p : r.responses.values()) {
                if (p.sender() == greatest % n && p.view() == greatest) {
                    see("recovered");
                    r.status = "NORMAL";
                    r.view = greatest;
                    r.last = greatest;
                    r.log = new ArrayList<>(p.log());
                    r.commit = p.commit();
                    r.forgetKept();
                    return;
                }
            }
            see("responses enough, but not the primary's");
        }

        boolean isMember(int i) {
            return i >= 0 && i < n;
        }

        int look(int what, int a, int b) {
            if (what == 7) {
                return letters.size();
            }
            if (what == 8) {
                return !there(a) ? -1 : KINDS.indexOf(letters.get(a).kind()) + 16 * letters.get(a).sender()
                    + 128 * letters.get(a).addressee() + 1024 * letters.get(a).view();
            }
            if (what == 9) {
                return a < 0 || a > 3 ? -1 : number[a];
            }
            if (what == 10) {
                return a < 0 || a > 3 ? 0 : answer[a];
            }
            if (!isMember(a)) {
                return what == 4 || what == 6 ? 0 : -1;
            }
            Member m = members.get(a);
            boolean has = b >= 0 && b < m.log.size();
            return switch (what) {
                case 0 -> STATUSES.indexOf(m.status);
                case 1 -> m.view;
                case 2 -> m.log.size();
                case 3 -> m.commit;
                case 4 -> has ? m.log.get(b).value() : 0;
                case 5 -> has ? 4 * m.log.get(b).number() + m.log.get(b).client() : -1;
                case 6 -> totalAfter(m.log, Math.min(m.commit, m.log.size()));
                default -> isMember(b) ? m.vector.get(b) : -1;
            };
        }
    }

    static int look(GroupLog x, int what, int a, int b) {
        return switch (what) {
            case 0 -> x.status(a);
            case 1 -> x.view(a);
            case 2 -> x.length(a);
            case 3 -> x.commit(a);
            case 4 -> x.entry(a, b);
            case 5 -> x.origin(a, b);
            case 6 -> x.total(a);
            case 7 -> x.sent();
            case 8 -> x.message(a);
            case 9 -> x.answered(a);
            case 10 -> x.answer(a);
            default -> x.vector(a, b);
        };
    }

    /** One run: its own mix of calls, drawn from its number alone. */
    static final class Run {
        final int run;
        final Model model;
        final GroupLog group;
        long seed;
        int[] weights = new int[9];
        int farBack;
        int nonce = 0;
        final StringBuilder story = new StringBuilder();

        Run(int run) {
            this.run = run;
            seed = run * 7919L + 17;
            model = new Model(run);
            group = new GroupLog(run);
            boolean calm = draw(3) == 0;
            int[] most = {8, 60, 60, 4, calm ? 1 : 6, calm ? 1 : 5, calm ? 2 : 8, 6, 30};
            for (int i = 0; i < weights.length; i++) {
                weights[i] = draw(most[i] + 1);
            }
            weights[0] += 1;
            weights[1] += weights[2] == 0 ? 10 : 0;
            farBack = draw(2) == 0 ? 6 : 70;
        }

        int draw(int bound) {
            seed = seed * 6364136223846793005L + 1442695040888963407L;
            return (int) ((seed >>> 33) % bound);
        }

        int anyReplica() {
            return draw(40) == 0 ? draw(12) - 4 : draw(model.n);
        }

        int anyNumber(int usual) {
            int pick = draw(60);
            return pick == 0 ? Integer.MIN_VALUE : pick == 1 ? Integer.MAX_VALUE : pick == 2 ? -draw(3) : usual;
        }

        void due(String call, int got, int want) {
            story.append("  ").append(call).append(" -> ").append(want).append('\n');
            if (got != want) {
                wrong++;
                if (wrong <= 5) {
                    System.out.println("run " + run + ":\n" + story + "  and answered " + got);
                }
            }
        }

        int leader() {
            for (int i = 0; i < model.n; i++) {
                if (model.leads(i) && draw(2) == 0) {
                    return i;
                }
            }
            return anyReplica();
        }

        void request() {
            int i = draw(8) == 0 ? anyReplica() : leader();
            int client = draw(40) == 0 ? draw(12) - 4 : draw(4);
            int num = anyNumber(1 + draw(3) + model.letters.size() / 16);
            int value = draw(4) == 0 ? (int) (seed >>> 20) : draw(100);
            int want = model.request(i, client, num, value);
            see("request " + want);
            due("request(" + i + ", " + client + ", " + num + ", " + value + ")",
                group.request(i, client, num, value), want);
        }

        void act(int what) {
            int i = anyReplica();
            switch (what) {
                case 0 -> request();
                case 1 -> due("next()", group.next(), model.next());
                case 2 -> {
                    int k = anyNumber(model.letters.size() - draw(farBack));
                    due("deliver(" + k + ")", group.deliver(k), model.deliver(k));
                }
                case 3 -> {
                    int leader = leader();
                    due("remind(" + leader + ")", group.remind(leader) ? 1 : 0, model.remind(leader) ? 1 : 0);
                }
                case 4 -> due("suspect(" + i + ")", group.suspect(i) ? 1 : 0, model.suspect(i) ? 1 : 0);
                case 5 -> due("crash(" + i + ")", group.crash(i) ? 1 : 0, model.crash(i) ? 1 : 0);
                case 6 -> {
                    nonce += draw(2);
                    int given = anyNumber(draw(30) == 0 ? draw(3) : nonce);
                    // The greatest int would leave no nonce for later calls of this run.
                    given = given == Integer.MAX_VALUE ? 0 : given;
                    boolean want = model.recover(i, given);
                    see("recover " + want);
                    due("recover(" + i + ", " + given + ")", group.recover(i, given) ? 1 : 0, want ? 1 : 0);
                }
                default -> lookSomewhere();
            }
        }

        void lookSomewhere() {
            int what = draw(12);
            int a = what == 8 ? anyNumber(model.letters.size() - draw(70)) : anyNumber(draw(9) - 1);
            int b = anyNumber(draw(what == 11 ? 6 : 26));
            due("look " + what + " (" + a + ", " + b + ")", look(group, what, a, b), model.look(what, a, b));
        }

        /** What the whole group is at the end, as far as calls are left for it. */
        void compareAll(int left) {
            for (int what = 0; what <= 11; what++) {
                for (int a = 0; a < (what == 7 ? 1 : 5); a++) {
                    int entries = model.isMember(a) ? model.members.get(a).log.size() : 0;
                    int bs = what == 4 || what == 5 ? entries + 1 : what == 11 ? model.n : 1;
                    for (int b = 0; b < bs && left > 0; b++, left--) {
                        due("look " + what + " (" + a + ", " + b + ")", look(group, what, a, b),
                            model.look(what, a, b));
                    }
                }
            }
        }

        void go() {
            int sum = 0;
            for (int weight : weights) {
                sum += weight;
            }
            int left = CALLS;
            int acts = 40 + draw(CALLS - 140);
            for (; acts > 0; acts--, left--) {
                int pick = draw(sum);
                int what = 0;
                while (pick >= weights[what]) {
                    pick -= weights[what];
                    what++;
                }
                act(what);
            }
            compareAll(left);
        }
    }

    public static void main(String[] args) {
        for (int run = 0; run < RUNS; run++) {
            new Run(run).go();
        }
        for (String what : MUST_BE_SEEN) {
            if (!SEEN.containsKey(what)) {
                wrong++;
                System.out.println("no run came through: " + what);
            }
        }
        System.out.println(wrong == 0 ? "all answers are as due" : wrong + " answers are not as due");
        if (wrong != 0) {
            System.exit(1);
        }
    }
}
