import java.util.ArrayList;
import java.util.Comparator;
import java.util.List;
import java.util.NoSuchElementException;
import java.util.TreeSet;

/** The document once more, with lists and number by number, to be compared with PathTrust by RandomTest. */
public final class Model {
    static final int NONE = -1;
    static final int PARSE_ERROR = -4;

    record Report(int origin, int way, int time, int low, int high, int via, int hops) {
        boolean isOwn() {
            return hops == 0;
        }
    }

    record Message(int to, Report report) {
    }

    /** Everything that undo() restores. */
    static final class World {
        List<String> agents = new ArrayList<>();
        List<String> ways = new ArrayList<>();
        int[] rules = {1, 2, 3, 50, 2};
        int time = 0;
        Integer[][] trust = new Integer[6][6];
        List<List<Report>> lists = new ArrayList<>();
        List<Message> queue = new ArrayList<>();
        int[][] accounts = new int[6][5];

        World copy() {
            World w = new World();
            w.agents = new ArrayList<>(agents);
            w.ways = new ArrayList<>(ways);
            w.rules = rules.clone();
            w.time = time;
            for (int i = 0; i < 6; i++) {
                w.trust[i] = trust[i].clone();
                w.accounts[i] = accounts[i].clone();
            }
            for (List<Report> list : lists) {
                w.lists.add(new ArrayList<>(list));
            }
            w.queue = new ArrayList<>(queue);
            return w;
        }

        int age(Report r) {
            return time - r.time;
        }

        boolean linked(int a, int b) {
            return trust[a][b] != null;
        }

        int low(Report r, int more) {
            return Math.max(0, r.low - rules[0] * age(r) - more);
        }

        int high(Report r, int more) {
            return Math.min(999, r.high + rules[0] * age(r) + more);
        }

        Report ownReport(int agent, int way) {
            for (Report r : lists.get(agent)) {
                if (r.way == way && r.origin == agent) {
                    return r;
                }
            }
            return null;
        }

        boolean judge(int agent, Report r, Report own) {
            if (!linked(agent, r.via)) {
                return false;
            }
            boolean common = false;
            for (int n = 0; n <= 999; n++) {
                common |= low(r, 0) <= n && n <= high(r, 0) && low(own, 0) <= n && n <= high(own, 0);
            }
            accounts[agent][common ? 3 : 4]++;
            int before = trust[agent][r.via];
            trust[agent][r.via] = common ? Math.min(10, before + 1) : Math.max(0, before - 2);
            return !common;
        }

        int probe(int agent, int way, int low, int high) {
            accounts[agent][0]++;
            Report own = new Report(agent, way, time, low, high, agent, 0);
            lists.get(agent).remove(ownReport(agent, way));
            lists.get(agent).add(own);
            int contradictions = 0;
            for (Report r : lists.get(agent)) {
                if (r != own && r.way == way && judge(agent, r, own)) {
                    contradictions++;
                }
            }
            return contradictions;
        }

        int send(int agent, boolean share) {
            int sent = 0;
            for (Report r : lists.get(agent)) {
                for (int other = 0; other < agents.size(); other++) {
                    boolean goes = share ? r.isOwn() : r.hops < rules[4] && other != r.origin && other != r.via;
                    if (goes && linked(agent, other) && queue.size() < 100) {
                        queue.add(new Message(other,
                                new Report(r.origin, r.way, r.time, r.low, r.high, agent, r.hops + 1)));
                        sent++;
                    }
                }
            }
            return sent;
        }

        int reason(Message m) {
            if (!linked(m.to, m.report.via)) {
                return 1;
            }
            if (age(m.report) > rules[3]) {
                return 2;
            }
            for (Report r : lists.get(m.to)) {
                if (r.origin == m.report.origin && r.way == m.report.way && (r.time > m.report.time
                        || r.time == m.report.time && !(r.hops > m.report.hops))) {
                    return 3;
                }
            }
            return 0;
        }

        int deliver(int many) {
            int good = 0;
            for (int i = 0; i < many && !queue.isEmpty(); i++) {
                Message m = queue.remove(0);
                if (reason(m) != 0) {
                    accounts[m.to][2]++;
                    continue;
                }
                good++;
                accounts[m.to][1]++;
                lists.get(m.to).removeIf(r -> r.origin == m.report.origin && r.way == m.report.way);
                lists.get(m.to).add(m.report);
                Report own = ownReport(m.to, m.report.way);
                if (own != null) {
                    judge(m.to, m.report, own);
                }
            }
            return good;
        }

        int exchange(int rounds) {
            int good = 0;
            for (int i = 0; i < rounds; i++) {
                for (int agent = 0; agent < agents.size(); agent++) {
                    send(agent, false);
                }
                good += deliver(queue.size());
            }
            return good;
        }

        int pass(int ticks) {
            time += ticks;
            int left = 0;
            for (List<Report> list : lists) {
                int before = list.size();
                list.removeIf(r -> age(r) > rules[3]);
                left += before - list.size();
            }
            return left;
        }

        int slack(int agent, Report r) {
            return r.isOwn() ? 0 : rules[1] * (10 - trust[agent][r.via]) * r.hops;
        }

        boolean leftOut(int agent, Report r) {
            return !r.isOwn() && (!linked(agent, r.via) || trust[agent][r.via] < rules[2]);
        }

        List<Report> counted(int agent, int way) {
            List<Report> found = new ArrayList<>();
            for (Report r : lists.get(agent)) {
                if (r.way == way && !leftOut(agent, r)) {
                    found.add(r);
                }
            }
            found.sort(Comparator.comparing((Report r) -> !r.isOwn())
                    .thenComparing((Report r) -> r.isOwn() ? 0 : -trust[agent][r.via])
                    .thenComparing(Report::hops).thenComparing(Report::origin));
            return found;
        }

        /** The low bound, the high one, and the origins that are taken and contradicted. */
        int[] belief(int agent, int way) {
            int[] b = {0, 999, 0, 0};
            for (Report r : counted(agent, way)) {
                int low = Math.max(b[0], low(r, slack(agent, r)));
                int high = Math.min(b[1], high(r, slack(agent, r)));
                if (low <= high) {
                    b[0] = low;
                    b[1] = high;
                    b[2] |= 1 << r.origin;
                } else {
                    b[3] |= 1 << r.origin;
                }
            }
            return b;
        }

        int width(int agent, int way) {
            int[] b = belief(agent, way);
            return b[1] - b[0];
        }

        int status(int agent, Report r) {
            int[] b = belief(agent, r.way);
            return (b[2] >> r.origin & 1) == 1 ? 0 : (b[3] >> r.origin & 1) == 1 ? 1 : 2;
        }

        /** The set, its low bound and its high bound, by all sets and all numbers. */
        int[] majority(int agent, int way) {
            int[] best = {0, NONE, NONE};
            List<Report> all = counted(agent, way);
            for (int set = 1; set < 64; set++) {
                int set1 = set;
                List<Report> some = new ArrayList<>(all);
                some.removeIf(r -> (set1 >> r.origin & 1) == 0);
                if (some.size() < Integer.bitCount(set) || some.size() <= Integer.bitCount(best[0])) {
                    continue;
                }
                TreeSet<Integer> numbers = new TreeSet<>();
                for (int n = 0; n <= 999; n++) {
                    numbers.add(n);
                }
                for (Report r : some) {
                    numbers.removeIf(n -> n < low(r, slack(agent, r)) || n > high(r, slack(agent, r)));
                }
                if (!numbers.isEmpty()) {
                    best = new int[] {set, numbers.first(), numbers.last()};
                }
            }
            return best;
        }

        int best(int agent, int rule) {
            int found = NONE;
            for (int way = ways.size() - 1; way >= 0; way--) {
                if (found == NONE || value(agent, way, rule) <= value(agent, found, rule)) {
                    found = way;
                }
            }
            return found;
        }

        int value(int agent, int way, int rule) {
            int[] b = belief(agent, way);
            return rule == 0 ? b[1] : rule == 1 ? b[0] : b[0] + b[1];
        }

        World without(int agent, int via) {
            World w = copy();
            w.lists.get(agent).removeIf(r -> r.via == via);
            return w;
        }
    }

    World w = new World();
    List<World> undo = new ArrayList<>();
    World[] slots = new World[2];
    List<Integer> input = new ArrayList<>();
    String output = "";
    int errorCode = 0;
    int errorPosition = NONE;

    private void agent(int agent) {
        if (agent < 0 || agent >= w.agents.size()) {
            throw new IndexOutOfBoundsException();
        }
    }

    private void agents(int agent, int other) {
        agent(agent);
        agent(other);
    }

    private void way(int way) {
        if (way < 0 || way >= w.ways.size()) {
            throw new IndexOutOfBoundsException();
        }
    }

    private void agentAndWay(int agent, int way) {
        agent(agent);
        way(way);
    }

    private void range(int value, int from, int to) {
        if (value < from || value > to) {
            throw new IllegalArgumentException();
        }
    }

    private void bounds(int low, int high) {
        range(low, 0, 999);
        range(high, low, 999);
    }

    private Report at(int agent, int index) {
        agent(agent);
        if (index < 0 || index >= w.lists.get(agent).size()) {
            throw new IndexOutOfBoundsException();
        }
        return w.lists.get(agent).get(index);
    }

    private void saveForUndo() {
        undo.add(w.copy());
        if (undo.size() > 6) {
            undo.remove(0);
        }
    }

    public int append(int a, int b, int c, int d, int e) {
        if (input.size() > 580) {
            throw new IllegalStateException();
        }
        for (int word : new int[] {a, b, c, d, e}) {
            for (int shift = 24; shift >= 0; shift -= 8) {
                input.add(word >>> shift & 255);
            }
        }
        return input.size();
    }

    public void truncate(int length) {
        range(length, 0, input.size());
        input.subList(length, input.size()).clear();
    }

    private String takeInput() {
        StringBuilder text = new StringBuilder();
        for (int b : input) {
            text.append((char) b);
        }
        input.clear();
        return text.toString();
    }

    public int load() {
        ModelText text = new ModelText(takeInput());
        World loaded = text.parse();
        errorCode = text.code;
        errorPosition = text.position;
        if (loaded == null) {
            return PARSE_ERROR;
        }
        saveForUndo();
        w = loaded;
        return w.agents.size();
    }

    public int errorCode() {
        return errorCode;
    }

    public int errorPosition() {
        return errorPosition;
    }

    public int findAgent() {
        return w.agents.indexOf(takeInput());
    }

    public int findWay() {
        return w.ways.indexOf(takeInput());
    }

    public int property(int what) {
        range(what, 0, 9);
        int links = 0;
        for (Integer[] row : w.trust) {
            for (Integer t : row) {
                links += t == null ? 0 : 1;
            }
        }
        return new int[] {w.agents.size(), w.ways.size(), w.time, w.rules[0], w.rules[1], w.rules[2], w.rules[3],
            w.rules[4], w.queue.size(), links / 2}[what];
    }

    public int trust(int agent, int other) {
        agents(agent, other);
        return w.linked(agent, other) ? w.trust[agent][other] : NONE;
    }

    public int neighbors(int agent) {
        agent(agent);
        int set = 0;
        for (int i = 0; i < 6; i++) {
            set += w.linked(agent, i) ? 1 << i : 0;
        }
        return set;
    }

    public int distance(int agent, int other) {
        agents(agent, other);
        return shortest(agent, other, 1 << agent);
    }

    private int shortest(int agent, int other, int seen) {
        if (agent == other) {
            return 0;
        }
        int best = NONE;
        for (int next = 0; next < 6; next++) {
            if (w.linked(agent, next) && (seen >> next & 1) == 0) {
                int rest = shortest(next, other, seen | 1 << next);
                if (rest != NONE && (best == NONE || rest + 1 < best)) {
                    best = rest + 1;
                }
            }
        }
        return best;
    }

    public int bottleneck(int agent, int other) {
        agents(agent, other);
        return widest(agent, other, 1 << agent);
    }

    private int widest(int agent, int other, int seen) {
        if (agent == other) {
            return 10;
        }
        int best = NONE;
        for (int next = 0; next < 6; next++) {
            if (w.linked(agent, next) && (seen >> next & 1) == 0) {
                best = Math.max(best, Math.min(w.trust[agent][next], widest(next, other, seen | 1 << next)));
            }
        }
        return best;
    }

    public int mostTrusted(int agent) {
        agent(agent);
        int found = NONE;
        for (int i = 5; i >= 0; i--) {
            if (w.linked(agent, i) && (found == NONE || w.trust[agent][i] >= w.trust[agent][found])) {
                found = i;
            }
        }
        return found;
    }

    public int reports(int agent) {
        agent(agent);
        return w.lists.get(agent).size();
    }

    public int report(int agent, int index, int what) {
        Report r = at(agent, index);
        range(what, 0, 6);
        return new int[] {r.origin, r.via, r.hops, r.way, r.time, r.low, r.high}[what];
    }

    public int status(int agent, int index) {
        return w.status(agent, at(agent, index));
    }

    public int moved(int agent, int index, int end) {
        Report r = at(agent, index);
        range(end, 0, 1);
        if (!r.isOwn() && !w.linked(agent, r.via)) {
            return NONE;
        }
        return end == 0 ? w.low(r, w.slack(agent, r)) : w.high(r, w.slack(agent, r));
    }

    public int own(int agent, int way) {
        agentAndWay(agent, way);
        return w.lists.get(agent).indexOf(w.ownReport(agent, way));
    }

    public int belief(int agent, int way, int end) {
        agentAndWay(agent, way);
        range(end, 0, 1);
        return w.belief(agent, way)[end];
    }

    public int sources(int agent, int way) {
        agentAndWay(agent, way);
        return w.belief(agent, way)[2];
    }

    public int contradicted(int agent, int way) {
        agentAndWay(agent, way);
        return w.belief(agent, way)[3];
    }

    public int majority(int agent, int way) {
        agentAndWay(agent, way);
        return w.majority(agent, way)[0];
    }

    public int majorityBound(int agent, int way, int end) {
        agentAndWay(agent, way);
        range(end, 0, 1);
        return w.majority(agent, way)[1 + end];
    }

    public int best(int agent, int rule) {
        agent(agent);
        range(rule, 0, 2);
        return w.best(agent, rule);
    }

    public int rivals(int agent) {
        agent(agent);
        int best = w.best(agent, 0);
        int set = 0;
        for (int way = 0; way < w.ways.size(); way++) {
            set += way != best && w.belief(agent, way)[0] < w.belief(agent, best)[1] ? 1 << way : 0;
        }
        return set;
    }

    public int nextProbe(int agent) {
        int rivals = rivals(agent);
        int best = w.best(agent, 0);
        int found = NONE;
        for (int way = w.ways.size() - 1; way >= 0 && rivals != 0; way--) {
            boolean counts = way == best || (rivals >> way & 1) == 1;
            if (counts && (found == NONE || w.width(agent, way) >= w.width(agent, found))) {
                found = way;
            }
        }
        return found;
    }

    public int regret(int agent) {
        agent(agent);
        if (w.ways.isEmpty()) {
            return NONE;
        }
        int least = 999;
        for (int way = 0; way < w.ways.size(); way++) {
            least = Math.min(least, w.belief(agent, way)[0]);
        }
        return w.belief(agent, w.best(agent, 0))[1] - least;
    }

    public int saved(int agent) {
        agent(agent);
        int count = 0;
        for (int way = 0; way < w.ways.size(); way++) {
            int[] b = w.belief(agent, way);
            count += w.ownReport(agent, way) == null && (b[0] != 0 || b[1] != 999) ? 1 : 0;
        }
        return count;
    }

    public int agreeing(int agent, int other) {
        agents(agent, other);
        int count = 0;
        for (int way = 0; way < w.ways.size(); way++) {
            int[] a = w.belief(agent, way);
            int[] b = w.belief(other, way);
            count += a[1] < b[0] || b[1] < a[0] ? 0 : 1;
        }
        return count;
    }

    public int common(int way, int end) {
        way(way);
        range(end, 0, 1);
        TreeSet<Integer> numbers = new TreeSet<>();
        for (int n = 0; n <= 999; n++) {
            numbers.add(n);
        }
        boolean any = false;
        for (int agent = 0; agent < w.agents.size(); agent++) {
            Report own = w.ownReport(agent, way);
            if (own != null) {
                any = true;
                numbers.removeIf(n -> n < w.low(own, 0) || n > w.high(own, 0));
            }
        }
        return !any || numbers.isEmpty() ? NONE : end == 0 ? numbers.first() : numbers.last();
    }

    public int account(int agent, int what) {
        agent(agent);
        range(what, 0, 4);
        return w.accounts[agent][what];
    }

    public int message(int index, int what) {
        range(what, 0, 5);
        if (index < 0 || index >= w.queue.size()) {
            throw new NoSuchElementException();
        }
        Message m = w.queue.get(index);
        Report r = m.report;
        return new int[] {r.via, m.to, r.origin, r.hops, r.way, w.reason(m)}[what];
    }

    public float standing(int agent) {
        agent(agent);
        int sum = 0;
        int count = 0;
        for (int i = 0; i < 6; i++) {
            sum += w.linked(i, agent) ? w.trust[i][agent] : 0;
            count += w.linked(i, agent) ? 1 : 0;
        }
        return count == 0 ? 0 : (float) sum / count;
    }

    public int beliefIf(int agent, int way, int low, int high, int end) {
        agentAndWay(agent, way);
        bounds(low, high);
        range(end, 0, 1);
        World then = w.copy();
        then.probe(agent, way, low, high);
        return then.belief(agent, way)[end];
    }

    public int trustIf(int agent, int way, int low, int high, int other) {
        agentAndWay(agent, way);
        agent(other);
        bounds(low, high);
        World then = w.copy();
        then.probe(agent, way, low, high);
        return then.linked(agent, other) ? then.trust[agent][other] : NONE;
    }

    public int informed(int agent, int way, int rounds) {
        agentAndWay(agent, way);
        range(rounds, 0, 6);
        World then = w.copy();
        then.exchange(rounds);
        int set = 0;
        for (int i = 0; i < then.agents.size(); i++) {
            for (Report r : then.lists.get(i)) {
                set |= r.origin == agent && r.way == way ? 1 << i : 0;
            }
        }
        return set;
    }

    public int widthAfter(int agent, int way, int ticks) {
        agentAndWay(agent, way);
        range(ticks, 0, 99);
        World then = w.copy();
        if (ticks > 0) {
            then.pass(ticks);
        }
        return then.width(agent, way);
    }

    public int widthWithout(int agent, int way, int other) {
        agentAndWay(agent, way);
        agent(other);
        return w.without(agent, other).width(agent, way);
    }

    public int mostUseful(int agent) {
        agent(agent);
        int found = NONE;
        int most = NONE;
        for (int i = 0; i < w.agents.size(); i++) {
            int sum = 0;
            for (int way = 0; way < w.ways.size(); way++) {
                sum += w.without(agent, i).width(agent, way);
            }
            if (w.linked(agent, i) && (found == NONE || sum > most)) {
                found = i;
                most = sum;
            }
        }
        return found;
    }

    public int bestThen(int agent) {
        agent(agent);
        World then = w.copy();
        then.deliver(100);
        return then.best(agent, 0);
    }

    public int probe(int agent, int way, int low, int high) {
        agentAndWay(agent, way);
        bounds(low, high);
        saveForUndo();
        return w.probe(agent, way, low, high);
    }

    public int share(int agent) {
        agent(agent);
        saveForUndo();
        return w.send(agent, true);
    }

    public int relay(int agent) {
        agent(agent);
        saveForUndo();
        return w.send(agent, false);
    }

    public int deliver(int many) {
        range(many, 1, 100);
        saveForUndo();
        return w.deliver(many);
    }

    public int lose() {
        if (w.queue.isEmpty()) {
            throw new IllegalStateException();
        }
        saveForUndo();
        w.queue.remove(0);
        return w.queue.size();
    }

    public int exchange(int rounds) {
        range(rounds, 1, 6);
        saveForUndo();
        return w.exchange(rounds);
    }

    public int pass(int ticks) {
        range(ticks, 1, 99);
        saveForUndo();
        return w.pass(ticks);
    }

    public boolean link(int agent, int other, boolean on) {
        agents(agent, other);
        if (agent == other) {
            throw new IllegalArgumentException();
        }
        saveForUndo();
        boolean was = w.linked(agent, other);
        if (!on) {
            w.trust[agent][other] = w.trust[other][agent] = null;
        } else if (!was) {
            w.trust[agent][other] = w.trust[other][agent] = 5;
        }
        return was;
    }

    public int setTrust(int agent, int other, int trust) {
        agents(agent, other);
        range(trust, 0, 10);
        if (!w.linked(agent, other)) {
            throw new IllegalStateException();
        }
        saveForUndo();
        int previous = w.trust[agent][other];
        w.trust[agent][other] = trust;
        return previous;
    }

    public int setRule(int what, int value) {
        range(what, 0, 4);
        range(value, what < 3 ? 0 : 1, new int[] {20, 50, 10, 99, 3}[what]);
        saveForUndo();
        int previous = w.rules[what];
        w.rules[what] = value;
        return previous;
    }

    public int forget(int agent, int way) {
        agentAndWay(agent, way);
        saveForUndo();
        int before = w.lists.get(agent).size();
        w.lists.get(agent).removeIf(r -> r.way == way);
        return before - w.lists.get(agent).size();
    }

    public int cleanse(int agent) {
        agent(agent);
        saveForUndo();
        List<Report> stay = new ArrayList<>();
        for (Report r : w.lists.get(agent)) {
            if (w.status(agent, r) != 1) {
                stay.add(r);
            }
        }
        int left = w.lists.get(agent).size() - stay.size();
        w.lists.set(agent, stay);
        return left;
    }

    public int keep(int slot) {
        if (slot != 0 && slot != 1) {
            throw new IndexOutOfBoundsException();
        }
        slots[slot] = w.copy();
        return w.time;
    }

    public int restore(int slot) {
        if (slot != 0 && slot != 1) {
            throw new IndexOutOfBoundsException();
        }
        if (slots[slot] == null) {
            throw new IllegalStateException();
        }
        saveForUndo();
        w = slots[slot].copy();
        return w.time;
    }

    public int undo() {
        if (undo.isEmpty()) {
            throw new IllegalStateException();
        }
        w = undo.remove(undo.size() - 1);
        return undo.size();
    }

    public int undoCount() {
        return undo.size();
    }

    public int writeBeliefs(int agent) {
        agent(agent);
        List<String> parts = new ArrayList<>();
        for (int way = 0; way < w.ways.size(); way++) {
            int[] b = w.belief(agent, way);
            parts.add(w.ways.get(way) + ":" + b[0] + "-" + b[1]);
        }
        output = String.join(" ", parts);
        return output.length();
    }

    public int writeReports(int agent) {
        agent(agent);
        output = "";
        for (Report r : w.lists.get(agent)) {
            output += w.agents.get(r.origin) + "/" + w.ways.get(r.way) + " " + r.low + "-" + r.high + "@" + r.time
                    + new String[] {"", "!", "?"}[w.status(agent, r)] + "\n";
        }
        return output.length();
    }

    public int outputByte(int index) {
        if (index < 0 || index >= output.length()) {
            throw new IndexOutOfBoundsException();
        }
        return output.charAt(index);
    }
}
