import java.util.Arrays;
import java.util.NoSuchElementException;

/** A desk for probes of ways that neighbors share. The document (../shared/DOC.md) tells each promise. */
public final class PathTrust {
    public static final int NONE = -1;
    public static final int PARSE_ERROR = -4;

    private static final int MOST_INPUT = 600;
    // 36 reports with two names of six letters, two bounds, a time of ten digits and six signs more.
    private static final int MOST_OUTPUT = 1224;
    private static final int APPENDED_BYTES = 20;
    private static final int MOST_NAMES = 6;
    private static final int MOST_LETTERS = 6;
    private static final int LETTER_BITS = 5;
    private static final int LETTER_MASK = 31;
    private static final int MOST_MESSAGES = 100;
    private static final int MOST_UNDO = 6;
    private static final int SLOTS = 2;
    private static final int MOST_ROUNDS = 6;
    private static final int MOST_TICKS = 99;
    private static final int TOP_BOUND = 999;
    private static final int TOP_TRUST = 10;
    private static final int FIRST_TRUST = 5;

    private static final int LOW_END = 0;
    private static final int HIGH_END = 1;

    private static final int BY_HIGH = 0;
    private static final int BY_LOW = 1;
    private static final int BY_SUM = 2;

    private static final int DRIFT = 0;
    private static final int SLACK = 1;
    private static final int LEAST = 2;
    private static final int AGE = 3;
    private static final int HOPS = 4;
    private static final int RULES = 5;
    private static final int[] RULE_FROM = {0, 0, 0, 1, 1};
    private static final int[] RULE_TO = {20, 50, 10, 99, 3};
    private static final int[] RULE_AT_FIRST = {1, 2, 3, 50, 2};

    // The order of the first seven is that of the parameter what of report().
    private static final int R_ORIGIN = 0;
    private static final int R_VIA = 1;
    private static final int R_HOPS = 2;
    private static final int R_WAY = 3;
    private static final int R_TIME = 4;
    private static final int R_LOW = 5;
    private static final int R_HIGH = 6;
    private static final int R_GOAL = 7;
    private static final int ROW_CELLS = 8;

    private static final int PROBES = 0;
    private static final int ACCEPTED = 1;
    private static final int REFUSED = 2;
    private static final int CONFIRMATIONS = 3;
    private static final int CONTRADICTIONS = 4;
    private static final int ACCOUNTS = 5;

    private static final int TAKEN = 0;
    private static final int CONTRADICTED = 1;
    private static final int LEFT_OUT = 2;
    private static final int WAITING = 3;

    private static final int END = 0;
    private static final int WORD = 1;
    private static final int NUMBER = 2;
    private static final int SYMBOL = 3;
    private static final int BLANK = 4;

    private static final int CANNOT_STAND = 1;
    private static final int OUT_OF_RANGE = 2;
    private static final int WRONG_NAME = 3;
    private static final int TOO_MANY = 4;

    private final Buffer input = new Buffer(MOST_INPUT);
    private final Buffer output = new Buffer(MOST_OUTPUT);
    private final View view = new View();
    private final Desk now = new Desk();
    // Texts are parsed and questions of what would be are tried out here, so that the desk itself stays as it is.
    private final Desk trial = new Desk();
    private final Parser parser = new Parser(input, trial);
    private final History history = new History();
    private final Desk[] slots = new Desk[SLOTS];

    public PathTrust() {
    }

    public int append(int a, int b, int c, int d, int e) throws IllegalStateException {
        if (input.length + APPENDED_BYTES > MOST_INPUT) {
            throw new IllegalStateException("the input buffer is full");
        }
        input.addFour(a);
        input.addFour(b);
        input.addFour(c);
        input.addFour(d);
        input.addFour(e);
        return input.length;
    }

    public void truncate(int length) throws IllegalArgumentException {
        checkRange(length, 0, input.length);
        input.length = length;
    }

    public int load() {
        boolean good = parser.parse();
        input.length = 0;
        if (!good) {
            return PARSE_ERROR;
        }
        history.push(now);
        now.become(trial);
        return now.agents.count;
    }

    public int errorCode() {
        return parser.code;
    }

    public int errorPosition() {
        return parser.position;
    }

    public int findAgent() {
        return findInput(now.agents);
    }

    public int findWay() {
        return findInput(now.ways);
    }

    public int property(int what) throws IllegalArgumentException {
        checkRange(what, 0, 9);
        switch (what) {
            case 0:
                return now.agents.count;
            case 1:
                return now.ways.count;
            case 2:
                return now.time;
            case 8:
                return now.queue.count;
            case 9:
                return now.linkCount();
            default:
                return now.rule(what - 3);
        }
    }

    public int trust(int agent, int other) throws IndexOutOfBoundsException {
        checkAgent(agent);
        checkAgent(other);
        return now.trustIn(agent, other);
    }

    public int neighbors(int agent) throws IndexOutOfBoundsException {
        checkAgent(agent);
        int set = 0;
        for (int other = 0; other < now.agents.count; other++) {
            if (now.isLinked(agent, other)) {
                set |= 1 << other;
            }
        }
        return set;
    }

    public int distance(int agent, int other) throws IndexOutOfBoundsException {
        checkAgent(agent);
        checkAgent(other);
        int reached = 1 << agent;
        for (int links = 0; links < MOST_NAMES; links++) {
            if (contains(reached, other)) {
                return links;
            }
            reached = now.reachedFrom(reached, 0);
        }
        return NONE;
    }

    public int bottleneck(int agent, int other) throws IndexOutOfBoundsException {
        checkAgent(agent);
        checkAgent(other);
        for (int least = TOP_TRUST; least >= 0; least--) {
            int reached = 1 << agent;
            for (int links = 0; links < MOST_NAMES; links++) {
                reached = now.reachedFrom(reached, least);
            }
            if (contains(reached, other)) {
                return least;
            }
        }
        return NONE;
    }

    public int mostTrusted(int agent) throws IndexOutOfBoundsException {
        checkAgent(agent);
        int found = NONE;
        int greatest = NONE;
        for (int other = 0; other < now.agents.count; other++) {
            int trust = now.trustIn(agent, other);
            if (trust > greatest) {
                found = other;
                greatest = trust;
            }
        }
        return found;
    }

    public int reports(int agent) throws IndexOutOfBoundsException {
        checkAgent(agent);
        return now.listOf(agent).count;
    }

    public int report(int agent, int index, int what) throws IndexOutOfBoundsException, IllegalArgumentException {
        checkReport(agent, index);
        checkRange(what, R_ORIGIN, R_HIGH);
        return now.listOf(agent).get(index, what);
    }

    public int status(int agent, int index) throws IndexOutOfBoundsException {
        checkReport(agent, index);
        return statusIn(agent, index);
    }

    public int moved(int agent, int index, int end) throws IndexOutOfBoundsException, IllegalArgumentException {
        checkReport(agent, index);
        checkRange(end, LOW_END, HIGH_END);
        Reports list = now.listOf(agent);
        int via = list.get(index, R_VIA);
        if (via != agent && !now.isLinked(agent, via)) {
            return NONE;
        }
        int spread = now.beliefSpread(agent, index);
        return end == LOW_END ? list.lowMoved(index, spread) : list.highMoved(index, spread);
    }

    public int own(int agent, int way) throws IndexOutOfBoundsException {
        checkAgent(agent);
        checkWay(way);
        return now.listOf(agent).rowOf(agent, way);
    }

    public int belief(int agent, int way, int end) throws IndexOutOfBoundsException, IllegalArgumentException {
        checkAgent(agent);
        checkWay(way);
        checkRange(end, LOW_END, HIGH_END);
        return believed(now, agent, way, end);
    }

    public int sources(int agent, int way) throws IndexOutOfBoundsException {
        checkAgent(agent);
        checkWay(way);
        return originsOf(agent, way, TAKEN);
    }

    public int contradicted(int agent, int way) throws IndexOutOfBoundsException {
        checkAgent(agent);
        checkWay(way);
        return originsOf(agent, way, CONTRADICTED);
    }

    public int majority(int agent, int way) throws IndexOutOfBoundsException {
        checkAgent(agent);
        checkWay(way);
        view.form(now, agent, way, NONE);
        return view.largestSet();
    }

    public int majorityBound(int agent, int way, int end) throws IndexOutOfBoundsException, IllegalArgumentException {
        checkAgent(agent);
        checkWay(way);
        checkRange(end, LOW_END, HIGH_END);
        view.form(now, agent, way, NONE);
        int set = view.largestSet();
        if (set == 0) {
            return NONE;
        }
        return end == LOW_END ? view.lowOf(set) : view.highOf(set);
    }

    public int best(int agent, int rule) throws IndexOutOfBoundsException, IllegalArgumentException {
        checkAgent(agent);
        checkRange(rule, BY_HIGH, BY_SUM);
        return bestWay(now, agent, rule);
    }

    public int rivals(int agent) throws IndexOutOfBoundsException {
        checkAgent(agent);
        return rivalsOf(agent, bestWay(now, agent, BY_HIGH));
    }

    public int nextProbe(int agent) throws IndexOutOfBoundsException {
        checkAgent(agent);
        int best = bestWay(now, agent, BY_HIGH);
        int rivals = rivalsOf(agent, best);
        if (rivals == 0) {
            return NONE;
        }
        int found = NONE;
        int farthest = NONE;
        for (int way = 0; way < now.ways.count; way++) {
            int width = widthOf(now, agent, way, NONE);
            if ((way == best || contains(rivals, way)) && width > farthest) {
                found = way;
                farthest = width;
            }
        }
        return found;
    }

    public int regret(int agent) throws IndexOutOfBoundsException {
        checkAgent(agent);
        if (now.ways.count == 0) {
            return NONE;
        }
        int high = believed(now, agent, bestWay(now, agent, BY_HIGH), HIGH_END);
        int low = believed(now, agent, bestWay(now, agent, BY_LOW), LOW_END);
        return high - low;
    }

    public int saved(int agent) throws IndexOutOfBoundsException {
        checkAgent(agent);
        int count = 0;
        for (int way = 0; way < now.ways.count; way++) {
            if (now.listOf(agent).rowOf(agent, way) == NONE && widthOf(now, agent, way, NONE) != TOP_BOUND) {
                count++;
            }
        }
        return count;
    }

    public int agreeing(int agent, int other) throws IndexOutOfBoundsException {
        checkAgent(agent);
        checkAgent(other);
        int count = 0;
        for (int way = 0; way < now.ways.count; way++) {
            int low = Math.max(believed(now, agent, way, LOW_END), believed(now, other, way, LOW_END));
            int high = Math.min(believed(now, agent, way, HIGH_END), believed(now, other, way, HIGH_END));
            if (low <= high) {
                count++;
            }
        }
        return count;
    }

    public int common(int way, int end) throws IndexOutOfBoundsException, IllegalArgumentException {
        checkWay(way);
        checkRange(end, LOW_END, HIGH_END);
        boolean found = false;
        int low = 0;
        int high = TOP_BOUND;
        for (int agent = 0; agent < now.agents.count; agent++) {
            Reports list = now.listOf(agent);
            int row = list.rowOf(agent, way);
            if (row != NONE) {
                int spread = now.driftOf(list, row);
                found = true;
                low = Math.max(low, list.lowMoved(row, spread));
                high = Math.min(high, list.highMoved(row, spread));
            }
        }
        if (!found || low > high) {
            return NONE;
        }
        return end == LOW_END ? low : high;
    }

    public int account(int agent, int what) throws IndexOutOfBoundsException, IllegalArgumentException {
        checkAgent(agent);
        checkRange(what, PROBES, CONTRADICTIONS);
        return now.accountOf(agent, what);
    }

    public int message(int index, int what) throws IllegalArgumentException, NoSuchElementException {
        checkRange(what, 0, 5);
        if (index < 0 || index >= now.queue.count) {
            throw new NoSuchElementException("no such message");
        }
        switch (what) {
            case 0:
                return now.queue.get(index, R_VIA);
            case 1:
                return now.queue.get(index, R_GOAL);
            case 2:
                return now.queue.get(index, R_ORIGIN);
            case 3:
                return now.queue.get(index, R_HOPS);
            case 4:
                return now.queue.get(index, R_WAY);
            default:
                return now.reasonToRefuse(index);
        }
    }

    public float standing(int agent) throws IndexOutOfBoundsException {
        checkAgent(agent);
        int sum = 0;
        int count = 0;
        for (int other = 0; other < now.agents.count; other++) {
            if (now.isLinked(agent, other)) {
                sum += now.trustIn(other, agent);
                count++;
            }
        }
        return count == 0 ? 0.0f : (float) sum / (float) count;
    }

    public int beliefIf(int agent, int way, int low, int high, int end)
            throws IndexOutOfBoundsException, IllegalArgumentException {
        checkAgent(agent);
        checkWay(way);
        checkBounds(low, high);
        checkRange(end, LOW_END, HIGH_END);
        trial.become(now);
        trial.makeProbe(agent, way, low, high);
        return believed(trial, agent, way, end);
    }

    public int trustIf(int agent, int way, int low, int high, int other)
            throws IndexOutOfBoundsException, IllegalArgumentException {
        checkAgent(agent);
        checkWay(way);
        checkAgent(other);
        checkBounds(low, high);
        trial.become(now);
        trial.makeProbe(agent, way, low, high);
        return trial.trustIn(agent, other);
    }

    public int informed(int agent, int way, int rounds) throws IndexOutOfBoundsException, IllegalArgumentException {
        checkAgent(agent);
        checkWay(way);
        checkRange(rounds, 0, MOST_ROUNDS);
        trial.become(now);
        trial.makeRounds(rounds);
        int set = 0;
        for (int other = 0; other < trial.agents.count; other++) {
            if (trial.listOf(other).rowOf(agent, way) != NONE) {
                set |= 1 << other;
            }
        }
        return set;
    }

    public int widthAfter(int agent, int way, int ticks) throws IndexOutOfBoundsException, IllegalArgumentException {
        checkAgent(agent);
        checkWay(way);
        checkRange(ticks, 0, MOST_TICKS);
        if (ticks == 0) {
            return widthOf(now, agent, way, NONE);
        }
        trial.become(now);
        trial.letPass(ticks);
        return widthOf(trial, agent, way, NONE);
    }

    public int widthWithout(int agent, int way, int other) throws IndexOutOfBoundsException {
        checkAgent(agent);
        checkWay(way);
        checkAgent(other);
        return widthOf(now, agent, way, other);
    }

    public int mostUseful(int agent) throws IndexOutOfBoundsException {
        checkAgent(agent);
        int found = NONE;
        int greatest = NONE;
        for (int other = 0; other < now.agents.count; other++) {
            if (now.isLinked(agent, other)) {
                int sum = widthSum(agent, other);
                if (sum > greatest) {
                    found = other;
                    greatest = sum;
                }
            }
        }
        return found;
    }

    public int bestThen(int agent) throws IndexOutOfBoundsException {
        checkAgent(agent);
        trial.become(now);
        trial.deliverFirst(MOST_MESSAGES);
        return bestWay(trial, agent, BY_HIGH);
    }

    public int probe(int agent, int way, int low, int high) throws IndexOutOfBoundsException, IllegalArgumentException {
        checkAgent(agent);
        checkWay(way);
        checkBounds(low, high);
        history.push(now);
        return now.makeProbe(agent, way, low, high);
    }

    public int share(int agent) throws IndexOutOfBoundsException {
        checkAgent(agent);
        history.push(now);
        return now.sendReports(agent, 1);
    }

    public int relay(int agent) throws IndexOutOfBoundsException {
        checkAgent(agent);
        history.push(now);
        return now.sendReports(agent, now.rule(HOPS));
    }

    public int deliver(int many) throws IllegalArgumentException {
        checkRange(many, 1, MOST_MESSAGES);
        history.push(now);
        return now.deliverFirst(many);
    }

    public int lose() throws IllegalStateException {
        if (now.queue.count == 0) {
            throw new IllegalStateException("the queue is empty");
        }
        history.push(now);
        now.queue.removeFirst(1);
        return now.queue.count;
    }

    public int exchange(int rounds) throws IllegalArgumentException {
        checkRange(rounds, 1, MOST_ROUNDS);
        history.push(now);
        return now.makeRounds(rounds);
    }

    public int pass(int ticks) throws IllegalArgumentException {
        checkRange(ticks, 1, MOST_TICKS);
        history.push(now);
        return now.letPass(ticks);
    }

    public boolean link(int agent, int other, boolean on) throws IndexOutOfBoundsException, IllegalArgumentException {
        checkAgent(agent);
        checkAgent(other);
        if (agent == other) {
            throw new IllegalArgumentException("an agent has no link with itself");
        }
        history.push(now);
        boolean linked = now.isLinked(agent, other);
        if (linked != on) {
            int trust = on ? FIRST_TRUST : NONE;
            now.putTrust(agent, other, trust);
            now.putTrust(other, agent, trust);
        }
        return linked;
    }

    public int setTrust(int agent, int other, int trust)
            throws IndexOutOfBoundsException, IllegalArgumentException, IllegalStateException {
        checkAgent(agent);
        checkAgent(other);
        checkRange(trust, 0, TOP_TRUST);
        if (!now.isLinked(agent, other)) {
            throw new IllegalStateException("the agents have no link");
        }
        history.push(now);
        int previous = now.trustIn(agent, other);
        now.putTrust(agent, other, trust);
        return previous;
    }

    public int setRule(int what, int value) throws IllegalArgumentException {
        if (!isRuleValue(what, value)) {
            throw new IllegalArgumentException("no such rule or value");
        }
        history.push(now);
        int previous = now.rule(what);
        now.putRule(what, value);
        return previous;
    }

    public int forget(int agent, int way) throws IndexOutOfBoundsException {
        checkAgent(agent);
        checkWay(way);
        history.push(now);
        return now.listOf(agent).removeAll(way, -1);
    }

    public int cleanse(int agent) throws IndexOutOfBoundsException {
        checkAgent(agent);
        history.push(now);
        int left = 0;
        for (int way = 0; way < now.ways.count; way++) {
            left += now.listOf(agent).removeAll(way, originsOf(agent, way, CONTRADICTED));
        }
        return left;
    }

    public int keep(int slot) throws IndexOutOfBoundsException {
        checkSlot(slot);
        Desk kept = slots[slot];
        if (kept == null) {
            kept = new Desk();
            slots[slot] = kept;
        }
        kept.become(now);
        return now.time;
    }

    public int restore(int slot) throws IndexOutOfBoundsException, IllegalStateException {
        checkSlot(slot);
        Desk kept = slots[slot];
        if (kept == null) {
            throw new IllegalStateException("nothing is kept there");
        }
        history.push(now);
        now.become(kept);
        return now.time;
    }

    public int undo() throws IllegalStateException {
        if (history.count == 0) {
            throw new IllegalStateException("nothing can be undone");
        }
        history.pop(now);
        return history.count;
    }

    public int undoCount() {
        return history.count;
    }

    public int writeBeliefs(int agent) throws IndexOutOfBoundsException {
        checkAgent(agent);
        output.length = 0;
        for (int way = 0; way < now.ways.count; way++) {
            if (way > 0) {
                output.add(' ');
            }
            output.addName(now.ways.get(way));
            output.add(':');
            view.form(now, agent, way, NONE);
            writeBounds(view.low, view.high);
        }
        return output.length;
    }

    public int writeReports(int agent) throws IndexOutOfBoundsException {
        checkAgent(agent);
        output.length = 0;
        Reports list = now.listOf(agent);
        for (int row = 0; row < list.count; row++) {
            output.addName(now.agents.get(list.get(row, R_ORIGIN)));
            output.add('/');
            output.addName(now.ways.get(list.get(row, R_WAY)));
            output.add(' ');
            writeBounds(list.get(row, R_LOW), list.get(row, R_HIGH));
            output.add('@');
            output.addNumber(list.get(row, R_TIME));
            writeStatus(statusIn(agent, row));
            output.add('\n');
        }
        return output.length;
    }

    public int outputByte(int index) throws IndexOutOfBoundsException {
        if (index < 0 || index >= output.length) {
            throw new IndexOutOfBoundsException("no such byte");
        }
        return output.at(index);
    }

    private void checkAgent(int agent) {
        if (agent < 0 || agent >= now.agents.count) {
            throw new IndexOutOfBoundsException("no such agent");
        }
    }

    private void checkWay(int way) {
        if (way < 0 || way >= now.ways.count) {
            throw new IndexOutOfBoundsException("no such way");
        }
    }

    private void checkReport(int agent, int index) {
        checkAgent(agent);
        if (index < 0 || index >= now.listOf(agent).count) {
            throw new IndexOutOfBoundsException("no such report");
        }
    }

    private void checkSlot(int slot) {
        if (slot < 0 || slot >= slots.length) {
            throw new IndexOutOfBoundsException("no such slot");
        }
    }

    private static void checkRange(int value, int from, int to) {
        if (value < from || value > to) {
            throw new IllegalArgumentException("a value is out of range");
        }
    }

    private static void checkBounds(int low, int high) {
        checkRange(low, 0, TOP_BOUND);
        checkRange(high, low, TOP_BOUND);
    }

    private static boolean isRuleValue(int what, int value) {
        return what >= 0 && what < RULES && value >= RULE_FROM[what] && value <= RULE_TO[what];
    }

    private static boolean contains(int set, int number) {
        return (set >> number & 1) == 1;
    }

    private int findInput(Names names) {
        int code = input.nameCode(0, input.length);
        input.length = 0;
        return code == NONE ? NONE : names.find(code);
    }

    private int statusIn(int agent, int row) {
        view.form(now, agent, now.listOf(agent).get(row, R_WAY), NONE);
        return view.statusOf(row);
    }

    private int originsOf(int agent, int way, int status) {
        view.form(now, agent, way, NONE);
        return view.originsWith(status);
    }

    private int believed(Desk desk, int agent, int way, int end) {
        view.form(desk, agent, way, NONE);
        return end == LOW_END ? view.low : view.high;
    }

    private int widthOf(Desk desk, int agent, int way, int without) {
        view.form(desk, agent, way, without);
        return view.high - view.low;
    }

    private int widthSum(int agent, int without) {
        int sum = 0;
        for (int way = 0; way < now.ways.count; way++) {
            view.form(now, agent, way, without);
            sum += view.high - view.low;
        }
        return sum;
    }

    private int bestWay(Desk desk, int agent, int rule) {
        int found = NONE;
        int least = 0;
        for (int way = 0; way < desk.ways.count; way++) {
            view.form(desk, agent, way, NONE);
            int value = rule == BY_HIGH ? view.high : rule == BY_LOW ? view.low : view.low + view.high;
            if (found == NONE || value < least) {
                found = way;
                least = value;
            }
        }
        return found;
    }

    private int rivalsOf(int agent, int best) {
        if (best == NONE) {
            return 0;
        }
        view.form(now, agent, best, NONE);
        int high = view.high;
        int set = 0;
        for (int way = 0; way < now.ways.count; way++) {
            view.form(now, agent, way, NONE);
            if (way != best && view.low < high) {
                set |= 1 << way;
            }
        }
        return set;
    }

    private void writeBounds(int low, int high) {
        output.addNumber(low);
        output.add('-');
        output.addNumber(high);
    }

    private void writeStatus(int status) {
        if (status == CONTRADICTED) {
            output.add('!');
        } else if (status == LEFT_OUT) {
            output.add('?');
        }
    }

    private static final class Buffer {
        private final byte[] bytes;
        private int length;

        private Buffer(int most) {
            bytes = new byte[most < 0 ? 0 : most];
        }

        private int at(int index) {
            return index >= 0 && index < length && index < bytes.length ? bytes[index] & 255 : NONE;
        }

        private void add(int value) {
            if (length >= 0 && length < bytes.length) {
                bytes[length] = (byte) value;
                length++;
            }
        }

        private void addFour(int word) {
            add(word >> 24);
            add(word >> 16);
            add(word >> 8);
            add(word);
        }

        private void addNumber(int number) {
            boolean begun = false;
            for (int scale = 1000000000; scale > 0; scale /= 10) {
                int digit = number / scale % 10;
                begun = begun || digit != 0 || scale == 1;
                if (begun) {
                    add('0' + digit);
                }
            }
        }

        private void addName(int code) {
            for (int place = MOST_LETTERS - 1; place >= 0; place--) {
                int letter = (code >> (place * LETTER_BITS)) & LETTER_MASK;
                if (letter != 0) {
                    add('a' + letter - 1);
                }
            }
        }

        /** A name as one number, so that names are kept and compared without texts; NONE if it can be no name. */
        private int nameCode(int from, int to) {
            int letters = to - from;
            if (letters < 1 || letters > MOST_LETTERS) {
                return NONE;
            }
            int code = 0;
            for (int i = from; i < to; i++) {
                int sign = at(i);
                if (sign < 'a' || sign > 'z') {
                    return NONE;
                }
                code = (code << LETTER_BITS) + sign - 'a' + 1;
            }
            return code;
        }
    }

    private static final class Names {
        private final int[] codes = new int[MOST_NAMES];
        private int count;

        private int find(int code) {
            for (int i = 0; i < count && i < codes.length; i++) {
                if (codes[i] == code) {
                    return i;
                }
            }
            return NONE;
        }

        private void add(int code) {
            if (count >= 0 && count < codes.length) {
                codes[count] = code;
                count++;
            }
        }

        private int get(int index) {
            return index >= 0 && index < count && index < codes.length ? codes[index] : 0;
        }

        private void copyFrom(Names other) {
            count = other.count;
            System.arraycopy(other.codes, 0, codes, 0, Math.min(other.codes.length, codes.length));
        }
    }

    /** The queue is one of these, too, as the list of an agent is; its reports alone have a goal. */
    private static final class Reports {
        private final int[] cells;
        private int count;

        private Reports(int most) {
            cells = new int[most < 0 ? 0 : most * ROW_CELLS];
        }

        private boolean isFull() {
            return (count + 1) * ROW_CELLS > cells.length;
        }

        private int get(int row, int cell) {
            if (row < 0 || row >= count || cell < 0 || cell >= ROW_CELLS) {
                return NONE;
            }
            int place = row * ROW_CELLS + cell;
            return place >= 0 && place < cells.length ? cells[place] : NONE;
        }

        private void put(int row, int cell, int value) {
            if (row < 0 || row >= count || cell < 0 || cell >= ROW_CELLS) {
                return;
            }
            int place = row * ROW_CELLS + cell;
            if (place >= 0 && place < cells.length) {
                cells[place] = value;
            }
        }

        private int rowOf(int origin, int way) {
            for (int row = 0; row < count; row++) {
                if (get(row, R_ORIGIN) == origin && get(row, R_WAY) == way) {
                    return row;
                }
            }
            return NONE;
        }

        private int addRow() {
            if (isFull()) {
                return NONE;
            }
            count++;
            return count - 1;
        }

        private int addCopy(Reports from, int row) {
            int added = addRow();
            for (int cell = 0; cell < ROW_CELLS; cell++) {
                put(added, cell, from.get(row, cell));
            }
            return added;
        }

        private void removeRow(int row) {
            if (row >= 0 && row < count) {
                closeGap(row, row + 1);
            }
        }

        private void removeFirst(int many) {
            closeGap(0, Math.max(0, Math.min(many, count)));
        }

        private void closeGap(int from, int to) {
            int kept = (count - to) * ROW_CELLS;
            int source = to * ROW_CELLS;
            int target = from * ROW_CELLS;
            if (target >= 0 && target <= source && kept >= 0 && source + kept <= cells.length) {
                System.arraycopy(cells, source, cells, target, kept);
                count -= to - from;
            }
        }

        private int removeAll(int way, int origins) {
            int before = count;
            for (int row = before - 1; row >= 0; row--) {
                if (get(row, R_WAY) == way && contains(origins, get(row, R_ORIGIN))) {
                    removeRow(row);
                }
            }
            return before - count;
        }

        private int lowMoved(int row, int spread) {
            return Math.max(0, get(row, R_LOW) - spread);
        }

        private int highMoved(int row, int spread) {
            return Math.min(TOP_BOUND, get(row, R_HIGH) + spread);
        }

        private void copyFrom(Reports other) {
            int filled = Math.min(other.count * ROW_CELLS, Math.min(other.cells.length, cells.length));
            if (filled > 0) {
                System.arraycopy(other.cells, 0, cells, 0, filled);
            }
            count = other.count;
        }
    }

    /** All that undo() restores. */
    private static final class Desk {
        private final int[] rules = new int[RULES];
        private final Names agents = new Names();
        private final Names ways = new Names();
        private final int[] trusts = new int[MOST_NAMES * MOST_NAMES];
        private final Reports[] lists = new Reports[MOST_NAMES];
        // So that listOf() has an answer for every number.
        private final Reports emptyList = new Reports(0);
        private final Reports queue = new Reports(MOST_MESSAGES);
        private final int[] accounts = new int[MOST_NAMES * ACCOUNTS];
        private int time;

        private Desk() {
            for (int agent = 0; agent < lists.length; agent++) {
                lists[agent] = new Reports(MOST_NAMES * MOST_NAMES);
            }
            reset();
        }

        private void reset() {
            for (int what = 0; what < RULES; what++) {
                putRule(what, RULE_AT_FIRST[what]);
            }
            agents.count = 0;
            ways.count = 0;
            Arrays.fill(trusts, NONE);
            for (int agent = 0; agent < lists.length; agent++) {
                listOf(agent).count = 0;
            }
            queue.count = 0;
            Arrays.fill(accounts, 0);
            time = 0;
        }

        private void become(Desk other) {
            for (int what = 0; what < RULES; what++) {
                putRule(what, other.rule(what));
            }
            agents.copyFrom(other.agents);
            ways.copyFrom(other.ways);
            System.arraycopy(other.trusts, 0, trusts, 0, Math.min(other.trusts.length, trusts.length));
            for (int agent = 0; agent < lists.length; agent++) {
                listOf(agent).copyFrom(other.listOf(agent));
            }
            queue.copyFrom(other.queue);
            System.arraycopy(other.accounts, 0, accounts, 0, Math.min(other.accounts.length, accounts.length));
            time = other.time;
        }

        private int rule(int what) {
            return what >= 0 && what < rules.length ? rules[what] : NONE;
        }

        private void putRule(int what, int value) {
            if (what >= 0 && what < rules.length) {
                rules[what] = value;
            }
        }

        private Reports listOf(int agent) {
            Reports list = agent >= 0 && agent < lists.length ? lists[agent] : null;
            return list == null ? emptyList : list;
        }

        private int trustIn(int agent, int other) {
            if (agent < 0 || agent >= MOST_NAMES || other < 0 || other >= MOST_NAMES) {
                return NONE;
            }
            int pair = agent * MOST_NAMES + other;
            return pair < trusts.length ? trusts[pair] : NONE;
        }

        private void putTrust(int agent, int other, int trust) {
            if (agent < 0 || agent >= MOST_NAMES || other < 0 || other >= MOST_NAMES) {
                return;
            }
            int pair = agent * MOST_NAMES + other;
            if (pair < trusts.length) {
                trusts[pair] = trust;
            }
        }

        private boolean isLinked(int agent, int other) {
            return trustIn(agent, other) != NONE;
        }

        private int linkCount() {
            int count = 0;
            for (int agent = 0; agent < agents.count; agent++) {
                for (int other = agent + 1; other < agents.count; other++) {
                    if (isLinked(agent, other)) {
                        count++;
                    }
                }
            }
            return count;
        }

        private int reachedFrom(int set, int leastTrust) {
            int reached = set;
            for (int agent = 0; agent < agents.count; agent++) {
                for (int other = 0; other < agents.count; other++) {
                    if (contains(set, agent) && trustIn(agent, other) >= leastTrust) {
                        reached |= 1 << other;
                    }
                }
            }
            return reached;
        }

        private int accountOf(int agent, int what) {
            int place = accountPlace(agent, what);
            return place >= 0 && place < accounts.length ? accounts[place] : 0;
        }

        private void tally(int agent, int what) {
            int place = accountPlace(agent, what);
            if (place >= 0 && place < accounts.length) {
                accounts[place]++;
            }
        }

        private static int accountPlace(int agent, int what) {
            boolean exists = agent >= 0 && agent < MOST_NAMES && what >= 0 && what < ACCOUNTS;
            return exists ? agent * ACCOUNTS + what : NONE;
        }

        private boolean isTooOld(Reports list, int row) {
            return time - list.get(row, R_TIME) > rule(AGE);
        }

        private int driftOf(Reports list, int row) {
            return rule(DRIFT) * (time - list.get(row, R_TIME));
        }

        private int beliefSpread(int agent, int row) {
            Reports list = listOf(agent);
            int via = list.get(row, R_VIA);
            int spread = driftOf(list, row);
            if (via == agent) {
                return spread;
            }
            return spread + rule(SLACK) * (TOP_TRUST - trustIn(agent, via)) * list.get(row, R_HOPS);
        }

        private int makeProbe(int agent, int way, int low, int high) {
            Reports list = listOf(agent);
            list.removeRow(list.rowOf(agent, way));
            int own = list.addRow();
            list.put(own, R_ORIGIN, agent);
            list.put(own, R_VIA, agent);
            list.put(own, R_HOPS, 0);
            list.put(own, R_WAY, way);
            list.put(own, R_TIME, time);
            list.put(own, R_LOW, low);
            list.put(own, R_HIGH, high);
            tally(agent, PROBES);
            int contradictions = 0;
            for (int row = 0; row < own; row++) {
                if (list.get(row, R_WAY) == way && judge(agent, row, own)) {
                    contradictions++;
                }
            }
            return contradictions;
        }

        /** Answers whether it was a contradiction, as probe() tells how many there were. */
        private boolean judge(int agent, int row, int own) {
            Reports list = listOf(agent);
            int via = list.get(row, R_VIA);
            if (!isLinked(agent, via)) {
                return false;
            }
            int spread = driftOf(list, row);
            int ownSpread = driftOf(list, own);
            int low = Math.max(list.lowMoved(row, spread), list.lowMoved(own, ownSpread));
            int high = Math.min(list.highMoved(row, spread), list.highMoved(own, ownSpread));
            boolean contradiction = low > high;
            int trust = trustIn(agent, via) + (contradiction ? -2 : 1);
            putTrust(agent, via, Math.max(0, Math.min(TOP_TRUST, trust)));
            tally(agent, contradiction ? CONTRADICTIONS : CONFIRMATIONS);
            return contradiction;
        }

        /** An own report is one that made fewer hops than one, so share() and relay() differ in this number alone. */
        private int sendReports(int agent, int fewerThan) {
            Reports list = listOf(agent);
            int before = queue.count;
            for (int row = 0; row < list.count; row++) {
                if (list.get(row, R_HOPS) < fewerThan) {
                    sendReport(agent, list, row);
                }
            }
            return queue.count - before;
        }

        private void sendReport(int agent, Reports list, int row) {
            for (int other = 0; other < agents.count; other++) {
                boolean knows = other == list.get(row, R_ORIGIN) || other == list.get(row, R_VIA);
                if (isLinked(agent, other) && !knows && !queue.isFull()) {
                    int sent = queue.addCopy(list, row);
                    queue.put(sent, R_VIA, agent);
                    queue.put(sent, R_HOPS, list.get(row, R_HOPS) + 1);
                    queue.put(sent, R_GOAL, other);
                }
            }
        }

        private int reasonToRefuse(int index) {
            int goal = queue.get(index, R_GOAL);
            if (!isLinked(goal, queue.get(index, R_VIA))) {
                return 1;
            }
            if (isTooOld(queue, index)) {
                return 2;
            }
            Reports list = listOf(goal);
            int row = list.rowOf(queue.get(index, R_ORIGIN), queue.get(index, R_WAY));
            if (row == NONE) {
                return 0;
            }
            int later = list.get(row, R_TIME) - queue.get(index, R_TIME);
            boolean noMoreHops = list.get(row, R_HOPS) <= queue.get(index, R_HOPS);
            return later > 0 || later == 0 && noMoreHops ? 3 : 0;
        }

        private int deliverFirst(int many) {
            int delivered = Math.min(many, queue.count);
            int accepted = 0;
            for (int index = 0; index < delivered; index++) {
                if (receive(index)) {
                    accepted++;
                }
            }
            queue.removeFirst(delivered);
            return accepted;
        }

        /** Answers whether the message was not refused, as deliver() tells how many were not. */
        private boolean receive(int index) {
            int goal = queue.get(index, R_GOAL);
            if (reasonToRefuse(index) != 0) {
                tally(goal, REFUSED);
                return false;
            }
            tally(goal, ACCEPTED);
            int way = queue.get(index, R_WAY);
            Reports list = listOf(goal);
            list.removeRow(list.rowOf(queue.get(index, R_ORIGIN), way));
            int row = list.addCopy(queue, index);
            int own = list.rowOf(goal, way);
            if (own != NONE) {
                judge(goal, row, own);
            }
            return true;
        }

        private int makeRounds(int rounds) {
            int accepted = 0;
            for (int round = 0; round < rounds; round++) {
                for (int agent = 0; agent < agents.count; agent++) {
                    sendReports(agent, rule(HOPS));
                }
                accepted += deliverFirst(queue.count);
            }
            return accepted;
        }

        private int letPass(int ticks) {
            time += ticks;
            int left = 0;
            for (int agent = 0; agent < agents.count; agent++) {
                Reports list = listOf(agent);
                for (int row = list.count - 1; row >= 0; row--) {
                    if (isTooOld(list, row)) {
                        list.removeRow(row);
                        left++;
                    }
                }
            }
            return left;
        }
    }

    /** A belief is put together anew for each question, so that none is ever out of date. */
    private static final class View {
        private final int[] rows = new int[MOST_NAMES];
        private final int[] origins = new int[MOST_NAMES];
        private final int[] ranks = new int[MOST_NAMES];
        private final int[] lows = new int[MOST_NAMES];
        private final int[] highs = new int[MOST_NAMES];
        private final int[] statuses = new int[MOST_NAMES];
        private int count;
        private int low;
        private int high;

        /** Reports that came via one agent can be passed over (NONE: none), so that no desk without them is needed. */
        private void form(Desk desk, int agent, int way, int without) {
            count = 0;
            low = 0;
            high = TOP_BOUND;
            Reports list = desk.listOf(agent);
            for (int row = 0; row < list.count; row++) {
                if (list.get(row, R_WAY) == way && list.get(row, R_VIA) != without && count < MOST_NAMES) {
                    note(desk, agent, row, count);
                    count++;
                }
            }
            for (int turn = 0; turn < count; turn++) {
                take(nextToTake());
            }
        }

        private void note(Desk desk, int agent, int row, int place) {
            if (place < 0 || place >= MOST_NAMES) {
                return;
            }
            Reports list = desk.listOf(agent);
            int via = list.get(row, R_VIA);
            int trust = via == agent ? TOP_TRUST + 1 : desk.trustIn(agent, via);
            int spread = desk.beliefSpread(agent, row);
            boolean leftOut = trust == NONE || trust < desk.rule(LEAST);
            rows[place] = row;
            origins[place] = list.get(row, R_ORIGIN);
            // Hops and origins are below ten, so that one number has all three in their order.
            ranks[place] = (TOP_TRUST - trust) * 100 + list.get(row, R_HOPS) * 10 + origins[place];
            lows[place] = list.lowMoved(row, spread);
            highs[place] = list.highMoved(row, spread);
            statuses[place] = leftOut ? LEFT_OUT : WAITING;
        }

        private int nextToTake() {
            int next = NONE;
            int least = 0;
            for (int i = 0; i < count && i < MOST_NAMES; i++) {
                if (statuses[i] == WAITING && (next == NONE || ranks[i] < least)) {
                    next = i;
                    least = ranks[i];
                }
            }
            return next;
        }

        private void take(int place) {
            if (place < 0 || place >= MOST_NAMES) {
                return;
            }
            int bothLow = Math.max(low, lows[place]);
            int bothHigh = Math.min(high, highs[place]);
            if (bothLow > bothHigh) {
                statuses[place] = CONTRADICTED;
                return;
            }
            statuses[place] = TAKEN;
            low = bothLow;
            high = bothHigh;
        }

        private int statusOf(int row) {
            for (int i = 0; i < count && i < MOST_NAMES; i++) {
                if (rows[i] == row) {
                    return statuses[i];
                }
            }
            return LEFT_OUT;
        }

        private int originsWith(int status) {
            int set = 0;
            for (int i = 0; i < count && i < MOST_NAMES; i++) {
                if (statuses[i] == status) {
                    set |= 1 << origins[i];
                }
            }
            return set;
        }

        private int largestSet() {
            int largest = 0;
            for (int i = 0; i < count && i < MOST_NAMES; i++) {
                // What a largest set has in common begins with the low bound of one of its reports.
                int set = statuses[i] == LEFT_OUT ? 0 : originsAround(lows[i]);
                int more = Integer.bitCount(set) - Integer.bitCount(largest);
                if (more > 0 || more == 0 && set < largest) {
                    largest = set;
                }
            }
            return largest;
        }

        private int originsAround(int number) {
            int set = 0;
            for (int i = 0; i < count && i < MOST_NAMES; i++) {
                if (statuses[i] != LEFT_OUT && lows[i] <= number && number <= highs[i]) {
                    set |= 1 << origins[i];
                }
            }
            return set;
        }

        private int lowOf(int set) {
            int common = 0;
            for (int i = 0; i < count && i < MOST_NAMES; i++) {
                if (contains(set, origins[i])) {
                    common = Math.max(common, lows[i]);
                }
            }
            return common;
        }

        private int highOf(int set) {
            int common = TOP_BOUND;
            for (int i = 0; i < count && i < MOST_NAMES; i++) {
                if (contains(set, origins[i])) {
                    common = Math.min(common, highs[i]);
                }
            }
            return common;
        }
    }

    /** Its desks are made once and written over in turn, as nothing that was made is ever given back. */
    private static final class History {
        private final Desk[] desks = new Desk[MOST_UNDO];
        private int count;

        private void push(Desk desk) {
            if (count >= desks.length) {
                dropOldest();
            }
            if (count >= 0 && count < desks.length) {
                Desk before = desks[count];
                if (before == null) {
                    before = new Desk();
                    desks[count] = before;
                }
                before.become(desk);
                count++;
            }
        }

        private void dropOldest() {
            // The oldest desk goes to the end, where it is written over.
            for (int i = 1; i < desks.length; i++) {
                Desk older = desks[i - 1];
                desks[i - 1] = desks[i];
                desks[i] = older;
            }
            count--;
        }

        private void pop(Desk into) {
            if (count > 0 && count <= desks.length) {
                Desk before = desks[count - 1];
                if (before != null) {
                    into.become(before);
                }
                count--;
            }
        }
    }

    /** As reading stops at the first error, each method that reads answers false behind one. */
    private static final class Parser {
        private final Buffer text;
        private final Desk desk;
        private int kind;
        private int start;
        private int end;
        private int value;
        private int code;
        private int position = NONE;

        private Parser(Buffer text, Desk desk) {
            this.text = text;
            this.desk = desk;
        }

        private boolean parse() {
            end = 0;
            code = 0;
            position = NONE;
            desk.reset();
            next();
            boolean good = readRules();
            // Each statement has at least one byte.
            for (int i = 0; i < MOST_INPUT && good && kind != END; i++) {
                if (isWord("agent")) {
                    good = readNewName(desk.agents);
                } else if (isWord("way")) {
                    good = readNewName(desk.ways);
                } else if (isWord("link")) {
                    good = readLink();
                } else if (isWord("probe")) {
                    good = readProbe();
                } else {
                    good = fail(CANNOT_STAND);
                }
            }
            return good;
        }

        private boolean readRules() {
            return readWord("rules")
                    && readRule("drift", DRIFT)
                    && readRule("slack", SLACK)
                    && readRule("least", LEAST)
                    && readRule("age", AGE)
                    && readRule("hops", HOPS)
                    && readSemicolon();
        }

        private boolean readRule(String word, int what) {
            if (what < 0 || what >= RULES || !readWord(word) || !readNumber(RULE_FROM[what], RULE_TO[what])) {
                return false;
            }
            desk.putRule(what, value);
            return true;
        }

        private boolean readNewName(Names names) {
            if (names.count >= MOST_NAMES) {
                return fail(TOO_MANY);
            }
            next();
            if (!isName()) {
                return fail(CANNOT_STAND);
            }
            int name = text.nameCode(start, end);
            if (names.find(name) != NONE) {
                return fail(WRONG_NAME);
            }
            names.add(name);
            next();
            return readSemicolon();
        }

        private boolean readLink() {
            next();
            if (!isNameOf(desk.agents)) {
                return false;
            }
            int agent = value;
            next();
            if (!isNameOf(desk.agents)) {
                return false;
            }
            int other = value;
            if (other == agent || desk.isLinked(agent, other)) {
                return fail(WRONG_NAME);
            }
            next();
            int trust = FIRST_TRUST;
            if (isWord("trust")) {
                next();
                if (!readNumber(0, TOP_TRUST)) {
                    return false;
                }
                trust = value;
            }
            desk.putTrust(agent, other, trust);
            desk.putTrust(other, agent, trust);
            return readSemicolon();
        }

        private boolean readProbe() {
            next();
            if (!isNameOf(desk.agents)) {
                return false;
            }
            int agent = value;
            next();
            if (!isNameOf(desk.ways)) {
                return false;
            }
            int way = value;
            next();
            if (!readNumber(0, TOP_BOUND)) {
                return false;
            }
            int low = value;
            if (!readNumber(low, TOP_BOUND)) {
                return false;
            }
            desk.makeProbe(agent, way, low, value);
            return readSemicolon();
        }

        private boolean readWord(String word) {
            if (!isWord(word)) {
                return fail(CANNOT_STAND);
            }
            next();
            return true;
        }

        private boolean readSemicolon() {
            if (kind != SYMBOL || text.at(start) != ';') {
                return fail(CANNOT_STAND);
            }
            next();
            return true;
        }

        private boolean readNumber(int from, int to) {
            if (kind != NUMBER) {
                return fail(CANNOT_STAND);
            }
            int number = 0;
            for (int i = start; i < end; i++) {
                // A number may have any length, but all that is out of range is alike.
                number = Math.min(number * 10 + text.at(i) - '0', TOP_BOUND + 1);
            }
            if (number < from || number > to) {
                return fail(OUT_OF_RANGE);
            }
            value = number;
            next();
            return true;
        }

        private boolean isNameOf(Names names) {
            if (!isName()) {
                return fail(CANNOT_STAND);
            }
            value = names.find(text.nameCode(start, end));
            return value != NONE || fail(WRONG_NAME);
        }

        private boolean isName() {
            boolean keyword = isWord("rules") || isWord("drift") || isWord("slack") || isWord("least")
                    || isWord("age") || isWord("hops") || isWord("agent") || isWord("way") || isWord("link")
                    || isWord("trust") || isWord("probe");
            return kind == WORD && end - start <= MOST_LETTERS && !keyword;
        }

        private boolean isWord(String word) {
            if (kind != WORD || end - start != word.length()) {
                return false;
            }
            for (int i = 0; i < word.length(); i++) {
                if (text.at(start + i) != word.charAt(i)) {
                    return false;
                }
            }
            return true;
        }

        private boolean fail(int error) {
            code = error;
            position = start;
            return false;
        }

        private void next() {
            start = end;
            while (start < text.length && kindOf(text.at(start)) == BLANK) {
                start++;
            }
            end = start;
            if (start >= text.length) {
                kind = END;
                return;
            }
            kind = kindOf(text.at(start));
            end = start + 1;
            while (kind != SYMBOL && end < text.length && kindOf(text.at(end)) == kind) {
                end++;
            }
        }

        private static int kindOf(int sign) {
            if (sign >= 'a' && sign <= 'z') {
                return WORD;
            }
            if (sign >= '0' && sign <= '9') {
                return NUMBER;
            }
            return sign == ' ' || sign == '\n' ? BLANK : SYMBOL;
        }
    }
}
