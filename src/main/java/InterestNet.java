import java.util.Arrays;

/** Interests that draw data over a net of nodes; the document tells what each public method does. */
public final class InterestNet {
    public static final int NONE = -1000, BAD_INDEX = -1001, BAD_VALUE = -1002, BAD_STATE = -1003, FULL = -1004;

    private static final int MAX_NODES = 10, MAX_LINKS = 20, MAX_SENSORS = 6, MAX_INTERESTS = 5;
    private static final int MAX_ENERGY = 10000, MAX_DELAY = 20, MAX_KIND = 7, MAX_VALUE = 100;
    private static final int FIRST_PERIOD = 10, MAX_PERIOD = 50, MAX_ROUND = 100000, MAX_ROUNDS = 100;
    private static final int MAX_FORETOLD = 500, MAX_COMPARED = 200;
    private static final int MAX_HISTORY = 5, MAX_TEXT = 120, MAX_DIGITS = 5;

    // What count() can be asked for, in the document's order.
    private static final int NODES = 0, LINKS = 1, SENSORS = 2, INTERESTS = 3, PERIOD = 4, ROUND = 5, ALIVE = 6,
            EXPLORATIONS = 7, STRENGTHENED = 8, THINNED = 9, SPENT = 10, ENDED = 11, NUMBERS = 12;

    // The parts of a link, a sensor and an interest, in the document's order.
    private static final int ONE = 0, OTHER = 1, DELAY = 2, LINK_PARTS = 3;
    private static final int PLACE = 0, SENSOR_KIND = 1, VALUE = 2, SENSOR_PARTS = 3;
    private static final int SINK = 0, KIND = 1, LOW = 2, HIGH = 3, LAST = 4, DELIVERED = 5, DELAYS = 6, WAYS = 7,
            INTEREST_PARTS = 7;

    // UNREACHED is above every time, and stays so with a delay added.
    private static final int UNREACHED = 1000000, NO_NODE = -1, NO_NUMBER = -1, END = -1;

    private final Net net = new Net();
    private final Runner runner = new Runner();
    private final Paths paths = new Paths();
    private final History history = new History();
    private final Text text = new Text();

    public InterestNet() {
    }

    public int addNode(int energy) {
        if (!isWithin(energy, 1, MAX_ENERGY)) {
            return BAD_VALUE;
        }
        if (net.number(NODES) >= MAX_NODES) {
            return FULL;
        }
        history.record(net);
        return net.appendNode(energy);
    }

    public int charge(int node, int energy) {
        if (!net.has(NODES, node)) {
            return BAD_INDEX;
        }
        if (!isWithin(energy, 0, MAX_ENERGY)) {
            return BAD_VALUE;
        }
        history.record(net);
        int previous = net.energyOf(node);
        net.setEnergy(node, energy);
        return previous;
    }

    public int link(int one, int other, int delay) {
        if (!net.has(NODES, one) || !net.has(NODES, other)) {
            return BAD_INDEX;
        }
        if (!isWithin(delay, 1, MAX_DELAY)) {
            return BAD_VALUE;
        }
        if (one == other || net.areLinked(one, other)) {
            return BAD_STATE;
        }
        if (net.number(LINKS) >= MAX_LINKS) {
            return FULL;
        }
        history.record(net);
        return net.appendLink(one, other, delay);
    }

    public int cut(int link) {
        if (!net.has(LINKS, link)) {
            return BAD_INDEX;
        }
        history.record(net);
        return net.removeLink(link);
    }

    public int addSensor(int node, int kind, int value) {
        if (!net.has(NODES, node)) {
            return BAD_INDEX;
        }
        if (!isWithin(kind, 0, MAX_KIND) || !isWithin(value, -MAX_VALUE, MAX_VALUE)) {
            return BAD_VALUE;
        }
        if (net.number(SENSORS) >= MAX_SENSORS) {
            return FULL;
        }
        history.record(net);
        return net.appendSensor(node, kind, value);
    }

    public int measure(int sensor, int value) {
        if (!net.has(SENSORS, sensor)) {
            return BAD_INDEX;
        }
        if (!isWithin(value, -MAX_VALUE, MAX_VALUE)) {
            return BAD_VALUE;
        }
        history.record(net);
        int previous = net.sensorPart(sensor, VALUE);
        net.setValue(sensor, value);
        return previous;
    }

    public int ask(int sink, int kind, int low, int high, int last) {
        if (!net.has(NODES, sink)) {
            return BAD_INDEX;
        }
        if (!isWithin(kind, 0, MAX_KIND) || !isWithin(low, -MAX_VALUE, MAX_VALUE) || !isWithin(high, low, MAX_VALUE)
                || !isWithin(last, net.number(ROUND), MAX_ROUND)) {
            return BAD_VALUE;
        }
        if (net.number(INTERESTS) >= MAX_INTERESTS) {
            return FULL;
        }
        history.record(net);
        return net.appendInterest(sink, kind, low, high, last);
    }

    public int withdraw(int interest) {
        if (!net.has(INTERESTS, interest)) {
            return BAD_INDEX;
        }
        history.record(net);
        net.removeInterest(interest);
        return net.number(INTERESTS);
    }

    public int setPeriod(int period) {
        if (!isWithin(period, 1, MAX_PERIOD)) {
            return BAD_VALUE;
        }
        history.record(net);
        int previous = net.number(PERIOD);
        net.setNumber(PERIOD, period);
        return previous;
    }

    public int count(int what) {
        return isWithin(what, 0, NUMBERS - 1) ? net.number(what) : BAD_VALUE;
    }

    public int energy(int node) {
        return net.has(NODES, node) ? net.energyOf(node) : BAD_INDEX;
    }

    public int linkPart(int link, int what) {
        if (!net.has(LINKS, link)) {
            return BAD_INDEX;
        }
        return isWithin(what, 0, LINK_PARTS - 1) ? net.partOfLink(link, what) : BAD_VALUE;
    }

    public int sensor(int sensor, int what) {
        if (!net.has(SENSORS, sensor)) {
            return BAD_INDEX;
        }
        return isWithin(what, 0, SENSOR_PARTS - 1) ? net.sensorPart(sensor, what) : BAD_VALUE;
    }

    public int interest(int interest, int what) {
        if (!net.has(INTERESTS, interest)) {
            return BAD_INDEX;
        }
        return isWithin(what, 0, WAYS) ? net.interestPart(interest, what) : BAD_VALUE;
    }

    public int rounds(int many) {
        if (!isWithin(many, 1, MAX_ROUNDS)) {
            return BAD_VALUE;
        }
        if (net.number(ROUND) + many > MAX_ROUND) {
            return FULL;
        }
        history.record(net);
        runner.start(net);
        int delivered = runner.run(many);
        net.copyFrom(runner.draft);
        return delivered;
    }

    public int wayLength(int interest, int sensor) {
        return hasWay(interest, sensor) ? net.lengthOf(wayOf(interest, sensor)) : BAD_INDEX;
    }

    public int wayNode(int interest, int sensor, int index) {
        if (!hasWay(interest, sensor)) {
            return BAD_INDEX;
        }
        if (index < 0) {
            return BAD_VALUE;
        }
        int way = wayOf(interest, sensor);
        return index < net.lengthOf(way) ? net.nodeOf(way, index) : NONE;
    }

    public int isWhole(int interest, int sensor) {
        if (!hasWay(interest, sensor)) {
            return BAD_INDEX;
        }
        paths.learn(net);
        return paths.carry(net, wayOf(interest, sensor), net.aliveNodes()) ? 1 : 0;
    }

    public int quickest(int from, int to) {
        if (!net.has(NODES, from) || !net.has(NODES, to)) {
            return BAD_INDEX;
        }
        int alive = net.aliveNodes();
        if (!holds(alive, from) || !holds(alive, to)) {
            return NONE;
        }
        paths.learn(net);
        paths.explore(from, alive);
        return holds(paths.reachedFrom(from), to) ? paths.timeOf(from, to) : NONE;
    }

    public int load(int link) {
        if (!net.has(LINKS, link)) {
            return BAD_INDEX;
        }
        return net.waysOver(net.partOfLink(link, ONE), net.partOfLink(link, OTHER));
    }

    public int firstDeath() {
        int aliveNow = net.number(ALIVE);
        runner.start(net);
        for (int round = 1; round <= MAX_FORETOLD; round++) {
            runner.run(1);
            if (runner.draft.number(ALIVE) < aliveNow) {
                return round;
            }
        }
        return NONE;
    }

    public int willDeliver(int many) {
        if (!isWithin(many, 1, MAX_FORETOLD)) {
            return BAD_VALUE;
        }
        runner.start(net);
        return runner.run(many);
    }

    public int bestPeriod(int many) {
        if (!isWithin(many, 1, MAX_COMPARED)) {
            return BAD_VALUE;
        }
        int best = 1;
        int most = -1;
        for (int period = 1; period <= MAX_PERIOD; period++) {
            runner.start(net);
            runner.draft.setNumber(PERIOD, period);
            int delivered = runner.run(many);
            if (delivered > most) {
                best = period;
                most = delivered;
            }
        }
        return best;
    }

    public int undo() {
        return history.restore(net) ? history.size : BAD_STATE;
    }

    public int type(int code) {
        if (!isWithin(code, 0, 255)) {
            return BAD_VALUE;
        }
        return text.append(code) ? text.length : FULL;
    }

    public int clearText() {
        int length = text.length;
        text.length = 0;
        return length;
    }

    public int textFault() {
        return text.read(net) ? NONE : text.fault;
    }

    public int build() {
        if (!text.read(net)) {
            return BAD_STATE;
        }
        history.record(net);
        net.copyFrom(text.draft);
        return text.items;
    }

    public long digest() {
        return net.hash();
    }

    private boolean hasWay(int interest, int sensor) {
        return net.has(INTERESTS, interest) && net.has(SENSORS, sensor);
    }

    private static int wayOf(int interest, int sensor) {
        return interest * MAX_SENSORS + sensor;
    }

    private static boolean isWithin(int value, int least, int greatest) {
        return value >= least && value <= greatest;
    }

    /** Tells whether a node is in a set of nodes, which has a bit for each. */
    private static boolean holds(int nodes, int node) {
        return node >= 0 && node < MAX_NODES && (nodes >> node & 1) == 1;
    }

    // Cells are read and written by these alone, so that no index is used before it is looked at.

    private static int at(int[] cells, int index) {
        return index >= 0 && index < cells.length ? cells[index] : 0;
    }

    private static void put(int[] cells, int index, int value) {
        if (index >= 0 && index < cells.length) {
            cells[index] = value;
        }
    }

    private static void increase(int[] cells, int index, int by) {
        put(cells, index, at(cells, index) + by);
    }

    private static void copy(int[] from, int[] to) {
        System.arraycopy(from, 0, to, 0, Math.min(from.length, to.length));
    }

    private static void removePiece(int[] cells, int size, int piece) {
        for (int index = piece * size; index < cells.length - size; index++) {
            put(cells, index, at(cells, index + size));
        }
    }

    private static long hashOf(long start, int[] cells, int first, int many) {
        long hash = start;
        for (int index = first; index < first + many; index++) {
            hash = 31 * hash + at(cells, index);
        }
        return hash;
    }

    /** What the history keeps: all but the text. */
    private static final class Net {
        private final int[] numbers = new int[NUMBERS];
        private final int[] energies = new int[MAX_NODES];
        private final int[] links = new int[MAX_LINKS * LINK_PARTS];
        private final int[] sensors = new int[MAX_SENSORS * SENSOR_PARTS];
        private final int[] interests = new int[MAX_INTERESTS * INTEREST_PARTS];
        private final int[] wayLengths = new int[MAX_INTERESTS * MAX_SENSORS];
        private final int[] wayNodes = new int[MAX_INTERESTS * MAX_SENSORS * MAX_NODES];

        Net() {
            put(numbers, PERIOD, FIRST_PERIOD);
        }

        void copyFrom(Net from) {
            copy(from.numbers, numbers);
            copy(from.energies, energies);
            copy(from.links, links);
            copy(from.sensors, sensors);
            copy(from.interests, interests);
            copy(from.wayLengths, wayLengths);
            copy(from.wayNodes, wayNodes);
        }

        int number(int what) {
            return what == ALIVE ? Integer.bitCount(aliveNodes()) : at(numbers, what);
        }

        void setNumber(int what, int value) {
            put(numbers, what, value);
        }

        void raise(int what, int by) {
            increase(numbers, what, by);
        }

        /** Tells whether there is one of this number, of NODES, LINKS, SENSORS or INTERESTS. */
        boolean has(int what, int index) {
            return index >= 0 && index < at(numbers, what);
        }

        int energyOf(int node) {
            return at(energies, node);
        }

        void setEnergy(int node, int energy) {
            put(energies, node, energy);
        }

        int aliveNodes() {
            int alive = 0;
            for (int node = 0; node < at(numbers, NODES); node++) {
                if (at(energies, node) > 0) {
                    alive |= 1 << node;
                }
            }
            return alive;
        }

        void spend(int node, int energy) {
            int spent = Math.min(energy, at(energies, node));
            increase(energies, node, -spent);
            increase(numbers, SPENT, spent);
        }

        int appendNode(int energy) {
            int node = at(numbers, NODES);
            put(energies, node, energy);
            put(numbers, NODES, node + 1);
            return node;
        }

        int appendLink(int one, int other, int delay) {
            int link = at(numbers, LINKS);
            put(links, link * LINK_PARTS + ONE, one);
            put(links, link * LINK_PARTS + OTHER, other);
            put(links, link * LINK_PARTS + DELAY, delay);
            put(numbers, LINKS, link + 1);
            return link;
        }

        int removeLink(int link) {
            removePiece(links, LINK_PARTS, link);
            increase(numbers, LINKS, -1);
            return at(numbers, LINKS);
        }

        int partOfLink(int link, int what) {
            return at(links, link * LINK_PARTS + what);
        }

        boolean areLinked(int one, int other) {
            for (int link = 0; link < at(numbers, LINKS); link++) {
                if (isPair(partOfLink(link, ONE), partOfLink(link, OTHER), one, other)) {
                    return true;
                }
            }
            return false;
        }

        private static boolean isPair(int first, int second, int one, int other) {
            return first == one && second == other || first == other && second == one;
        }

        int appendSensor(int node, int kind, int value) {
            int sensor = at(numbers, SENSORS);
            put(sensors, sensor * SENSOR_PARTS + PLACE, node);
            put(sensors, sensor * SENSOR_PARTS + SENSOR_KIND, kind);
            put(sensors, sensor * SENSOR_PARTS + VALUE, value);
            put(numbers, SENSORS, sensor + 1);
            return sensor;
        }

        int sensorPart(int sensor, int what) {
            return at(sensors, sensor * SENSOR_PARTS + what);
        }

        void setValue(int sensor, int value) {
            put(sensors, sensor * SENSOR_PARTS + VALUE, value);
        }

        int appendInterest(int sink, int kind, int low, int high, int last) {
            int interest = at(numbers, INTERESTS);
            put(interests, interest * INTEREST_PARTS + SINK, sink);
            put(interests, interest * INTEREST_PARTS + KIND, kind);
            put(interests, interest * INTEREST_PARTS + LOW, low);
            put(interests, interest * INTEREST_PARTS + HIGH, high);
            put(interests, interest * INTEREST_PARTS + LAST, last);
            put(interests, interest * INTEREST_PARTS + DELIVERED, 0);
            put(interests, interest * INTEREST_PARTS + DELAYS, 0);
            for (int sensor = 0; sensor < MAX_SENSORS; sensor++) {
                put(wayLengths, wayOf(interest, sensor), 0);
            }
            put(numbers, INTERESTS, interest + 1);
            return interest;
        }

        void removeInterest(int interest) {
            removePiece(interests, INTEREST_PARTS, interest);
            removePiece(wayLengths, MAX_SENSORS, interest);
            removePiece(wayNodes, MAX_SENSORS * MAX_NODES, interest);
            increase(numbers, INTERESTS, -1);
        }

        void endInterests() {
            for (int interest = at(numbers, INTERESTS) - 1; interest >= 0; interest--) {
                if (interestPart(interest, LAST) < at(numbers, ROUND)) {
                    removeInterest(interest);
                    increase(numbers, ENDED, 1);
                }
            }
        }

        int interestPart(int interest, int what) {
            return what == WAYS ? waysOf(interest) : at(interests, interest * INTEREST_PARTS + what);
        }

        private int waysOf(int interest) {
            int ways = 0;
            for (int sensor = 0; sensor < at(numbers, SENSORS); sensor++) {
                if (at(wayLengths, wayOf(interest, sensor)) > 0) {
                    ways++;
                }
            }
            return ways;
        }

        void deliver(int interest, int delay) {
            increase(interests, interest * INTEREST_PARTS + DELIVERED, 1);
            increase(interests, interest * INTEREST_PARTS + DELAYS, delay);
        }

        boolean matches(int sensor, int interest) {
            return sensorPart(sensor, SENSOR_KIND) == interestPart(interest, KIND)
                    && isWithin(sensorPart(sensor, VALUE), interestPart(interest, LOW), interestPart(interest, HIGH));
        }

        int lengthOf(int way) {
            return at(wayLengths, way);
        }

        int nodeOf(int way, int index) {
            return at(wayNodes, way * MAX_NODES + index);
        }

        /** Sets a way to nodes that are told from its end. */
        void setWay(int way, int[] nodesBackward, int length) {
            put(wayLengths, way, length);
            for (int index = 0; index < length; index++) {
                put(wayNodes, way * MAX_NODES + index, at(nodesBackward, length - 1 - index));
            }
        }

        void dropWay(int way) {
            put(wayLengths, way, 0);
        }

        boolean goesOver(int way, int one, int other) {
            int first = way * MAX_NODES;
            for (int index = 1; index < at(wayLengths, way); index++) {
                if (isPair(at(wayNodes, first + index - 1), at(wayNodes, first + index), one, other)) {
                    return true;
                }
            }
            return false;
        }

        int waysOver(int one, int other) {
            int ways = 0;
            for (int interest = 0; interest < at(numbers, INTERESTS); interest++) {
                for (int sensor = 0; sensor < at(numbers, SENSORS); sensor++) {
                    if (goesOver(wayOf(interest, sensor), one, other)) {
                        ways++;
                    }
                }
            }
            return ways;
        }

        long hash() {
            long hash = 17;
            for (int what = 0; what < NUMBERS; what++) {
                hash = 31 * hash + number(what);
            }
            hash = hashOf(hash, energies, 0, at(numbers, NODES));
            hash = hashOf(hash, links, 0, at(numbers, LINKS) * LINK_PARTS);
            hash = hashOf(hash, sensors, 0, at(numbers, SENSORS) * SENSOR_PARTS);
            for (int interest = 0; interest < at(numbers, INTERESTS); interest++) {
                hash = hashOf(hash, interests, interest * INTEREST_PARTS, INTEREST_PARTS);
                hash = 31 * hash + waysOf(interest);
                hash = hashOfWays(hash, interest);
            }
            return hash;
        }

        private long hashOfWays(long start, int interest) {
            long hash = start;
            for (int sensor = 0; sensor < at(numbers, SENSORS); sensor++) {
                int way = wayOf(interest, sensor);
                hash = 31 * hash + lengthOf(way);
                hash = hashOf(hash, wayNodes, way * MAX_NODES, lengthOf(way));
            }
            return hash;
        }
    }

    /** The quickest paths over the links of a net. */
    private static final class Paths {
        private final int[] delays = new int[MAX_NODES * MAX_NODES];
        private final int[] exploredAmong = new int[MAX_NODES];
        private final int[] reached = new int[MAX_NODES];
        private final int[] times = new int[MAX_NODES * MAX_NODES];
        private final int[] nodesBefore = new int[MAX_NODES * MAX_NODES];

        void learn(Net net) {
            Arrays.fill(delays, 0);
            Arrays.fill(exploredAmong, 0);
            for (int link = 0; link < net.number(LINKS); link++) {
                int one = net.partOfLink(link, ONE);
                int other = net.partOfLink(link, OTHER);
                put(delays, one * MAX_NODES + other, net.partOfLink(link, DELAY));
                put(delays, other * MAX_NODES + one, net.partOfLink(link, DELAY));
            }
        }

        private int delayBetween(int one, int other) {
            return at(delays, one * MAX_NODES + other);
        }

        /** Tells whether a way is whole, if just these nodes are alive. */
        boolean carry(Net net, int way, int alive) {
            int length = net.lengthOf(way);
            for (int index = 0; index < length; index++) {
                int node = net.nodeOf(way, index);
                if (!holds(alive, node) || index > 0 && delayBetween(net.nodeOf(way, index - 1), node) == 0) {
                    return false;
                }
            }
            return length > 0;
        }

        int delayOf(Net net, int way) {
            int delay = 0;
            for (int index = 1; index < net.lengthOf(way); index++) {
                delay += delayBetween(net.nodeOf(way, index - 1), net.nodeOf(way, index));
            }
            return delay;
        }

        void explore(int from, int alive) {
            // Foretelling explores from the same nodes thousands of times, and seldom has another one died since.
            if (at(exploredAmong, from) == alive) {
                return;
            }
            put(exploredAmong, from, alive);
            findTimes(from, alive);
            int found = 0;
            for (int node = 0; node < MAX_NODES; node++) {
                put(nodesBefore, from * MAX_NODES + node, findNodeBefore(from, node));
                if (timeOf(from, node) < UNREACHED) {
                    found |= 1 << node;
                }
            }
            put(reached, from, found);
        }

        private void findTimes(int from, int alive) {
            int first = from * MAX_NODES;
            for (int node = 0; node < MAX_NODES; node++) {
                put(times, first + node, node == from ? 0 : UNREACHED);
            }
            // A quickest path has fewer links than there are nodes.
            for (int links = 1; links < MAX_NODES; links++) {
                for (int node = 0; node < MAX_NODES; node++) {
                    for (int next = 0; next < MAX_NODES; next++) {
                        int delay = at(delays, node * MAX_NODES + next);
                        int time = at(times, first + node) + delay;
                        if (delay > 0 && holds(alive, next) && time < at(times, first + next)) {
                            put(times, first + next, time);
                        }
                    }
                }
            }
        }

        private int findNodeBefore(int from, int node) {
            int first = from * MAX_NODES;
            for (int before = 0; before < MAX_NODES; before++) {
                int delay = at(delays, before * MAX_NODES + node);
                if (delay > 0 && at(times, first + before) + delay == at(times, first + node)) {
                    return before;
                }
            }
            return NO_NODE;
        }

        int timeOf(int from, int node) {
            return at(times, from * MAX_NODES + node);
        }

        int reachedFrom(int from) {
            return at(reached, from);
        }

        int nodeBefore(int from, int node) {
            return at(nodesBefore, from * MAX_NODES + node);
        }
    }

    /** Does rounds on a draft, for real ones and foretold ones alike. */
    private static final class Runner {
        private final Net draft = new Net();
        private final Paths paths = new Paths();
        private final int[] newWay = new int[MAX_NODES];
        private final int[] sentTo = new int[MAX_SENSORS * MAX_NODES];

        void start(Net net) {
            draft.copyFrom(net);
            paths.learn(net);
        }

        /** Tells how often data were delivered. */
        int run(int many) {
            int delivered = 0;
            for (int round = 0; round < many; round++) {
                draft.endInterests();
                Arrays.fill(sentTo, 0);
                for (int interest = 0; interest < draft.number(INTERESTS); interest++) {
                    for (int sensor = 0; sensor < draft.number(SENSORS); sensor++) {
                        if (takeTurn(interest, sensor)) {
                            delivered++;
                        }
                    }
                }
                draft.raise(ROUND, 1);
            }
            return delivered;
        }

        /** Tells whether data were delivered. */
        private boolean takeTurn(int interest, int sensor) {
            int way = wayOf(interest, sensor);
            int from = draft.sensorPart(sensor, PLACE);
            int sink = draft.interestPart(interest, SINK);
            // Nodes that die in the turn go on until its end, so the alive ones are told once.
            int alive = draft.aliveNodes();
            if (!draft.matches(sensor, interest) || !holds(alive, from) || !holds(alive, sink)) {
                draft.dropWay(way);
                return false;
            }
            if (isExploringRound() || !paths.carry(draft, way, alive)) {
                exploreWay(way, from, sink, alive);
            }
            if (draft.lengthOf(way) == 0) {
                return false;
            }
            send(way, sensor);
            draft.deliver(interest, paths.delayOf(draft, way));
            return true;
        }

        private boolean isExploringRound() {
            int period = draft.number(PERIOD);
            return period > 0 && draft.number(ROUND) % period == 0;
        }

        private void exploreWay(int way, int from, int sink, int alive) {
            paths.explore(from, alive);
            int reached = paths.reachedFrom(from);
            for (int node = 0; node < MAX_NODES; node++) {
                if (holds(reached, node)) {
                    draft.spend(node, 1);
                }
            }
            int length = holds(reached, sink) ? traceBack(from, sink) : 0;
            int kept = keptLinks(way, length);
            draft.raise(EXPLORATIONS, 1);
            draft.raise(STRENGTHENED, Math.max(length - 1, 0) - kept);
            draft.raise(THINNED, Math.max(draft.lengthOf(way) - 1, 0) - kept);
            draft.setWay(way, newWay, length);
        }

        /** Puts the new way into newWay, from the sink backward, and tells its length. */
        private int traceBack(int from, int sink) {
            int node = sink;
            int length = 1;
            put(newWay, 0, node);
            for (; node != from && length < MAX_NODES; length++) {
                node = paths.nodeBefore(from, node);
                put(newWay, length, node);
            }
            return length;
        }

        private int keptLinks(int oldWay, int length) {
            int kept = 0;
            for (int index = 1; index < length; index++) {
                if (draft.goesOver(oldWay, at(newWay, index - 1), at(newWay, index))) {
                    kept++;
                }
            }
            return kept;
        }

        private void send(int way, int sensor) {
            for (int index = 1; index < draft.lengthOf(way); index++) {
                int node = draft.nodeOf(way, index - 1);
                int next = draft.nodeOf(way, index);
                int sentBefore = at(sentTo, sensor * MAX_NODES + node);
                if (!holds(sentBefore, next)) {
                    put(sentTo, sensor * MAX_NODES + node, sentBefore | 1 << next);
                    draft.spend(node, 2);
                    draft.spend(next, 1);
                }
            }
        }
    }

    /** The latest states, in a ring of nets that are used again and again. */
    private static final class History {
        private final Net[] states = new Net[MAX_HISTORY];
        private int oldest;
        private int size;

        History() {
            for (int index = 0; index < states.length; index++) {
                states[index] = new Net();
            }
        }

        void record(Net net) {
            if (size == MAX_HISTORY) {
                oldest = (oldest + 1) % MAX_HISTORY;
                size--;
            }
            Net state = stateAt(size);
            if (state != null) {
                state.copyFrom(net);
                size++;
            }
        }

        /** Tells whether there was a state to restore. */
        boolean restore(Net net) {
            Net state = size > 0 ? stateAt(size - 1) : null;
            if (state == null) {
                return false;
            }
            net.copyFrom(state);
            size--;
            return true;
        }

        private Net stateAt(int age) {
            int index = (oldest + age) % MAX_HISTORY;
            return index >= 0 && index < states.length ? states[index] : null;
        }
    }

    /** The text, and the draft of a net to which its items are added as they are read. */
    private static final class Text {
        private final Net draft = new Net();
        private final int[] codes = new int[MAX_TEXT];
        private int length;
        private int items;
        private int fault;
        private int place;
        private int numberPlace;

        boolean append(int code) {
            if (length >= MAX_TEXT) {
                return false;
            }
            put(codes, length, code);
            length++;
            return true;
        }

        /** Tells whether the text has no fault; the draft is the net with what the text tells then. */
        boolean read(Net net) {
            draft.copyFrom(net);
            place = 0;
            items = 0;
            for (int step = 0; step < MAX_TEXT; step++) {
                if (!readItem()) {
                    return false;
                }
                items++;
                if (nextCode() == END) {
                    return true;
                }
                if (!readSign(';')) {
                    return false;
                }
            }
            return refuse(place);
        }

        private boolean readItem() {
            int code = nextCode();
            if (code == 'n') {
                return readNode();
            }
            if (code == 's') {
                return readSensor();
            }
            return isDigit(code) ? readLink() : refuse(place);
        }

        private boolean readNode() {
            if (draft.number(NODES) >= MAX_NODES) {
                return refuse(place);
            }
            int energy = readSign('n') ? readNumber(1, MAX_ENERGY) : NO_NUMBER;
            if (energy == NO_NUMBER) {
                return false;
            }
            draft.appendNode(energy);
            return true;
        }

        private boolean readLink() {
            if (draft.number(LINKS) >= MAX_LINKS) {
                return refuse(place);
            }
            int lastNode = draft.number(NODES) - 1;
            int one = readNumber(0, lastNode);
            if (one == NO_NUMBER || !readSign('-')) {
                return false;
            }
            int other = readNumber(0, lastNode);
            if (other == NO_NUMBER) {
                return false;
            }
            if (one == other || draft.areLinked(one, other)) {
                return refuse(numberPlace);
            }
            int delay = readSign(':') ? readNumber(1, MAX_DELAY) : NO_NUMBER;
            if (delay == NO_NUMBER) {
                return false;
            }
            draft.appendLink(one, other, delay);
            return true;
        }

        private boolean readSensor() {
            if (draft.number(SENSORS) >= MAX_SENSORS) {
                return refuse(place);
            }
            int node = readSign('s') ? readNumber(0, draft.number(NODES) - 1) : NO_NUMBER;
            if (node == NO_NUMBER || !readSign(',')) {
                return false;
            }
            int kind = readNumber(0, MAX_KIND);
            if (kind == NO_NUMBER || !readSign('=')) {
                return false;
            }
            boolean isNegative = nextCode() == '-' && readSign('-');
            int size = readNumber(0, MAX_VALUE);
            if (size == NO_NUMBER) {
                return false;
            }
            draft.appendSensor(node, kind, isNegative ? -size : size);
            return true;
        }

        private int readNumber(int least, int greatest) {
            // Blanks may stand before a number, but its first digit is where it begins.
            nextCode();
            numberPlace = place;
            int number = 0;
            for (; place < length && isDigit(at(codes, place)); place++) {
                number = 10 * number + at(codes, place) - '0';
            }
            int digits = place - numberPlace;
            if (!isWithin(digits, 1, MAX_DIGITS) || !isWithin(number, least, greatest)) {
                refuse(numberPlace);
                return NO_NUMBER;
            }
            return number;
        }

        private boolean readSign(int code) {
            if (nextCode() != code) {
                return refuse(place);
            }
            place++;
            return true;
        }

        /** Goes on to the next byte that is no blank, and tells it. */
        private int nextCode() {
            while (place < length && at(codes, place) == ' ') {
                place++;
            }
            return place < length ? at(codes, place) : END;
        }

        private static boolean isDigit(int code) {
            return code >= '0' && code <= '9';
        }

        private boolean refuse(int faultPlace) {
            fault = faultPlace;
            return false;
        }
    }
}
