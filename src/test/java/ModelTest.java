import java.util.ArrayDeque;
import java.util.ArrayList;
import java.util.Arrays;
import java.util.Deque;
import java.util.HashSet;
import java.util.LinkedHashMap;
import java.util.List;
import java.util.Map;
import java.util.Random;
import java.util.Set;

/** Compares runs of calls with a model of the document that is made of lists and sets, slowly and plainly. */
public final class ModelTest {
    private static final int NONE = -1000, BAD_INDEX = -1001, BAD_VALUE = -1002, BAD_STATE = -1003, FULL = -1004;
    private static final int RUNS = 900, CALLS = 512;

    private static final class Node {
        int energy;
    }

    private record Link(int one, int other, int delay) {
        boolean joins(int a, int b) {
            return Set.of(one, other).equals(Set.of(a, b));
        }
    }

    private record Sensor(int node, int kind, int value) { }

    private static final class Interest {
        int sink, kind, low, high, last, delivered, delays;
        final Map<Integer, List<Integer>> ways = new LinkedHashMap<>();
    }

    private static final class State {
        final List<Node> nodes = new ArrayList<>();
        final List<Link> links = new ArrayList<>();
        final List<Sensor> sensors = new ArrayList<>();
        final List<Interest> interests = new ArrayList<>();
        int period = 10, round, explored, strengthened, thinned, spent, ended;

        State copy() {
            State copy = new State();
            for (Node node : nodes) {
                copy.add(node.energy);
            }
            copy.links.addAll(links);
            copy.sensors.addAll(sensors);
            for (Interest from : interests) {
                Interest to = new Interest();
                to.sink = from.sink;
                to.kind = from.kind;
                to.low = from.low;
                to.high = from.high;
                to.last = from.last;
                to.delivered = from.delivered;
                to.delays = from.delays;
                to.ways.putAll(from.ways);
                copy.interests.add(to);
            }
            copy.period = period;
            copy.round = round;
            copy.explored = explored;
            copy.strengthened = strengthened;
            copy.thinned = thinned;
            copy.spent = spent;
            copy.ended = ended;
            return copy;
        }

        void add(int energy) {
            Node node = new Node();
            node.energy = energy;
            nodes.add(node);
        }

        Set<Integer> alive() {
            Set<Integer> alive = new HashSet<>();
            for (int node = 0; node < nodes.size(); node++) {
                if (nodes.get(node).energy > 0) {
                    alive.add(node);
                }
            }
            return alive;
        }

        Link between(int a, int b) {
            for (Link link : links) {
                if (a != b && link.joins(a, b)) {
                    return link;
                }
            }
            return null;
        }

        boolean whole(List<Integer> way, Set<Integer> alive) {
            if (way == null || !alive.containsAll(way)) {
                return false;
            }
            for (int i = 1; i < way.size(); i++) {
                if (between(way.get(i - 1), way.get(i)) == null) {
                    return false;
                }
            }
            return true;
        }

        /** The least sums of delays from a node, settled one by one. */
        Map<Integer, Integer> times(int from, Set<Integer> alive) {
            Map<Integer, Integer> settled = new LinkedHashMap<>();
            Map<Integer, Integer> open = new LinkedHashMap<>();
            open.put(from, 0);
            while (!open.isEmpty()) {
                int nearest = -1;
                for (int node : open.keySet()) {
                    if (nearest < 0 || open.get(node) < open.get(nearest)) {
                        nearest = node;
                    }
                }
                int time = open.remove(nearest);
                settled.put(nearest, time);
                for (int next : alive) {
                    Link link = between(nearest, next);
                    if (link != null && !settled.containsKey(next)) {
                        open.merge(next, time + link.delay, Math::min);
                    }
                }
            }
            return settled;
        }

        void spend(int node, int energy) {
            for (int i = 0; i < energy; i++) {
                if (nodes.get(node).energy > 0) {
                    nodes.get(node).energy--;
                    spent++;
                }
            }
        }

        int round() {
            for (Interest interest : new ArrayList<>(interests)) {
                if (interest.last < round) {
                    interests.remove(interest);
                    ended++;
                }
            }
            int delivered = 0;
            Set<List<Integer>> sent = new HashSet<>();
            for (Interest interest : interests) {
                for (int sensor = 0; sensor < sensors.size(); sensor++) {
                    delivered += turn(interest, sensor, sent);
                }
            }
            round++;
            return delivered;
        }

        int turn(Interest interest, int number, Set<List<Integer>> sent) {
            Sensor sensor = sensors.get(number);
            Set<Integer> alive = alive();
            boolean matches = sensor.kind == interest.kind && interest.low <= sensor.value
                    && sensor.value <= interest.high;
            if (!matches || !alive.contains(sensor.node) || !alive.contains(interest.sink)) {
                interest.ways.remove(number);
                return 0;
            }
            if (round % period == 0 || !whole(interest.ways.get(number), alive)) {
                explore(interest, number, alive);
            }
            List<Integer> way = interest.ways.get(number);
            if (way == null) {
                return 0;
            }
            for (int i = 1; i < way.size(); i++) {
                if (sent.add(List.of(number, way.get(i - 1), way.get(i)))) {
                    spend(way.get(i - 1), 2);
                    spend(way.get(i), 1);
                }
                interest.delays += between(way.get(i - 1), way.get(i)).delay;
            }
            interest.delivered++;
            return 1;
        }

        void explore(Interest interest, int number, Set<Integer> alive) {
            explored++;
            Map<Integer, Integer> times = times(sensors.get(number).node, alive);
            for (int node : times.keySet()) {
                spend(node, 1);
            }
            List<Integer> old = interest.ways.remove(number);
            List<Integer> way = null;
            if (times.containsKey(interest.sink)) {
                way = new ArrayList<>(List.of(interest.sink));
                while (times.get(way.get(0)) > 0) {
                    way.add(0, before(way.get(0), times));
                }
                interest.ways.put(number, way);
            }
            Set<Set<Integer>> added = linksOf(way);
            added.removeAll(linksOf(old));
            strengthened += added.size();
            Set<Set<Integer>> lost = linksOf(old);
            lost.removeAll(linksOf(way));
            thinned += lost.size();
        }

        int before(int node, Map<Integer, Integer> times) {
            for (int before = 0; before < nodes.size(); before++) {
                Link link = between(before, node);
                if (link != null && times.containsKey(before)
                        && times.get(before) + link.delay == times.get(node)) {
                    return before;
                }
            }
            throw new IllegalStateException("no node before " + node);
        }

        static Set<Set<Integer>> linksOf(List<Integer> way) {
            Set<Set<Integer>> links = new HashSet<>();
            for (int i = 1; way != null && i < way.size(); i++) {
                links.add(Set.of(way.get(i - 1), way.get(i)));
            }
            return links;
        }
    }

    /** The public face, answered from the model. */
    private static final class Model {
        State state = new State();
        final Deque<State> history = new ArrayDeque<>();
        String text = "";

        void record() {
            history.addLast(state.copy());
            if (history.size() > 5) {
                history.removeFirst();
            }
        }

        static boolean in(int value, int low, int high) {
            return low <= value && value <= high;
        }

        boolean node(int node) {
            return in(node, 0, state.nodes.size() - 1);
        }

        boolean sensor(int sensor) {
            return in(sensor, 0, state.sensors.size() - 1);
        }

        boolean interest(int interest) {
            return in(interest, 0, state.interests.size() - 1);
        }

        long call(int method, int[] a) {
            return switch (method) {
                case 0 -> addNode(a[0]);
                case 1 -> charge(a[0], a[1]);
                case 2 -> link(a[0], a[1], a[2]);
                case 3 -> cut(a[0]);
                case 4 -> addSensor(a[0], a[1], a[2]);
                case 5 -> measure(a[0], a[1]);
                case 6 -> ask(a[0], a[1], a[2], a[3], a[4]);
                case 7 -> withdraw(a[0]);
                case 8 -> setPeriod(a[0]);
                case 9 -> count(a[0]);
                case 10 -> node(a[0]) ? state.nodes.get(a[0]).energy : BAD_INDEX;
                case 11 -> linkPart(a[0], a[1]);
                case 12 -> sensorPart(a[0], a[1]);
                case 13 -> interestPart(a[0], a[1]);
                case 14 -> rounds(a[0]);
                case 15 -> way(a[0], a[1]) == null ? BAD_INDEX : way(a[0], a[1]).size();
                case 16 -> wayNode(a[0], a[1], a[2]);
                case 17 -> isWhole(a[0], a[1]);
                case 18 -> quickest(a[0], a[1]);
                case 19 -> load(a[0]);
                case 20 -> firstDeath();
                case 21 -> in(a[0], 1, 500) ? deliveries(state.copy(), a[0]) : BAD_VALUE;
                case 22 -> bestPeriod(a[0]);
                case 23 -> undo();
                case 24 -> type(a[0]);
                case 25 -> clearText();
                case 26 -> new Parser(state, text).fault();
                case 27 -> build();
                default -> digest();
            };
        }

        int addNode(int energy) {
            if (!in(energy, 1, 10000)) {
                return BAD_VALUE;
            }
            if (state.nodes.size() == 10) {
                return FULL;
            }
            record();
            state.add(energy);
            return state.nodes.size() - 1;
        }

        int charge(int node, int energy) {
            if (!node(node)) {
                return BAD_INDEX;
            }
            if (!in(energy, 0, 10000)) {
                return BAD_VALUE;
            }
            record();
            int was = state.nodes.get(node).energy;
            state.nodes.get(node).energy = energy;
            return was;
        }

        int link(int one, int other, int delay) {
            if (!node(one) || !node(other)) {
                return BAD_INDEX;
            }
            if (!in(delay, 1, 20)) {
                return BAD_VALUE;
            }
            if (one == other || state.between(one, other) != null) {
                return BAD_STATE;
            }
            if (state.links.size() == 20) {
                return FULL;
            }
            record();
            state.links.add(new Link(one, other, delay));
            return state.links.size() - 1;
        }

        int cut(int link) {
            if (!in(link, 0, state.links.size() - 1)) {
                return BAD_INDEX;
            }
            record();
            state.links.remove(link);
            return state.links.size();
        }

        int addSensor(int node, int kind, int value) {
            if (!node(node)) {
                return BAD_INDEX;
            }
            if (!in(kind, 0, 7) || !in(value, -100, 100)) {
                return BAD_VALUE;
            }
            if (state.sensors.size() == 6) {
                return FULL;
            }
            record();
            state.sensors.add(new Sensor(node, kind, value));
            return state.sensors.size() - 1;
        }

        int measure(int sensor, int value) {
            if (!sensor(sensor)) {
                return BAD_INDEX;
            }
            if (!in(value, -100, 100)) {
                return BAD_VALUE;
            }
            record();
            Sensor was = state.sensors.get(sensor);
            state.sensors.set(sensor, new Sensor(was.node, was.kind, value));
            return was.value;
        }

        int ask(int sink, int kind, int low, int high, int last) {
            if (!node(sink)) {
                return BAD_INDEX;
            }
            if (!in(kind, 0, 7) || !in(low, -100, 100) || !in(high, low, 100) || !in(last, state.round, 100000)) {
                return BAD_VALUE;
            }
            if (state.interests.size() == 5) {
                return FULL;
            }
            record();
            Interest interest = new Interest();
            interest.sink = sink;
            interest.kind = kind;
            interest.low = low;
            interest.high = high;
            interest.last = last;
            state.interests.add(interest);
            return state.interests.size() - 1;
        }

        int withdraw(int interest) {
            if (!interest(interest)) {
                return BAD_INDEX;
            }
            record();
            state.interests.remove(interest);
            return state.interests.size();
        }

        int setPeriod(int period) {
            if (!in(period, 1, 50)) {
                return BAD_VALUE;
            }
            record();
            int was = state.period;
            state.period = period;
            return was;
        }

        int count(int what) {
            return switch (what) {
                case 0 -> state.nodes.size();
                case 1 -> state.links.size();
                case 2 -> state.sensors.size();
                case 3 -> state.interests.size();
                case 4 -> state.period;
                case 5 -> state.round;
                case 6 -> state.alive().size();
                case 7 -> state.explored;
                case 8 -> state.strengthened;
                case 9 -> state.thinned;
                case 10 -> state.spent;
                case 11 -> state.ended;
                default -> BAD_VALUE;
            };
        }

        int linkPart(int link, int what) {
            if (!in(link, 0, state.links.size() - 1)) {
                return BAD_INDEX;
            }
            Link it = state.links.get(link);
            return in(what, 0, 2) ? new int[] {it.one, it.other, it.delay}[what] : BAD_VALUE;
        }

        int sensorPart(int sensor, int what) {
            if (!sensor(sensor)) {
                return BAD_INDEX;
            }
            Sensor it = state.sensors.get(sensor);
            return in(what, 0, 2) ? new int[] {it.node, it.kind, it.value}[what] : BAD_VALUE;
        }

        int interestPart(int interest, int what) {
            if (!interest(interest)) {
                return BAD_INDEX;
            }
            Interest it = state.interests.get(interest);
            int[] parts = {it.sink, it.kind, it.low, it.high, it.last, it.delivered, it.delays, it.ways.size()};
            return in(what, 0, 7) ? parts[what] : BAD_VALUE;
        }

        int rounds(int many) {
            if (!in(many, 1, 100)) {
                return BAD_VALUE;
            }
            record();
            return deliveries(state, many);
        }

        static int deliveries(State state, int many) {
            int delivered = 0;
            for (int i = 0; i < many; i++) {
                delivered += state.round();
            }
            return delivered;
        }

        /** The way, empty if there is none; null if there is no such interest or sensor. */
        List<Integer> way(int interest, int sensor) {
            if (!interest(interest) || !sensor(sensor)) {
                return null;
            }
            return state.interests.get(interest).ways.getOrDefault(sensor, List.of());
        }

        int wayNode(int interest, int sensor, int index) {
            List<Integer> way = way(interest, sensor);
            if (way == null) {
                return BAD_INDEX;
            }
            if (index < 0) {
                return BAD_VALUE;
            }
            return index < way.size() ? way.get(index) : NONE;
        }

        int isWhole(int interest, int sensor) {
            List<Integer> way = way(interest, sensor);
            if (way == null) {
                return BAD_INDEX;
            }
            return !way.isEmpty() && state.whole(way, state.alive()) ? 1 : 0;
        }

        int quickest(int from, int to) {
            if (!node(from) || !node(to)) {
                return BAD_INDEX;
            }
            if (!state.alive().contains(from)) {
                return NONE;
            }
            return state.times(from, state.alive()).getOrDefault(to, NONE);
        }

        int load(int link) {
            if (!in(link, 0, state.links.size() - 1)) {
                return BAD_INDEX;
            }
            Link it = state.links.get(link);
            int load = 0;
            for (Interest interest : state.interests) {
                for (List<Integer> way : interest.ways.values()) {
                    load += State.linksOf(way).contains(Set.of(it.one, it.other)) ? 1 : 0;
                }
            }
            return load;
        }

        int firstDeath() {
            State future = state.copy();
            for (int round = 1; round <= 500; round++) {
                future.round();
                if (future.alive().size() < state.alive().size()) {
                    return round;
                }
            }
            return NONE;
        }

        int bestPeriod(int many) {
            if (!in(many, 1, 200)) {
                return BAD_VALUE;
            }
            int[] delivered = new int[51];
            for (int period = 1; period <= 50; period++) {
                State future = state.copy();
                future.period = period;
                delivered[period] = deliveries(future, many);
            }
            int most = Arrays.stream(delivered, 1, 51).max().getAsInt();
            for (int period = 1; ; period++) {
                if (delivered[period] == most) {
                    return period;
                }
            }
        }

        int undo() {
            if (history.isEmpty()) {
                return BAD_STATE;
            }
            state = history.removeLast();
            return history.size();
        }

        int type(int code) {
            if (!in(code, 0, 255)) {
                return BAD_VALUE;
            }
            if (text.length() == 120) {
                return FULL;
            }
            text += (char) code;
            return text.length();
        }

        int clearText() {
            int length = text.length();
            text = "";
            return length;
        }

        int build() {
            Parser parser = new Parser(state, text);
            if (parser.fault() != NONE) {
                return BAD_STATE;
            }
            record();
            state = parser.state;
            return parser.items;
        }

        long digest() {
            List<Long> numbers = new ArrayList<>();
            for (int what = 0; what < 12; what++) {
                numbers.add((long) count(what));
            }
            state.nodes.forEach(node -> numbers.add((long) node.energy));
            for (int link = 0; link < state.links.size(); link++) {
                for (int what = 0; what < 3; what++) {
                    numbers.add((long) linkPart(link, what));
                }
            }
            for (int sensor = 0; sensor < state.sensors.size(); sensor++) {
                for (int what = 0; what < 3; what++) {
                    numbers.add((long) sensorPart(sensor, what));
                }
            }
            for (int interest = 0; interest < state.interests.size(); interest++) {
                for (int what = 0; what < 8; what++) {
                    numbers.add((long) interestPart(interest, what));
                }
                for (int sensor = 0; sensor < state.sensors.size(); sensor++) {
                    numbers.add((long) way(interest, sensor).size());
                    way(interest, sensor).forEach(node -> numbers.add((long) node));
                }
            }
            long hash = 17;
            for (long number : numbers) {
                hash = 31 * hash + number;
            }
            return hash;
        }
    }

    /** Reads a text by a table: for each item what follows what, a letter for a kind of number. */
    private static final class Parser {
        final State state;
        final String text;
        int items;

        Parser(State state, String text) {
            this.state = state.copy();
            this.text = text;
        }

        int fault() {
            String form = "";
            int done = 0;
            List<Integer> numbers = new ArrayList<>();
            for (int i = 0; i < text.length(); i++) {
                char sign = text.charAt(i);
                if (sign == ' ') {
                    continue;
                }
                boolean digit = sign >= '0' && sign <= '9';
                if (form.isEmpty()) {
                    form = sign == 'n' ? "ne" : sign == 's' ? "sa,k=v" : digit ? "a-b:d" : "?";
                    if (form.equals("?") || full(sign)) {
                        return i;
                    }
                }
                if (done == form.length()) {
                    if (sign != ';') {
                        return i;
                    }
                    addItem(form, numbers);
                    form = "";
                    done = 0;
                    numbers.clear();
                    continue;
                }
                char expected = form.charAt(done);
                if (expected == 'v' && sign == '-') {
                    form = form.replace('v', 'w');
                } else if ("eabdkvw".indexOf(expected) >= 0) {
                    int end = i;
                    while (end < text.length() && text.charAt(end) >= '0' && text.charAt(end) <= '9') {
                        end++;
                    }
                    if (end == i || end - i > 5 || !fits(expected, Integer.parseInt(text.substring(i, end)), numbers)) {
                        return i;
                    }
                    numbers.add(Integer.parseInt(text.substring(i, end)));
                    i = end - 1;
                    done++;
                } else if (sign == expected) {
                    done++;
                } else {
                    return i;
                }
            }
            if (form.isEmpty() || done < form.length()) {
                return text.length();
            }
            addItem(form, numbers);
            return NONE;
        }

        boolean full(char sign) {
            return sign == 'n' ? state.nodes.size() == 10 : sign == 's' ? state.sensors.size() == 6
                    : state.links.size() == 20;
        }

        boolean fits(char kind, int number, List<Integer> numbers) {
            return switch (kind) {
                case 'e' -> number >= 1 && number <= 10000;
                case 'a' -> number < state.nodes.size();
                case 'b' -> number < state.nodes.size() && number != numbers.get(0)
                        && state.between(number, numbers.get(0)) == null;
                case 'd' -> number >= 1 && number <= 20;
                case 'k' -> number <= 7;
                default -> number <= 100;
            };
        }

        void addItem(String form, List<Integer> numbers) {
            items++;
            switch (form.charAt(0)) {
                case 'n' -> state.add(numbers.get(0));
                case 's' -> state.sensors.add(new Sensor(numbers.get(0), numbers.get(1),
                        form.endsWith("w") ? -numbers.get(2) : numbers.get(2)));
                default -> state.links.add(new Link(numbers.get(0), numbers.get(1), numbers.get(2)));
            }
        }
    }

    private static long call(InterestNet net, int method, int[] a) {
        return switch (method) {
            case 0 -> net.addNode(a[0]);
            case 1 -> net.charge(a[0], a[1]);
            case 2 -> net.link(a[0], a[1], a[2]);
            case 3 -> net.cut(a[0]);
            case 4 -> net.addSensor(a[0], a[1], a[2]);
            case 5 -> net.measure(a[0], a[1]);
            case 6 -> net.ask(a[0], a[1], a[2], a[3], a[4]);
            case 7 -> net.withdraw(a[0]);
            case 8 -> net.setPeriod(a[0]);
            case 9 -> net.count(a[0]);
            case 10 -> net.energy(a[0]);
            case 11 -> net.linkPart(a[0], a[1]);
            case 12 -> net.sensor(a[0], a[1]);
            case 13 -> net.interest(a[0], a[1]);
            case 14 -> net.rounds(a[0]);
            case 15 -> net.wayLength(a[0], a[1]);
            case 16 -> net.wayNode(a[0], a[1], a[2]);
            case 17 -> net.isWhole(a[0], a[1]);
            case 18 -> net.quickest(a[0], a[1]);
            case 19 -> net.load(a[0]);
            case 20 -> net.firstDeath();
            case 21 -> net.willDeliver(a[0]);
            case 22 -> net.bestPeriod(a[0]);
            case 23 -> net.undo();
            case 24 -> net.type(a[0]);
            case 25 -> net.clearText();
            case 26 -> net.textFault();
            case 27 -> net.build();
            default -> net.digest();
        };
    }

    private static final String[] NAMES = {"addNode", "charge", "link", "cut", "addSensor", "measure", "ask", "withdraw",
        "setPeriod", "count", "energy", "linkPart", "sensor", "interest", "rounds", "wayLength", "wayNode", "isWhole",
        "quickest", "load", "firstDeath", "willDeliver", "bestPeriod", "undo", "type", "clearText", "textFault", "build",
        "digest"};

    // How many arguments each method takes, and how often it is called in runs without texts and with them.
    private static final int[] ARGUMENTS = {1, 2, 3, 1, 3, 2, 5, 1, 1, 1, 1, 2, 2, 2, 1, 2, 3, 2, 2, 1, 0, 1, 1, 0, 1, 0,
        0, 0, 0};
    private static final int[] WITHOUT_TEXTS = {4, 35, 25, 12, 8, 20, 30, 5, 6, 5, 6, 4, 4, 20, 60, 15, 25, 25, 20, 20, 3,
        3, 1, 10, 0, 0, 0, 0, 0};
    private static final int[] WITH_TEXTS = {1, 5, 3, 6, 1, 3, 5, 2, 2, 2, 2, 5, 5, 2, 6, 2, 2, 2, 2, 2, 1, 1, 0, 20, 1, 3,
        20, 25, 0};

    private static final String[] PIECES = {"n", "s", "-", ":", ",", "=", ";", " ", "0", "1", "2", "7", "00", "10", "20",
        "21", "100", "101", "99999", "100000", "x", "\u0000", "\u00ff"};

    private final Random random;
    private final InterestNet net = new InterestNet();
    private final Model model = new Model();
    private final StringBuilder calls = new StringBuilder();
    private final int greatestEnergy;
    private final boolean writes;
    private int made = 0;

    private ModelTest(long seed) {
        random = new Random(seed);
        greatestEnergy = new int[] {40, 300, 1500, 10000}[random.nextInt(4)];
        writes = seed % 3 == 0;
    }

    private int pick(int low, int high) {
        return low + random.nextInt(high - low + 1);
    }

    /** A number of one of so many, now and then one that is not there. */
    private int index(int many) {
        return random.nextInt(25) == 0 ? wild() : many == 0 ? pick(0, 1) : random.nextInt(many);
    }

    /** A value from low to high, now and then at an edge or out of it. */
    private int value(int low, int high) {
        return switch (random.nextInt(30)) {
            case 0 -> low - 1;
            case 1 -> high + 1;
            case 2 -> low;
            case 3 -> high;
            case 4 -> random.nextInt(4) == 0 ? wild() : low;
            default -> pick(low, high);
        };
    }

    private int wild() {
        int[] wild = {-1, 10, 20, 5, 6, 11, 12, Integer.MAX_VALUE, Integer.MIN_VALUE, 715827883, 429496730, -1000};
        return wild[random.nextInt(wild.length)];
    }

    private int[] arguments(int method) {
        State s = model.state;
        int nodes = s.nodes.size();
        int links = s.links.size();
        int sensors = s.sensors.size();
        int interests = s.interests.size();
        int low = random.nextInt(3) == 0 ? value(-100, 100) : pick(-100, -20);
        return switch (method) {
            case 0 -> new int[] {value(1, greatestEnergy)};
            case 1 -> new int[] {index(nodes), random.nextInt(5) == 0 ? 0 : value(greatestEnergy / 2, greatestEnergy)};
            case 2 -> new int[] {index(nodes), index(nodes), random.nextBoolean() ? pick(1, 3) : value(1, 20)};
            case 3, 19 -> new int[] {index(links)};
            case 4 -> new int[] {index(nodes), random.nextInt(8) == 0 ? value(0, 7) : 0, value(-100, 100)};
            case 5 -> new int[] {index(sensors), value(-100, 100)};
            case 6 -> new int[] {index(nodes), random.nextInt(8) == 0 ? value(0, 7) : 0, low,
                random.nextInt(8) == 0 ? value(-100, 100) : pick(Math.min(100, Math.max(low, 20)), 100),
                random.nextInt(20) == 0 ? value(s.round, 100000) : s.round + value(0, 60)};
            case 7 -> new int[] {index(interests)};
            case 8 -> new int[] {random.nextBoolean() ? pick(1, 6) : value(1, 50)};
            case 9 -> new int[] {value(0, 11)};
            case 10 -> new int[] {index(nodes)};
            case 11 -> new int[] {index(links), value(0, 2)};
            case 12 -> new int[] {index(sensors), value(0, 2)};
            case 13 -> new int[] {index(interests), value(0, 7)};
            case 14 -> new int[] {random.nextInt(4) > 0 ? pick(1, 3) : random.nextInt(6) > 0 ? pick(4, 12) : value(1, 100)};
            case 15, 17 -> new int[] {index(interests), index(sensors)};
            case 16 -> new int[] {index(interests), index(sensors), value(0, 4)};
            case 18 -> new int[] {index(nodes), index(nodes)};
            case 21 -> new int[] {random.nextInt(3) > 0 ? pick(1, 30) : value(1, 500)};
            case 22 -> new int[] {random.nextInt(4) > 0 ? pick(1, 30) : value(1, 200)};
            case 24 -> new int[] {value(0, 255)};
            default -> new int[0];
        };
    }

    private boolean answersAreSame(int method, int[] arguments) {
        if (made >= CALLS) {
            return true;
        }
        made++;
        long want = model.call(method, arguments);
        long got = call(net, method, arguments);
        String list = Arrays.toString(Arrays.copyOf(arguments, ARGUMENTS[method]));
        calls.append(NAMES[method]).append('(').append(list, 1, list.length() - 1).append(")\n");
        if (got != want) {
            System.out.print(calls);
            System.out.println("answered " + got + ", due is " + want);
        }
        return got == want;
    }

    private boolean run() {
        boolean same = writes || grow();
        int[] often = writes ? WITH_TEXTS : WITHOUT_TEXTS;
        int all = Arrays.stream(often).sum();
        while (same && made < CALLS) {
            int method = 0;
            for (int left = random.nextInt(all); left >= often[method]; method++) {
                left -= often[method];
            }
            if (method == 26 || method == 27) {
                same = write();
            }
            same = same && answersAreSame(method, arguments(method)) && answersAreSame(28, new int[0]);
        }
        return same && answersAreSame(22, arguments(22));
    }

    /** Something to begin with, so that runs are not of mere errors. */
    private boolean grow() {
        boolean same = true;
        int[] methods = {0, 0, 0, 0, 0, 0, 0, 2, 2, 2, 2, 2, 2, 2, 2, 4, 4, 4, 6, 6};
        for (int method : methods) {
            same = same && answersAreSame(method, arguments(method));
        }
        return same;
    }

    private boolean write() {
        boolean same = random.nextInt(4) == 0 || answersAreSame(25, new int[0]);
        StringBuilder text = new StringBuilder();
        for (int item = pick(1, 3); item > 0; item--) {
            text.append(item());
            text.append(item > 1 || random.nextInt(15) == 0 ? ";" : "");
        }
        for (int index = 0; index < text.length(); index++) {
            if (random.nextInt(30) == 0) {
                text.insert(index, ' ');
            }
            if (random.nextInt(120) == 0) {
                text.insert(index, PIECES[random.nextInt(PIECES.length)]);
            }
            if (random.nextInt(150) == 0) {
                text.deleteCharAt(index);
            }
        }
        for (int index = 0; same && index < text.length(); index++) {
            same = answersAreSame(24, new int[] {text.charAt(index)});
        }
        return same;
    }

    private String item() {
        State s = model.state;
        int nodes = s.nodes.size();
        return switch (random.nextInt(10)) {
            case 0, 1, 2 -> nodes == 10 ? index(nodes) + "-" + index(nodes) + ":3" : "n" + value(1, greatestEnergy);
            case 3, 4 -> "s" + index(nodes) + "," + value(0, 7) + "=" + value(-100, 100);
            case 5, 6, 7, 8 -> index(nodes) + "-" + index(nodes) + ":" + value(1, 20);
            default -> PIECES[random.nextInt(PIECES.length)] + PIECES[random.nextInt(PIECES.length)];
        };
    }

    public static void main(String[] args) {
        for (long seed = 0; seed < RUNS; seed++) {
            if (!new ModelTest(seed).run()) {
                System.out.println("run " + seed + " differs");
                System.exit(1);
            }
        }
        System.out.println("all answers are as due");
    }
}
