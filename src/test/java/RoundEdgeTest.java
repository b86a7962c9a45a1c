/** The edges of what happens in a round, sentence by sentence. */
public final class RoundEdgeTest extends Answers {
    public static void main(String[] args) {
        roundsAreCounted();
        interestsEnd();
        allInterestsEnd();
        valuesMatch();
        kindsMatch();
        deadNodeOfSensor();
        deadSink();
        nothingIsCountedForNoMatch();
        exploredInMultiplesOfThePeriod();
        periodChanges();
        exploredWhenNotWhole();
        exploredNodesSpend();
        sinkIsNotReached();
        sinkIsTheNodeOfTheSensor();
        leastSumOfDelays();
        lowestNodeBefore();
        allLinksStrengthenedOrThinned();
        someLinksStrengthenedAndThinned();
        sameLinksNeither();
        linksToldByTheirNodes();
        sentOnceInARound();
        sentOnceByTheLastSensor();
        sentInBothDirections();
        deliveries();
        spendsWhatItHas();
        nodeThatDiesGoesOnInItsTurn();
        wayBecomesNoneOnlyAsTold();
        everyTurnOfAFullNet();
        laterSensorsAndInterests();
        finish();
    }

    /** count() of 7 to 10: explorations, links strengthened and thinned, and energy spent. */
    private static void dueSums(InterestNet net, int explorations, int strengthened, int thinned, int spent) {
        due("count(7)", net.count(7), explorations);
        due("count(8)", net.count(8), strengthened);
        due("count(9)", net.count(9), thinned);
        due("count(10)", net.count(10), spent);
    }

    private static void dueEnergies(InterestNet net, int... energies) {
        for (int node = 0; node < energies.length; node++) {
            due("energy(" + node + ")", net.energy(node), energies[node]);
        }
    }

    private static void roundsAreCounted() {
        part = "'the present round is 0 at first', 'the number of the round increases by 1'";
        InterestNet net = new InterestNet();
        due("count(5)", net.count(5), 0);
        net.rounds(1);
        due("count(5)", net.count(5), 1);
        net.rounds(100);
        due("count(5)", net.count(5), 101);
    }

    private static void interestsEnd() {
        part = "'interests whose last round is before the present one end'";
        InterestNet net = row(1, 1000, 1);
        net.addSensor(0, 1, 50);
        net.ask(0, 1, 0, 100, 0);
        due("rounds(1), the last round is the present one", net.rounds(1), 1);
        due("count(3), none ends before the next round", net.count(3), 1);
        due("count(11)", net.count(11), 0);
        due("rounds(1), the last round is before the present one", net.rounds(1), 0);
        due("count(3)", net.count(3), 0);
        due("count(11)", net.count(11), 1);
        due("interest(0, 0)", net.interest(0, 0), BAD_INDEX);
        part = "'the numbers of the following ones decrease by 1', and their ways with them";
        InterestNet three = row(3, 1000, 1);
        three.addSensor(0, 1, 50);
        three.ask(1, 1, 0, 100, 9);
        three.ask(2, 1, 0, 100, 2);
        three.ask(0, 1, 0, 100, 3);
        due("rounds(3)", three.rounds(3), 9);
        due("count(3)", three.count(3), 3);
        due("rounds(1)", three.rounds(1), 2);
        due("count(3)", three.count(3), 2);
        dueWay(three, 0, 0, 0, 1);
        dueWay(three, 1, 0, 0);
        due("interest(1, 4)", three.interest(1, 4), 3);
        due("interest(1, 5)", three.interest(1, 5), 4);
        due("rounds(1)", three.rounds(1), 1);
        due("interest(0, 5)", three.interest(0, 5), 5);
        due("interest(0, 6)", three.interest(0, 6), 5);
        due("count(11)", three.count(11), 2);
        due("count(9), a removed way is not thinned", three.count(9), 0);
    }

    private static void allInterestsEnd() {
        part = "all five interests end in the same round";
        InterestNet net = row(1, 1000, 1);
        net.addSensor(0, 1, 50);
        for (int interest = 0; interest < 5; interest++) {
            net.ask(0, 1, 0, 100, 1);
        }
        due("rounds(2)", net.rounds(2), 10);
        due("count(3)", net.count(3), 5);
        due("rounds(100)", net.rounds(100), 0);
        due("count(3)", net.count(3), 0);
        due("count(11)", net.count(11), 5);
        due("ask(0, 1, 0, 100, 102)", net.ask(0, 1, 0, 100, 102), 0);
        due("wayLength(0, 0), none at first", net.wayLength(0, 0), 0);
        due("interest(0, 5)", net.interest(0, 5), 0);
        due("rounds(1)", net.rounds(1), 1);
    }

    private static void valuesMatch() {
        part = "'the value of the sensor is from low to high'";
        int[][] ranges = {{-5, 7}, {3, 3}, {-100, 99}, {-99, 100}, {0, 0}};
        for (int[] range : ranges) {
            InterestNet net = row(1, 10000, 1);
            net.addSensor(0, 1, 0);
            net.ask(0, 1, range[0], range[1], 1000);
            for (int value = -100; value <= 100; value++) {
                if (Math.abs(value - range[0]) <= 1 || Math.abs(value - range[1]) <= 1) {
                    net.measure(0, value);
                    boolean matches = range[0] <= value && value <= range[1];
                    due("rounds(1) with " + value + " for " + range[0] + " to " + range[1], net.rounds(1),
                            matches ? 1 : 0);
                    due("wayLength(0, 0)", net.wayLength(0, 0), matches ? 1 : 0);
                }
            }
        }
    }

    private static void kindsMatch() {
        part = "'the kinds are equal'";
        for (int kind = 0; kind <= 7; kind++) {
            InterestNet net = row(1, 10000, 1);
            for (int sensor = 0; sensor < 6; sensor++) {
                net.addSensor(0, (kind + sensor) % 8, 5);
            }
            net.ask(0, kind, -100, 100, 9);
            due("rounds(1) for kind " + kind, net.rounds(1), 1);
            due("wayLength(0, 0)", net.wayLength(0, 0), 1);
            due("interest(0, 7)", net.interest(0, 7), 1);
        }
    }

    private static void deadNodeOfSensor() {
        part = "'its node or the sink is not alive': the node of the sensor has 0 or 1";
        InterestNet net = asking(2, 100, 3);
        net.rounds(1);
        net.charge(0, 1);
        due("rounds(1), the node has 1", net.rounds(1), 1);
        dueEnergies(net, 0, 100 - 1 - 1 - 1);
        dueSums(net, 1, 1, 0, 1 + 1 + 2 + 1 + 1 + 1);
        dueWay(net, 0, 0, 0, 1);
        due("rounds(1), the node has 0", net.rounds(1), 0);
        dueWay(net, 0, 0);
        dueSums(net, 1, 1, 0, 7);
        net.charge(0, 1);
        due("rounds(1), the node has 1", net.rounds(1), 1);
        // The way was none, so its link is strengthened once more.
        dueSums(net, 2, 2, 0, 7 + 2 + 1);
    }

    private static void deadSink() {
        part = "'its node or the sink is not alive': the sink has 0 or 1";
        InterestNet net = asking(2, 100, 3);
        net.rounds(1);
        net.charge(1, 1);
        due("rounds(1), the sink has 1", net.rounds(1), 1);
        dueEnergies(net, 100 - 1 - 2 - 2, 0);
        dueWay(net, 0, 0, 0, 1);
        due("rounds(1), the sink has 0", net.rounds(1), 0);
        dueWay(net, 0, 0);
        dueSums(net, 1, 1, 0, 2 + 3 + 3);
        due("interest(0, 5)", net.interest(0, 5), 2);
        due("interest(0, 6)", net.interest(0, 6), 6);
    }

    private static void nothingIsCountedForNoMatch() {
        part = "'the way becomes none (nothing is counted by that)', in a multiple of the period too";
        InterestNet net = asking(4, 100, 1);
        net.setPeriod(1);
        net.rounds(1);
        dueSums(net, 1, 3, 0, 4 + 9);
        net.measure(0, -1);
        due("rounds(1)", net.rounds(1), 0);
        dueWay(net, 0, 0);
        dueSums(net, 1, 3, 0, 13);
        due("interest(0, 7)", net.interest(0, 7), 0);
        due("load(0)", net.load(0), 0);
        dueEnergies(net, 97, 96, 96, 98);
    }

    private static void exploredInMultiplesOfThePeriod() {
        part = "'the present round is a multiple of the period'";
        for (int period : new int[] {1, 2, 3, 10, 49, 50}) {
            InterestNet net = asking(1, 10000, 1);
            net.setPeriod(period);
            for (int round = 0; round <= 101; round++) {
                due("rounds(1)", net.rounds(1), 1);
                due("count(7) after round " + round + " with the period " + period, net.count(7), round / period + 1);
            }
        }
    }

    private static void periodChanges() {
        part = "a new period counts from the round 0 too";
        InterestNet net = asking(1, 10000, 1);
        net.rounds(7);
        due("count(7)", net.count(7), 1);
        net.setPeriod(7);
        net.rounds(1);
        due("count(7) after round 7 with the period 7", net.count(7), 2);
        net.setPeriod(4);
        net.rounds(1);
        due("count(7) after round 8 with the period 4", net.count(7), 3);
        net.setPeriod(10);
        net.rounds(1);
        due("count(7) after round 9 with the period 10", net.count(7), 3);
        net.rounds(1);
        due("count(7) after round 10 with the period 10", net.count(7), 4);
    }

    private static void exploredWhenNotWhole() {
        part = "'or the way is not whole, it is explored'";
        InterestNet net = asking(3, 1000, 1);
        net.link(0, 2, 9);
        net.rounds(2);
        dueWay(net, 0, 0, 0, 1, 2);
        due("count(7)", net.count(7), 1);
        // A quicker way is not looked for before a multiple of the period, as long as this one is whole.
        net.cut(2);
        net.link(0, 2, 1);
        net.rounds(1);
        dueWay(net, 0, 0, 0, 1, 2);
        due("count(7)", net.count(7), 1);
        net.charge(1, 0);
        due("rounds(1), node 1 is not alive", net.rounds(1), 1);
        dueWay(net, 0, 0, 0, 2);
        due("count(7)", net.count(7), 2);
        net.charge(1, 1000);
        net.cut(2);
        due("rounds(1), the link is cut", net.rounds(1), 1);
        dueWay(net, 0, 0, 0, 1, 2);
        due("count(7)", net.count(7), 3);
        net.cut(0);
        due("rounds(2), there is no way", net.rounds(2), 0);
        dueWay(net, 0, 0);
        due("count(7)", net.count(7), 5);
    }

    private static void exploredNodesSpend() {
        part = "'each node that is reached spends 1 energy', over links between alive nodes";
        InterestNet net = row(7, 100, 1);
        net.addSensor(2, 1, 50);
        net.ask(1, 1, 0, 100, 99);
        net.charge(4, 0);
        net.addNode(50);
        due("rounds(1)", net.rounds(1), 1);
        // Node 4 is dead, 5 and 6 are behind it, and 7 has no links.
        dueEnergies(net, 99, 100 - 1 - 1, 100 - 1 - 2, 99, 0, 100, 100, 50);
        dueSums(net, 1, 1, 0, 4 + 3);
    }

    private static void sinkIsNotReached() {
        part = "'if it is not reached, the way becomes none', 'all links of the old way are thinned'";
        InterestNet net = asking(4, 100, 1);
        net.rounds(1);
        net.charge(2, 0);
        due("rounds(1)", net.rounds(1), 0);
        dueWay(net, 0, 0);
        dueSums(net, 2, 3, 3, 4 + 9 + 2);
        due("rounds(1), none has no links", net.rounds(1), 0);
        dueSums(net, 3, 3, 3, 15 + 2);
        due("interest(0, 5)", net.interest(0, 5), 1);
        part = "only the node of the sensor is reached";
        InterestNet apart = row(2, 100, 1);
        apart.cut(0);
        apart.addSensor(0, 1, 50);
        apart.ask(1, 1, 0, 100, 99);
        due("rounds(1)", apart.rounds(1), 0);
        dueEnergies(apart, 99, 100);
        dueSums(apart, 1, 0, 0, 1);
    }

    private static void sinkIsTheNodeOfTheSensor() {
        part = "'0 for the node of the sensor', which is the sink";
        InterestNet net = asking(1, 2, 1);
        due("rounds(1)", net.rounds(1), 1);
        dueWay(net, 0, 0, 0);
        dueSums(net, 1, 0, 0, 1);
        dueEnergies(net, 1);
        due("interest(0, 5)", net.interest(0, 5), 1);
        due("interest(0, 6)", net.interest(0, 6), 0);
        due("isWhole(0, 0)", net.isWhole(0, 0), 1);
        due("rounds(9), nothing is spent", net.rounds(9), 9);
        dueEnergies(net, 1);
        due("rounds(1), the last energy is spent for exploring", net.rounds(1), 1);
        dueEnergies(net, 0);
        due("isWhole(0, 0), the node is dead", net.isWhole(0, 0), 0);
        due("rounds(1), the node is dead", net.rounds(1), 0);
        dueWay(net, 0, 0);
        dueSums(net, 2, 0, 0, 2);
    }

    private static void leastSumOfDelays() {
        part = "'the least sum of delays with which it can be reached'";
        dueQuickest(20, 19, 0, 1, 2, 3, 4);
        dueQuickest(19, 19, 0, 4);
        dueQuickest(18, 18, 0, 4);
    }

    /** From 0 to 4 over a link of the given delay, or over all other nodes with 19. */
    private static void dueQuickest(int delay, int quickest, int... way) {
        InterestNet net = row(4, 1000, 1);
        net.addNode(1000);
        net.link(3, 4, 16);
        net.link(0, 4, delay);
        net.addSensor(0, 1, 50);
        net.ask(4, 1, 0, 100, 999);
        net.rounds(1);
        dueWay(net, 0, 0, way);
        due("interest(0, 6) for a link with " + delay, net.interest(0, 6), quickest);
        due("quickest(0, 4) for a link with " + delay, net.quickest(0, 4), quickest);
    }

    private static void lowestNodeBefore() {
        part = "'the one with the lowest number', looked for from the sink backward";
        // Between 0 and 9 stand 1 to 8, each as quick: the sink looks for the lowest one, in whatever order they are linked.
        InterestNet net = new InterestNet();
        for (int node = 0; node < 10; node++) {
            net.addNode(1000);
        }
        for (int node = 8; node >= 1; node--) {
            net.link(9, node, 5);
            net.link(node, 0, 5);
        }
        net.addSensor(0, 1, 50);
        net.addSensor(9, 1, 50);
        net.ask(9, 1, 0, 100, 999);
        net.ask(0, 1, 0, 100, 999);
        net.setPeriod(1);
        for (int lowest = 1; lowest <= 8; lowest++) {
            net.rounds(1);
            dueWay(net, 0, 0, 0, lowest, 9);
            dueWay(net, 0, 1, 9);
            dueWay(net, 1, 0, 0);
            dueWay(net, 1, 1, 9, lowest, 0);
            net.charge(lowest, 0);
        }
        part = "the first choice is that of the sink, not that of the sensor's node";
        // 5-1-4-0 and 5-2-3-0 are as quick: the sink's is 3, though 1 is the lowest next to the sensor's node.
        InterestNet crossed = new InterestNet();
        for (int node = 0; node < 6; node++) {
            crossed.addNode(1000);
        }
        crossed.link(5, 1, 1);
        crossed.link(1, 4, 1);
        crossed.link(4, 0, 1);
        crossed.link(5, 2, 1);
        crossed.link(2, 3, 1);
        crossed.link(3, 0, 1);
        crossed.addSensor(5, 1, 50);
        crossed.ask(0, 1, 0, 100, 999);
        crossed.rounds(1);
        dueWay(crossed, 0, 0, 5, 2, 3, 0);
        part = "the node of the sensor itself may be the lowest one";
        InterestNet direct = new InterestNet();
        for (int node = 0; node < 3; node++) {
            direct.addNode(1000);
        }
        direct.link(0, 2, 2);
        direct.link(0, 1, 1);
        direct.link(1, 2, 1);
        direct.addSensor(0, 1, 50);
        direct.ask(2, 1, 0, 100, 999);
        direct.rounds(1);
        dueWay(direct, 0, 0, 0, 2);
    }

    private static void allLinksStrengthenedOrThinned() {
        part = "'links of the new way that are not in the old one (none has no links) are strengthened'";
        InterestNet net = asking(10, 1000, 1);
        net.rounds(1);
        due("count(8)", net.count(8), 9);
        due("count(9)", net.count(9), 0);
        part = "'links of the old way that are not in the new one are thinned'";
        net.link(0, 9, 5);
        net.rounds(9);
        dueWay(net, 0, 0, 0, 1, 2, 3, 4, 5, 6, 7, 8, 9);
        due("count(9)", net.count(9), 0);
        net.rounds(1);
        dueWay(net, 0, 0, 0, 9);
        due("count(8)", net.count(8), 10);
        due("count(9)", net.count(9), 9);
        part = "they are added up";
        net.cut(9);
        net.rounds(1);
        due("count(8)", net.count(8), 19);
        due("count(9)", net.count(9), 10);
    }

    private static void someLinksStrengthenedAndThinned() {
        part = "links of the new way that are in the old one are neither";
        InterestNet net = asking(5, 1000, 1);
        net.rounds(1);
        net.link(1, 3, 1);
        net.rounds(10);
        dueWay(net, 0, 0, 0, 1, 3, 4);
        due("count(8)", net.count(8), 5);
        due("count(9)", net.count(9), 2);
        net.charge(3, 0);
        net.link(2, 4, 1);
        net.rounds(1);
        dueWay(net, 0, 0, 0, 1, 2, 4);
        due("count(8)", net.count(8), 7);
        due("count(9)", net.count(9), 4);
    }

    private static void sameLinksNeither() {
        part = "the new way is the old one";
        InterestNet net = asking(4, 1000, 1);
        net.setPeriod(1);
        net.rounds(100);
        due("count(7)", net.count(7), 100);
        due("count(8)", net.count(8), 3);
        due("count(9)", net.count(9), 0);
    }

    private static void linksToldByTheirNodes() {
        part = "'a link is told by its two nodes here, whether it exists still or not'";
        InterestNet net = asking(3, 1000, 1);
        net.rounds(1);
        net.cut(0);
        due("load(0), once the second link", net.load(0), 1);
        net.link(1, 0, 20);
        due("load(1), linked again", net.load(1), 1);
        net.rounds(10);
        due("count(7)", net.count(7), 2);
        due("count(8)", net.count(8), 2);
        due("count(9)", net.count(9), 0);
        net.cut(1);
        net.cut(0);
        net.link(0, 2, 1);
        net.rounds(1);
        dueWay(net, 0, 0, 0, 2);
        due("count(8)", net.count(8), 3);
        due("count(9), of links that do not exist", net.count(9), 2);
    }

    private static void sentOnceInARound() {
        part = "'if data of this sensor were not sent over this link in this direction in this round already'";
        InterestNet net = asking(3, 1000, 1);
        net.ask(2, 1, 0, 100, 999);
        net.ask(1, 1, 0, 100, 999);
        net.setPeriod(50);
        due("rounds(1)", net.rounds(1), 3);
        dueEnergies(net, 1000 - 3 - 2, 1000 - 3 - 3, 1000 - 3 - 1);
        due("rounds(1), in the next round they are sent again", net.rounds(1), 3);
        dueEnergies(net, 1000 - 3 - 4, 1000 - 3 - 6, 1000 - 3 - 2);
        net.addSensor(0, 1, 50);
        due("rounds(1), another sensor's data are others", net.rounds(1), 6);
        dueEnergies(net, 1000 - 6 - 8, 1000 - 6 - 12, 1000 - 6 - 4);
        due("interest(2, 5)", net.interest(2, 5), 4);
        due("interest(2, 6)", net.interest(2, 6), 4);
        due("interest(1, 6)", net.interest(1, 6), 8);
    }

    private static void sentOnceByTheLastSensor() {
        part = "sent once: the last sensor, from the last node, to the last sinks";
        InterestNet net = row(10, 1000, 1);
        for (int sensor = 0; sensor < 5; sensor++) {
            net.addSensor(0, 2, 50);
        }
        net.addSensor(9, 1, 50);
        for (int interest = 0; interest < 5; interest++) {
            net.ask(8, 1, 0, 100, 999);
        }
        due("rounds(1)", net.rounds(1), 5);
        dueEnergies(net, 995, 995, 995, 995, 995, 995, 995, 995, 1000 - 5 - 1, 1000 - 5 - 2);
    }

    private static void sentInBothDirections() {
        part = "'in this direction': a sensor's data go over a link in both in one round";
        InterestNet net = row(3, 1000, 1);
        net.link(0, 2, 5);
        net.addSensor(0, 1, 50);
        net.ask(2, 1, 0, 100, 999);
        net.rounds(1);
        dueWay(net, 0, 0, 0, 1, 2);
        dueEnergies(net, 997, 996, 998);
        net.cut(0);
        net.link(0, 1, 10);
        net.ask(1, 1, 0, 100, 999);
        due("rounds(1)", net.rounds(1), 2);
        dueWay(net, 0, 0, 0, 1, 2);
        dueWay(net, 1, 0, 0, 2, 1);
        dueEnergies(net, 997 - 2 - 1 - 2, 996 - 3 - 1 - 1, 998 - 1 - 1 - 3);
        due("interest(0, 6)", net.interest(0, 6), 2 + 11);
        due("interest(1, 6)", net.interest(1, 6), 6);
    }

    private static void deliveries() {
        part = "'this is counted for the interest, and the sum of the delays of the way is added'";
        InterestNet net = asking(3, 1000, 20);
        net.addSensor(1, 1, 0);
        net.addSensor(2, 1, 100);
        net.ask(2, 1, 50, 50, 999);
        due("rounds(4)", net.rounds(4), 16);
        due("interest(0, 5)", net.interest(0, 5), 12);
        due("interest(0, 6)", net.interest(0, 6), 4 * (40 + 20 + 0));
        due("interest(1, 5)", net.interest(1, 5), 4);
        due("interest(1, 6)", net.interest(1, 6), 4 * 40);
        net.cut(1);
        net.link(2, 1, 1);
        due("rounds(1), with another delay", net.rounds(1), 4);
        due("interest(0, 6)", net.interest(0, 6), 240 + 21 + 1 + 0);
    }

    private static void spendsWhatItHas() {
        part = "'a node that has less than it should spend spends what it has'";
        // In the first round node 1 should spend 1 for exploring, 1 for what comes and 2 for what goes.
        int[] left = {0, 0, 0, 0, 1};
        int[] spent = {1, 2, 3, 4, 4};
        for (int energy = 1; energy <= 5; energy++) {
            InterestNet net = asking(3, 100, 1);
            net.charge(1, energy);
            due("rounds(1) with " + energy, net.rounds(1), 1);
            dueEnergies(net, 97, left[energy - 1], 98);
            due("count(10)", net.count(10), 3 + spent[energy - 1] + 2);
            due("count(6)", net.count(6), left[energy - 1] == 0 ? 2 : 3);
            dueWay(net, 0, 0, 0, 1, 2);
        }
        part = "the node of the sensor spends what it has";
        for (int energy = 1; energy <= 4; energy++) {
            InterestNet net = asking(2, 100, 1);
            net.charge(0, energy);
            due("rounds(1) with " + energy, net.rounds(1), 1);
            dueEnergies(net, Math.max(0, energy - 3), 98);
            due("count(10)", net.count(10), Math.min(energy, 3) + 2);
        }
        part = "the sink spends what it has";
        for (int energy = 1; energy <= 3; energy++) {
            InterestNet net = asking(2, 100, 1);
            net.charge(1, energy);
            due("rounds(1) with " + energy, net.rounds(1), 1);
            dueEnergies(net, 97, Math.max(0, energy - 2));
            due("count(10)", net.count(10), 3 + Math.min(energy, 2));
        }
    }

    private static void nodeThatDiesGoesOnInItsTurn() {
        part = "'alive means alive when it is their turn': the next sensor's turn";
        InterestNet net = asking(3, 100, 1);
        net.addSensor(0, 1, 60);
        net.charge(1, 1);
        due("rounds(1)", net.rounds(1), 1);
        dueWay(net, 0, 0, 0, 1, 2);
        dueWay(net, 0, 1);
        // The second sensor's exploration reaches node 0 alone.
        dueSums(net, 2, 2, 0, (1 + 2) + 1 + (1 + 1) + 1);
        due("rounds(1)", net.rounds(1), 0);
        dueWay(net, 0, 0);
        dueSums(net, 4, 2, 2, 7 + 1 + 1);
        part = "'alive means alive when it is their turn': the next interest's turn";
        InterestNet two = asking(3, 100, 1);
        two.ask(1, 1, 0, 100, 99);
        two.ask(0, 1, 0, 100, 99);
        two.charge(1, 1);
        due("rounds(1)", two.rounds(1), 2);
        dueWay(two, 0, 0, 0, 1, 2);
        dueWay(two, 1, 0);
        dueWay(two, 2, 0, 0);
        // Its sink is dead, so nothing is explored for interest 1.
        due("count(7)", two.count(7), 2);
    }

    private static void wayBecomesNoneOnlyAsTold() {
        part = "'a way becomes none only as told; what is asked of ways tells them as they are'";
        InterestNet net = asking(3, 100, 1);
        net.rounds(1);
        net.cut(0);
        net.charge(1, 0);
        net.charge(0, 0);
        net.measure(0, -100);
        net.setPeriod(1);
        dueWay(net, 0, 0, 0, 1, 2);
        due("isWhole(0, 0)", net.isWhole(0, 0), 0);
        due("interest(0, 7)", net.interest(0, 7), 1);
        due("load(0)", net.load(0), 1);
        due("count(9)", net.count(9), 0);
        net.willDeliver(500);
        net.firstDeath();
        net.bestPeriod(200);
        dueWay(net, 0, 0, 0, 1, 2);
        net.rounds(1);
        dueWay(net, 0, 0);
    }

    private static void everyTurnOfAFullNet() {
        part = "every sensor of every interest has its turn";
        InterestNet net = new InterestNet();
        for (int node = 0; node < 10; node++) {
            net.addNode(10000);
        }
        for (int link = 0; link < 20; link++) {
            net.link(link % 10, (link + 1 + link / 10) % 10, 1 + 2 * (link / 10));
        }
        for (int sensor = 0; sensor < 6; sensor++) {
            net.addSensor(sensor, 1, 50);
        }
        for (int interest = 0; interest < 5; interest++) {
            net.ask(9 - interest, 1, 0, 100, 99);
        }
        due("rounds(1)", net.rounds(1), 30);
        due("count(7)", net.count(7), 30);
        due("rounds(99)", net.rounds(99), 99 * 30);
        due("count(7)", net.count(7), 10 * 30);
        due("count(6)", net.count(6), 10);
        for (int interest = 0; interest < 5; interest++) {
            due("interest(" + interest + ", 5)", net.interest(interest, 5), 600);
            due("interest(" + interest + ", 7)", net.interest(interest, 7), 6);
            for (int sensor = 0; sensor < 6; sensor++) {
                // Round the ring of ten nodes, the shorter way.
                int steps = 9 - interest - sensor;
                int links = Math.min(Math.abs(steps), 10 - Math.abs(steps));
                due("wayLength(" + interest + ", " + sensor + ")", net.wayLength(interest, sensor), links + 1);
                due("isWhole(" + interest + ", " + sensor + ")", net.isWhole(interest, sensor), 1);
            }
        }
    }

    private static void laterSensorsAndInterests() {
        part = "'none at first': what comes later is explored in its first round";
        InterestNet net = asking(2, 100, 1);
        net.rounds(3);
        net.addSensor(1, 1, 50);
        due("wayLength(0, 1)", net.wayLength(0, 1), 0);
        due("rounds(1)", net.rounds(1), 2);
        dueWay(net, 0, 1, 1);
        due("count(7)", net.count(7), 2);
        due("ask(0, 1, 0, 100, 99)", net.ask(0, 1, 0, 100, 99), 1);
        due("wayLength(1, 0)", net.wayLength(1, 0), 0);
        due("wayLength(1, 1)", net.wayLength(1, 1), 0);
        due("rounds(1)", net.rounds(1), 4);
        due("count(7)", net.count(7), 4);
        dueWay(net, 1, 0, 0);
        dueWay(net, 1, 1, 1, 0);
    }
}
