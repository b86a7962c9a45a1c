import java.util.ArrayList;
import java.util.List;
import java.util.function.Supplier;

/** The edges of each call's arguments, of an empty and a full net, and of the order of errors. */
public final class CallEdgeTest extends Answers {
    // What is built anew for each call that is tried.
    private static final Supplier<InterestNet> EMPTY = InterestNet::new, SOME = CallEdgeTest::some,
            ROOMY = CallEdgeTest::roomy, FILLED = CallEdgeTest::filled;

    public static void main(String[] args) {
        newObject();
        addNode();
        charge();
        link();
        cut();
        addSensor();
        measure();
        ask();
        askInLateRounds();
        withdraw();
        setPeriod();
        count();
        energy();
        linkPart();
        sensor();
        interest();
        rounds();
        roundsUpToTheGreatest();
        wayLength();
        wayNode();
        isWhole();
        quickest();
        load();
        firstDeath();
        willDeliver();
        bestPeriod();
        emptyNetHasNothing();
        fullNetHasNoRoom();
        firstErrorInOrder();
        digest();
        lastCallThatIsPromised();
        finish();
    }

    /** Four nodes in a row, in round 2, with five states and a text. */
    private static InterestNet some() {
        InterestNet net = row(4, 100, 2);
        net.addSensor(0, 1, 50);
        net.addSensor(3, 2, -5);
        net.ask(3, 1, 0, 100, 40);
        net.ask(0, 2, -10, 10, 40);
        net.rounds(2);
        write(net, "n5");
        return net;
    }

    /** One less of each than there may be. */
    private static InterestNet roomy() {
        return crowd(9, 19, 5, 4);
    }

    private static InterestNet filled() {
        InterestNet net = crowd(10, 20, 6, 5);
        net.type('n');
        net.type('5');
        for (int length = 2; length < 120; length++) {
            net.type(' ');
        }
        return net;
    }

    private static InterestNet crowd(int nodes, int links, int sensors, int interests) {
        InterestNet net = new InterestNet();
        for (int node = 0; node < nodes; node++) {
            net.addNode(1000);
        }
        // Each node is linked with the next one, then each with the one after it, then each with the third one.
        for (int link = 0; link < links; link++) {
            net.link(link % nodes, (link + 1 + link / nodes) % nodes, 3 - link / nodes);
        }
        for (int sensor = 0; sensor < sensors; sensor++) {
            net.addSensor(sensor, 1, 10 * sensor);
        }
        for (int interest = 0; interest < interests; interest++) {
            net.ask(nodes - 1, 1, 0, 100, 100);
        }
        net.rounds(1);
        return net;
    }

    /** A single node with a sensor, whose interest is its own: each exploration spends 1 energy, and nothing else. */
    private static InterestNet lonely(int energy, int last) {
        InterestNet net = row(1, energy, 1);
        net.addSensor(0, 1, 50);
        net.ask(0, 1, 0, 100, last);
        return net;
    }

    /** No nodes, in a late round: more than 512 calls, which nothing but the greatest round needs. */
    private static InterestNet inRound(int round) {
        InterestNet net = new InterestNet();
        for (int done = 0; done < round; done += Math.min(100, round - done)) {
            net.rounds(Math.min(100, round - done));
        }
        return net;
    }

    private static void dueCounts(InterestNet net, int... counts) {
        for (int what = 0; what < counts.length; what++) {
            due("count(" + what + ")", net.count(what), counts[what]);
        }
    }

    private static void newObject() {
        part = "1: an empty net, in the round 0, with the period 10, and with an empty text";
        dueCounts(new InterestNet(), 0, 0, 0, 0, 10, 0, 0, 0, 0, 0, 0, 0);
        changesNothing("clearText()", EMPTY, net -> net.clearText(), 0);
        changesNothing("textFault()", EMPTY, net -> net.textFault(), 0);
        changesNothing("undo()", EMPTY, net -> net.undo(), BAD_STATE);
        part = "1: two objects have nothing in common";
        InterestNet other = new InterestNet();
        filled();
        dueCounts(other, 0, 0, 0, 0, 10, 0, 0, 0, 0, 0, 0, 0);
        due("type(110)", other.type(110), 1);
    }

    private static void addNode() {
        part = "2: energy 1 to 10000, or BAD_VALUE";
        refusesOutside(1, 10000, "addNode(?)", EMPTY, (net, energy) -> net.addNode(energy), BAD_VALUE);
        refusesOutside(1, 10000, "addNode(?)", SOME, (net, energy) -> net.addNode(energy), BAD_VALUE);
        isRecorded("addNode(1)", EMPTY, net -> net.addNode(1), 0);
        isRecorded("addNode(10000)", SOME, net -> net.addNode(10000), 4);
        InterestNet net = some();
        net.addNode(1);
        net.addNode(10000);
        due("energy(4)", net.energy(4), 1);
        due("energy(5)", net.energy(5), 10000);
        dueCounts(net, 6, 3, 2, 2, 10, 2, 6);
        part = "2: at most 10 nodes, numbered from 0";
        InterestNet all = new InterestNet();
        for (int node = 0; node < 10; node++) {
            due("addNode(7)", all.addNode(7), node);
            due("count(0)", all.count(0), node + 1);
        }
        due("the 11th addNode(7)", all.addNode(7), FULL);
        due("count(0)", all.count(0), 10);
        isRecorded("the 10th addNode(7)", ROOMY, one -> one.addNode(7), 9);
    }

    private static void charge() {
        part = "3: a node of its number, or BAD_INDEX";
        refusesOutside(0, 3, "charge(?, 5)", SOME, (net, node) -> net.charge(node, 5), BAD_INDEX);
        refusesOutside(0, 9, "charge(?, 5)", FILLED, (net, node) -> net.charge(node, 5), BAD_INDEX);
        isRecorded("charge(0, 5)", SOME, net -> net.charge(0, 5), 92);
        isRecorded("charge(3, 5)", SOME, net -> net.charge(3, 5), 92);
        part = "3: energy 0 to 10000, or BAD_VALUE";
        refusesOutside(0, 10000, "charge(1, ?)", SOME, (net, energy) -> net.charge(1, energy), BAD_VALUE);
        isRecorded("charge(1, 0)", SOME, net -> net.charge(1, 0), 86);
        isRecorded("charge(1, 10000)", SOME, net -> net.charge(1, 10000), 86);
        InterestNet net = some();
        int spent = net.count(10);
        due("charge(1, 0)", net.charge(1, 0), 86);
        due("count(6), a node with 0 is not alive", net.count(6), 3);
        due("charge(1, 10000)", net.charge(1, 10000), 0);
        due("charge(1, 1)", net.charge(1, 1), 10000);
        due("count(6), a node with 1 is alive", net.count(6), 4);
        due("energy(1)", net.energy(1), 1);
        due("energy(0)", net.energy(0), 92);
        due("count(10), which is spent in rounds alone", net.count(10), spent);
    }

    private static void link() {
        part = "4: nodes of their numbers, or BAD_INDEX";
        refusesOutside(0, 3, "link(?, 1, 5)", SOME, (net, node) -> net.link(node, 1, 5), BAD_INDEX);
        refusesOutside(0, 3, "link(1, ?, 5)", SOME, (net, node) -> net.link(1, node, 5), BAD_INDEX);
        isRecorded("link(0, 3, 5)", SOME, net -> net.link(0, 3, 5), 3);
        isRecorded("link(3, 0, 5)", SOME, net -> net.link(3, 0, 5), 3);
        part = "4: delay 1 to 20, or BAD_VALUE";
        refusesOutside(1, 20, "link(0, 2, ?)", SOME, (net, delay) -> net.link(0, 2, delay), BAD_VALUE);
        isRecorded("link(0, 2, 1)", SOME, net -> net.link(0, 2, 1), 3);
        isRecorded("link(0, 2, 20)", SOME, net -> net.link(0, 2, 20), 3);
        InterestNet net = some();
        net.link(2, 0, 1);
        net.link(1, 3, 20);
        due("linkPart(3, 0)", net.linkPart(3, 0), 2);
        due("linkPart(3, 1)", net.linkPart(3, 1), 0);
        due("linkPart(3, 2)", net.linkPart(3, 2), 1);
        due("linkPart(4, 2)", net.linkPart(4, 2), 20);
        part = "4: BAD_STATE if both are the same, or are linked";
        for (int node = 0; node < 4; node++) {
            int same = node;
            changesNothing("link(" + node + ", " + node + ", 5)", SOME, one -> one.link(same, same, 5), BAD_STATE);
        }
        changesNothing("link(0, 1, 5)", SOME, one -> one.link(0, 1, 5), BAD_STATE);
        changesNothing("link(1, 0, 5)", SOME, one -> one.link(1, 0, 5), BAD_STATE);
        changesNothing("link(2, 3, 2)", SOME, one -> one.link(2, 3, 2), BAD_STATE);
        changesNothing("link(3, 2, 2)", SOME, one -> one.link(3, 2, 2), BAD_STATE);
        net = some();
        net.cut(0);
        due("link(1, 0, 5), which was cut", net.link(1, 0, 5), 2);
        net.charge(0, 0);
        due("link(0, 2, 5) of a node that is not alive", net.link(0, 2, 5), 3);
        part = "4: at most 20 links, numbered from 0 in the order in which they were added";
        InterestNet all = new InterestNet();
        for (int node = 0; node < 10; node++) {
            all.addNode(7);
        }
        for (int link = 0; link < 20; link++) {
            due("link number " + link, all.link(link % 10, (link + 1 + link / 10) % 10, 1 + link % 10), link);
            due("count(1)", all.count(1), link + 1);
        }
        due("the 21st link(0, 5, 1)", all.link(0, 5, 1), FULL);
        due("count(1)", all.count(1), 20);
        for (int link = 0; link < 20; link++) {
            due("linkPart(" + link + ", 0)", all.linkPart(link, 0), link % 10);
            due("linkPart(" + link + ", 2)", all.linkPart(link, 2), 1 + link % 10);
        }
        isRecorded("the 20th link(0, 4, 1)", ROOMY, one -> one.link(0, 4, 1), 19);
    }

    private static void cut() {
        part = "5: a link of its number, or BAD_INDEX";
        refusesOutside(0, 2, "cut(?)", SOME, (net, link) -> net.cut(link), BAD_INDEX);
        refusesOutside(0, 19, "cut(?)", FILLED, (net, link) -> net.cut(link), BAD_INDEX);
        isRecorded("cut(0)", SOME, net -> net.cut(0), 2);
        isRecorded("cut(2)", SOME, net -> net.cut(2), 2);
        isRecorded("cut(19)", FILLED, net -> net.cut(19), 19);
        part = "5: the numbers of the following ones decrease by 1";
        for (int cut = 0; cut < 20; cut++) {
            InterestNet net = filled();
            InterestNet before = filled();
            due("cut(" + cut + ")", net.cut(cut), 19);
            for (int link = 0; link < 19; link++) {
                for (int what = 0; what < 3; what++) {
                    due("linkPart(" + link + ", " + what + ") after cut(" + cut + ")", net.linkPart(link, what),
                            before.linkPart(link < cut ? link : link + 1, what));
                }
            }
            due("linkPart(19, 0)", net.linkPart(19, 0), BAD_INDEX);
            // What was cut is not linked, also if it was the last of 20.
            int one = before.linkPart(cut, 0);
            int other = before.linkPart(cut, 1);
            due("quickest(" + one + ", " + other + ") after cut(" + cut + ")", net.quickest(one, other), cut < 10 ? 5 : 6);
            due("link(" + other + ", " + one + ", 1)", net.link(other, one, 1), 19);
            due("quickest(" + one + ", " + other + "), linked again", net.quickest(one, other), 1);
        }
        part = "5: how many are left, down to 0";
        InterestNet net = some();
        due("cut(1)", net.cut(1), 2);
        due("cut(1)", net.cut(1), 1);
        due("cut(1)", net.cut(1), BAD_INDEX);
        due("cut(0)", net.cut(0), 0);
        due("cut(0)", net.cut(0), BAD_INDEX);
    }

    private static void addSensor() {
        part = "6: a node of its number, or BAD_INDEX";
        refusesOutside(0, 3, "addSensor(?, 0, 0)", SOME, (net, node) -> net.addSensor(node, 0, 0), BAD_INDEX);
        isRecorded("addSensor(0, 3, 3)", SOME, net -> net.addSensor(0, 3, 3), 2);
        isRecorded("addSensor(3, 3, 3)", SOME, net -> net.addSensor(3, 3, 3), 2);
        part = "6: kind 0 to 7, or BAD_VALUE";
        refusesOutside(0, 7, "addSensor(1, ?, 0)", SOME, (net, kind) -> net.addSensor(1, kind, 0), BAD_VALUE);
        isRecorded("addSensor(1, 0, 3)", SOME, net -> net.addSensor(1, 0, 3), 2);
        isRecorded("addSensor(1, 7, 3)", SOME, net -> net.addSensor(1, 7, 3), 2);
        part = "6: value -100 to 100, or BAD_VALUE";
        refusesOutside(-100, 100, "addSensor(1, 1, ?)", SOME, (net, value) -> net.addSensor(1, 1, value), BAD_VALUE);
        isRecorded("addSensor(1, 1, -100)", SOME, net -> net.addSensor(1, 1, -100), 2);
        isRecorded("addSensor(1, 1, 100)", SOME, net -> net.addSensor(1, 1, 100), 2);
        part = "6: at most 6 sensors, numbered from 0";
        InterestNet all = row(2, 100, 1);
        for (int sensor = 0; sensor < 6; sensor++) {
            due("addSensor(1, " + sensor + ", 5)", all.addSensor(1, sensor, 5), sensor);
            due("count(2)", all.count(2), sensor + 1);
        }
        due("the 7th addSensor(1, 6, 5)", all.addSensor(1, 6, 5), FULL);
        due("count(2)", all.count(2), 6);
        isRecorded("the 6th addSensor(0, 0, 0)", ROOMY, one -> one.addSensor(0, 0, 0), 5);
    }

    private static void measure() {
        part = "7: a sensor of its number, or BAD_INDEX";
        refusesOutside(0, 1, "measure(?, 0)", SOME, (net, sensor) -> net.measure(sensor, 0), BAD_INDEX);
        refusesOutside(0, 5, "measure(?, 0)", FILLED, (net, sensor) -> net.measure(sensor, 0), BAD_INDEX);
        isRecorded("measure(0, 0)", SOME, net -> net.measure(0, 0), 50);
        isRecorded("measure(1, 0)", SOME, net -> net.measure(1, 0), -5);
        isRecorded("measure(5, 0)", FILLED, net -> net.measure(5, 0), 50);
        part = "7: value -100 to 100, or BAD_VALUE";
        refusesOutside(-100, 100, "measure(1, ?)", SOME, (net, value) -> net.measure(1, value), BAD_VALUE);
        isRecorded("measure(1, -100)", SOME, net -> net.measure(1, -100), -5);
        isRecorded("measure(1, 100)", SOME, net -> net.measure(1, 100), -5);
        InterestNet net = some();
        due("measure(1, -100)", net.measure(1, -100), -5);
        due("measure(1, 100)", net.measure(1, 100), -100);
        due("sensor(1, 2)", net.sensor(1, 2), 100);
        due("sensor(0, 2)", net.sensor(0, 2), 50);
    }

    private static void ask() {
        part = "8: a sink of its number, or BAD_INDEX";
        refusesOutside(0, 3, "ask(?, 1, 0, 1, 9)", SOME, (net, sink) -> net.ask(sink, 1, 0, 1, 9), BAD_INDEX);
        isRecorded("ask(0, 1, 0, 1, 9)", SOME, net -> net.ask(0, 1, 0, 1, 9), 2);
        isRecorded("ask(3, 1, 0, 1, 9)", SOME, net -> net.ask(3, 1, 0, 1, 9), 2);
        part = "8: kind 0 to 7, or BAD_VALUE";
        refusesOutside(0, 7, "ask(1, ?, 0, 1, 9)", SOME, (net, kind) -> net.ask(1, kind, 0, 1, 9), BAD_VALUE);
        isRecorded("ask(1, 0, 0, 1, 9)", SOME, net -> net.ask(1, 0, 0, 1, 9), 2);
        isRecorded("ask(1, 7, 0, 1, 9)", SOME, net -> net.ask(1, 7, 0, 1, 9), 2);
        part = "8: low -100 to 100, or BAD_VALUE";
        refusesOutside(-100, 100, "ask(1, 1, ?, 100, 9)", SOME, (net, low) -> net.ask(1, 1, low, 100, 9), BAD_VALUE);
        changesNothing("ask(1, 1, 101, 101, 9)", SOME, net -> net.ask(1, 1, 101, 101, 9), BAD_VALUE);
        changesNothing("ask(1, 1, -101, -101, 9)", SOME, net -> net.ask(1, 1, -101, -101, 9), BAD_VALUE);
        isRecorded("ask(1, 1, -100, 100, 9)", SOME, net -> net.ask(1, 1, -100, 100, 9), 2);
        isRecorded("ask(1, 1, 100, 100, 9)", SOME, net -> net.ask(1, 1, 100, 100, 9), 2);
        part = "8: high is low to 100, or BAD_VALUE";
        refusesOutside(5, 100, "ask(1, 1, 5, ?, 9)", SOME, (net, high) -> net.ask(1, 1, 5, high, 9), BAD_VALUE);
        changesNothing("ask(1, 1, 100, 99, 9)", SOME, net -> net.ask(1, 1, 100, 99, 9), BAD_VALUE);
        changesNothing("ask(1, 1, -99, -100, 9)", SOME, net -> net.ask(1, 1, -99, -100, 9), BAD_VALUE);
        isRecorded("ask(1, 1, 5, 5, 9)", SOME, net -> net.ask(1, 1, 5, 5, 9), 2);
        isRecorded("ask(1, 1, 5, 100, 9)", SOME, net -> net.ask(1, 1, 5, 100, 9), 2);
        isRecorded("ask(1, 1, -100, -100, 9)", SOME, net -> net.ask(1, 1, -100, -100, 9), 2);
        part = "8: last is the present round to 100000, or BAD_VALUE";
        refusesOutside(2, 100000, "ask(1, 1, 0, 1, ?)", SOME, (net, last) -> net.ask(1, 1, 0, 1, last), BAD_VALUE);
        isRecorded("ask(1, 1, 0, 1, 2)", SOME, net -> net.ask(1, 1, 0, 1, 2), 2);
        isRecorded("ask(1, 1, 0, 1, 100000)", SOME, net -> net.ask(1, 1, 0, 1, 100000), 2);
        part = "8: in the round 0, last is 0 to 100000";
        Supplier<InterestNet> first = () -> row(1, 5, 1);
        refusesOutside(0, 100000, "ask(0, 1, 0, 1, ?)", first, (net, last) -> net.ask(0, 1, 0, 1, last), BAD_VALUE);
        isRecorded("ask(0, 1, 0, 1, 0)", first, net -> net.ask(0, 1, 0, 1, 0), 0);
        part = "8: at most 5 interests, numbered from 0";
        InterestNet all = row(1, 100, 1);
        for (int interest = 0; interest < 5; interest++) {
            due("ask(0, 1, 0, 1, 9)", all.ask(0, 1, 0, 1, 9), interest);
            due("count(3)", all.count(3), interest + 1);
        }
        due("the 6th ask(0, 1, 0, 1, 9)", all.ask(0, 1, 0, 1, 9), FULL);
        due("count(3)", all.count(3), 5);
        isRecorded("the 5th ask(0, 0, 0, 0, 9)", ROOMY, net -> net.ask(0, 0, 0, 0, 9), 4);
    }

    private static void askInLateRounds() {
        for (int round : new int[] {99999, 100000}) {
            part = "8: last is " + round + " to 100000 in the round " + round;
            Supplier<InterestNet> late = () -> {
                InterestNet net = inRound(round);
                net.addNode(5);
                return net;
            };
            refusesOutside(round, 100000, "ask(0, 1, 0, 1, ?)", late, (net, last) -> net.ask(0, 1, 0, 1, last),
                    BAD_VALUE);
            isRecorded("ask(0, 1, 0, 1, " + round + ")", late, net -> net.ask(0, 1, 0, 1, round), 0);
            isRecorded("ask(0, 1, 0, 1, 100000)", late, net -> net.ask(0, 1, 0, 1, 100000), 0);
        }
    }

    private static void withdraw() {
        part = "9: an interest of its number, or BAD_INDEX";
        refusesOutside(0, 1, "withdraw(?)", SOME, (net, interest) -> net.withdraw(interest), BAD_INDEX);
        refusesOutside(0, 4, "withdraw(?)", FILLED, (net, interest) -> net.withdraw(interest), BAD_INDEX);
        isRecorded("withdraw(0)", SOME, net -> net.withdraw(0), 1);
        isRecorded("withdraw(1)", SOME, net -> net.withdraw(1), 1);
        isRecorded("withdraw(4)", FILLED, net -> net.withdraw(4), 4);
        part = "9: the numbers of the following ones decrease by 1, and their ways with them";
        for (int gone = 0; gone < 5; gone++) {
            InterestNet net = sinksApart();
            InterestNet before = sinksApart();
            due("withdraw(" + gone + ")", net.withdraw(gone), 4);
            for (int interest = 0; interest < 4; interest++) {
                int was = interest < gone ? interest : interest + 1;
                for (int what = 0; what < 8; what++) {
                    due("interest(" + interest + ", " + what + ")", net.interest(interest, what),
                            before.interest(was, what));
                }
                dueSameWays(net, interest, before, was);
            }
            due("interest(4, 0)", net.interest(4, 0), BAD_INDEX);
            due("wayLength(4, 0)", net.wayLength(4, 0), BAD_INDEX);
            due("ask(0, 1, 0, 100, 50)", net.ask(0, 1, 0, 100, 50), 4);
            for (int what = 5; what < 8; what++) {
                due("interest(4, " + what + "), none at first", net.interest(4, what), 0);
            }
            for (int sensor = 0; sensor < 6; sensor++) {
                dueWay(net, 4, sensor);
            }
            dueSameWays(net, 3, before, gone < 4 ? 4 : 3);
        }
        part = "9: how many are left, down to 0";
        InterestNet net = some();
        due("withdraw(1)", net.withdraw(1), 1);
        due("withdraw(1)", net.withdraw(1), BAD_INDEX);
        due("withdraw(0)", net.withdraw(0), 0);
        due("withdraw(0)", net.withdraw(0), BAD_INDEX);
        due("count(11), which counts those that ended in rounds", net.count(11), 0);
    }

    private static InterestNet sinksApart() {
        InterestNet net = row(5, 1000, 3);
        for (int sensor = 0; sensor < 6; sensor++) {
            net.addSensor(sensor % 5, 1, 50);
        }
        for (int interest = 0; interest < 5; interest++) {
            net.ask(interest, 1, interest, 50 + interest, 50 + interest);
            net.rounds(1);
        }
        return net;
    }

    private static void dueSameWays(InterestNet net, int interest, InterestNet before, int was) {
        for (int sensor = 0; sensor < 6; sensor++) {
            int[] nodes = new int[before.wayLength(was, sensor)];
            for (int index = 0; index < nodes.length; index++) {
                nodes[index] = before.wayNode(was, sensor, index);
            }
            dueWay(net, interest, sensor, nodes);
        }
    }

    private static void setPeriod() {
        part = "10: period 1 to 50, or BAD_VALUE";
        refusesOutside(1, 50, "setPeriod(?)", EMPTY, (net, period) -> net.setPeriod(period), BAD_VALUE);
        refusesOutside(1, 50, "setPeriod(?)", SOME, (net, period) -> net.setPeriod(period), BAD_VALUE);
        isRecorded("setPeriod(1)", EMPTY, net -> net.setPeriod(1), 10);
        isRecorded("setPeriod(50)", SOME, net -> net.setPeriod(50), 10);
        InterestNet net = new InterestNet();
        due("setPeriod(50)", net.setPeriod(50), 10);
        due("setPeriod(1)", net.setPeriod(1), 50);
        due("setPeriod(0)", net.setPeriod(0), BAD_VALUE);
        due("setPeriod(10)", net.setPeriod(10), 1);
    }

    private static void count() {
        part = "11: what 0 to 11, or BAD_VALUE";
        refusesOutside(0, 11, "count(?)", EMPTY, (net, what) -> net.count(what), BAD_VALUE);
        refusesOutside(0, 11, "count(?)", SOME, (net, what) -> net.count(what), BAD_VALUE);
        // Each round 2 * (2 + 3 + 3 + 1) are spent for sending, and in round 0 twice 4 for exploring.
        int[] want = {4, 3, 2, 2, 10, 2, 4, 2, 6, 0, 44, 0};
        for (int what = 0; what < want.length; what++) {
            int asked = what;
            changesNothing("count(" + what + ")", SOME, net -> net.count(asked), want[what]);
        }
    }

    private static void energy() {
        part = "12: a node of its number, or BAD_INDEX";
        refusesOutside(0, 3, "energy(?)", SOME, (net, node) -> net.energy(node), BAD_INDEX);
        refusesOutside(0, 9, "energy(?)", FILLED, (net, node) -> net.energy(node), BAD_INDEX);
        changesNothing("energy(0)", SOME, net -> net.energy(0), 92);
        changesNothing("energy(3)", SOME, net -> net.energy(3), 92);
    }

    private static void linkPart() {
        part = "13: a link of its number, or BAD_INDEX";
        refusesOutside(0, 2, "linkPart(?, 0)", SOME, (net, link) -> net.linkPart(link, 0), BAD_INDEX);
        refusesOutside(0, 19, "linkPart(?, 2)", FILLED, (net, link) -> net.linkPart(link, 2), BAD_INDEX);
        part = "13: what 0 to 2, or BAD_VALUE";
        refusesOutside(0, 2, "linkPart(0, ?)", SOME, (net, what) -> net.linkPart(0, what), BAD_VALUE);
        refusesOutside(0, 2, "linkPart(19, ?)", FILLED, (net, what) -> net.linkPart(19, what), BAD_VALUE);
        changesNothing("linkPart(2, 0)", SOME, net -> net.linkPart(2, 0), 2);
        changesNothing("linkPart(2, 1)", SOME, net -> net.linkPart(2, 1), 3);
        changesNothing("linkPart(2, 2)", SOME, net -> net.linkPart(2, 2), 2);
        changesNothing("linkPart(19, 1)", FILLED, net -> net.linkPart(19, 1), 1);
    }

    private static void sensor() {
        part = "14: a sensor of its number, or BAD_INDEX";
        refusesOutside(0, 1, "sensor(?, 0)", SOME, (net, sensor) -> net.sensor(sensor, 0), BAD_INDEX);
        refusesOutside(0, 5, "sensor(?, 2)", FILLED, (net, sensor) -> net.sensor(sensor, 2), BAD_INDEX);
        part = "14: what 0 to 2, or BAD_VALUE";
        refusesOutside(0, 2, "sensor(0, ?)", SOME, (net, what) -> net.sensor(0, what), BAD_VALUE);
        refusesOutside(0, 2, "sensor(5, ?)", FILLED, (net, what) -> net.sensor(5, what), BAD_VALUE);
        changesNothing("sensor(1, 0)", SOME, net -> net.sensor(1, 0), 3);
        changesNothing("sensor(1, 1)", SOME, net -> net.sensor(1, 1), 2);
        changesNothing("sensor(1, 2)", SOME, net -> net.sensor(1, 2), -5);
        changesNothing("sensor(5, 2)", FILLED, net -> net.sensor(5, 2), 50);
    }

    private static void interest() {
        part = "15: an interest of its number, or BAD_INDEX";
        refusesOutside(0, 1, "interest(?, 0)", SOME, (net, interest) -> net.interest(interest, 0), BAD_INDEX);
        refusesOutside(0, 4, "interest(?, 7)", FILLED, (net, interest) -> net.interest(interest, 7), BAD_INDEX);
        part = "15: what 0 to 7, or BAD_VALUE";
        refusesOutside(0, 7, "interest(0, ?)", SOME, (net, what) -> net.interest(0, what), BAD_VALUE);
        refusesOutside(0, 7, "interest(4, ?)", FILLED, (net, what) -> net.interest(4, what), BAD_VALUE);
        int[] want = {0, 2, -10, 10, 40, 2, 12, 1};
        for (int what = 0; what < want.length; what++) {
            int asked = what;
            changesNothing("interest(1, " + what + ")", SOME, net -> net.interest(1, asked), want[what]);
        }
        changesNothing("interest(4, 7) of six sensors", FILLED, net -> net.interest(4, 7), 6);
    }

    private static void rounds() {
        part = "16: many 1 to 100, or BAD_VALUE";
        refusesOutside(1, 100, "rounds(?)", EMPTY, (net, many) -> net.rounds(many), BAD_VALUE);
        refusesOutside(1, 100, "rounds(?)", SOME, (net, many) -> net.rounds(many), BAD_VALUE);
        isRecorded("rounds(1)", EMPTY, net -> net.rounds(1), 0);
        isRecorded("rounds(1)", SOME, net -> net.rounds(1), 2);
        isRecorded("rounds(100)", EMPTY, net -> net.rounds(100), 0);
        Supplier<InterestNet> rich = () -> lonely(10000, 100000);
        isRecorded("rounds(100)", rich, net -> net.rounds(100), 100);
    }

    private static void roundsUpToTheGreatest() {
        part = "16: FULL if the present round would be above 100000";
        Supplier<InterestNet> late = () -> inRound(99900);
        Supplier<InterestNet> later = () -> inRound(99901);
        Supplier<InterestNet> last = () -> inRound(99999);
        Supplier<InterestNet> over = () -> inRound(100000);
        isRecorded("rounds(100) from 99900", late, net -> net.rounds(100), 0);
        changesNothing("rounds(100) from 99901", later, net -> net.rounds(100), FULL);
        isRecorded("rounds(99) from 99901", later, net -> net.rounds(99), 0);
        isRecorded("rounds(1) from 99999", last, net -> net.rounds(1), 0);
        changesNothing("rounds(2) from 99999", last, net -> net.rounds(2), FULL);
        changesNothing("rounds(1) from 100000", over, net -> net.rounds(1), FULL);
        changesNothing("rounds(100) from 100000", over, net -> net.rounds(100), FULL);
        refusesOutside(1, 100, "rounds(?) from 100000", over, (net, many) -> net.rounds(many), BAD_VALUE);
        due("count(5)", over.get().count(5), 100000);
        part = "22 to 24: foretelling has no greatest round";
        Supplier<InterestNet> asked = () -> {
            InterestNet net = inRound(100000);
            net.addNode(1);
            net.addSensor(0, 1, 50);
            net.ask(0, 1, 0, 100, 100000);
            return net;
        };
        changesNothing("willDeliver(500)", asked, net -> net.willDeliver(500), 1);
        changesNothing("firstDeath()", asked, net -> net.firstDeath(), 1);
        changesNothing("bestPeriod(200)", asked, net -> net.bestPeriod(200), 1);
    }

    private static void wayLength() {
        part = "17: an interest and a sensor of their numbers, or BAD_INDEX";
        refusesOutside(0, 1, "wayLength(?, 0)", SOME, (net, interest) -> net.wayLength(interest, 0), BAD_INDEX);
        refusesOutside(0, 1, "wayLength(0, ?)", SOME, (net, sensor) -> net.wayLength(0, sensor), BAD_INDEX);
        refusesOutside(0, 4, "wayLength(?, 5)", FILLED, (net, interest) -> net.wayLength(interest, 5), BAD_INDEX);
        refusesOutside(0, 5, "wayLength(4, ?)", FILLED, (net, sensor) -> net.wayLength(4, sensor), BAD_INDEX);
        part = "17: the number of nodes; 0 if there is none";
        changesNothing("wayLength(0, 0)", SOME, net -> net.wayLength(0, 0), 4);
        changesNothing("wayLength(1, 1)", SOME, net -> net.wayLength(1, 1), 4);
        changesNothing("wayLength(0, 1)", SOME, net -> net.wayLength(0, 1), 0);
        InterestNet longest = asking(10, 100, 20);
        due("wayLength(0, 0), none at first", longest.wayLength(0, 0), 0);
        longest.rounds(1);
        dueWay(longest, 0, 0, 0, 1, 2, 3, 4, 5, 6, 7, 8, 9);
        due("interest(0, 6)", longest.interest(0, 6), 180);
        InterestNet shortest = lonely(5, 9);
        shortest.rounds(1);
        dueWay(shortest, 0, 0, 0);
        due("interest(0, 6)", shortest.interest(0, 6), 0);
        part = "17: the longest way changes no other one";
        InterestNet both = asking(10, 1000, 1);
        both.addSensor(9, 1, 50);
        both.addSensor(0, 1, 50);
        both.link(9, 0, 20);
        both.rounds(1);
        due("load(9), over which no way goes", both.load(9), 0);
        due("load(0)", both.load(0), 2);
        both.measure(0, -1);
        both.rounds(1);
        both.measure(0, 50);
        dueWay(both, 0, 0);
        both.rounds(1);
        dueWay(both, 0, 0, 0, 1, 2, 3, 4, 5, 6, 7, 8, 9);
        dueWay(both, 0, 1, 9);
        dueWay(both, 0, 2, 0, 1, 2, 3, 4, 5, 6, 7, 8, 9);
    }

    private static void wayNode() {
        part = "18: an interest and a sensor of their numbers, or BAD_INDEX";
        refusesOutside(0, 1, "wayNode(?, 0, 0)", SOME, (net, interest) -> net.wayNode(interest, 0, 0), BAD_INDEX);
        refusesOutside(0, 1, "wayNode(0, ?, 0)", SOME, (net, sensor) -> net.wayNode(0, sensor, 0), BAD_INDEX);
        part = "18: BAD_VALUE if index is negative";
        changesNothing("wayNode(0, 0, -1)", SOME, net -> net.wayNode(0, 0, -1), BAD_VALUE);
        changesNothing("wayNode(0, 0, MIN)", SOME, net -> net.wayNode(0, 0, Integer.MIN_VALUE), BAD_VALUE);
        changesNothing("wayNode(0, 1, -1), no way", SOME, net -> net.wayNode(0, 1, -1), BAD_VALUE);
        part = "18: NONE if there is no way, or it is not so long";
        changesNothing("wayNode(0, 0, 0)", SOME, net -> net.wayNode(0, 0, 0), 0);
        changesNothing("wayNode(0, 0, 3)", SOME, net -> net.wayNode(0, 0, 3), 3);
        changesNothing("wayNode(0, 0, 4)", SOME, net -> net.wayNode(0, 0, 4), NONE);
        changesNothing("wayNode(0, 0, MAX)", SOME, net -> net.wayNode(0, 0, Integer.MAX_VALUE), NONE);
        changesNothing("wayNode(0, 1, 0), no way", SOME, net -> net.wayNode(0, 1, 0), NONE);
        changesNothing("wayNode(1, 1, 0)", SOME, net -> net.wayNode(1, 1, 0), 3);
        InterestNet longest = asking(10, 100, 1);
        longest.addSensor(9, 1, 50);
        longest.rounds(1);
        due("wayNode(0, 0, 9)", longest.wayNode(0, 0, 9), 9);
        due("wayNode(0, 0, 10), where that of sensor 1 begins", longest.wayNode(0, 0, 10), NONE);
    }

    private static void isWhole() {
        part = "19: an interest and a sensor of their numbers, or BAD_INDEX";
        refusesOutside(0, 1, "isWhole(?, 0)", SOME, (net, interest) -> net.isWhole(interest, 0), BAD_INDEX);
        refusesOutside(0, 1, "isWhole(0, ?)", SOME, (net, sensor) -> net.isWhole(0, sensor), BAD_INDEX);
        part = "19: 1 if it is, 0 if there is none or it is not";
        changesNothing("isWhole(0, 0)", SOME, net -> net.isWhole(0, 0), 1);
        changesNothing("isWhole(0, 1), no way", SOME, net -> net.isWhole(0, 1), 0);
        for (int node = 0; node < 4; node++) {
            InterestNet net = some();
            net.charge(node, 0);
            due("isWhole(0, 0) without node " + node, net.isWhole(0, 0), 0);
            net.charge(node, 1);
            due("isWhole(0, 0), node " + node + " has 1", net.isWhole(0, 0), 1);
        }
        for (int link = 0; link < 3; link++) {
            InterestNet net = some();
            net.cut(link);
            due("isWhole(0, 0) without link " + link, net.isWhole(0, 0), 0);
            due("isWhole(1, 1) without link " + link, net.isWhole(1, 1), 0);
            net.link(link + 1, link, 20);
            due("isWhole(0, 0), linked again", net.isWhole(0, 0), 1);
        }
    }

    private static void quickest() {
        part = "20: nodes of their numbers, or BAD_INDEX";
        refusesOutside(0, 3, "quickest(?, 0)", SOME, (net, node) -> net.quickest(node, 0), BAD_INDEX);
        refusesOutside(0, 3, "quickest(0, ?)", SOME, (net, node) -> net.quickest(0, node), BAD_INDEX);
        part = "20: the sum, 0 if both are the same one, which is alive; NONE if it can't be reached, or is not alive";
        changesNothing("quickest(0, 3)", SOME, net -> net.quickest(0, 3), 6);
        changesNothing("quickest(3, 0)", SOME, net -> net.quickest(3, 0), 6);
        changesNothing("quickest(3, 3)", SOME, net -> net.quickest(3, 3), 0);
        Supplier<InterestNet> dead = () -> {
            InterestNet net = some();
            net.charge(2, 0);
            return net;
        };
        changesNothing("quickest(0, 1)", dead, net -> net.quickest(0, 1), 2);
        changesNothing("quickest(0, 3), node 2 is not alive", dead, net -> net.quickest(0, 3), NONE);
        changesNothing("quickest(0, 2), node 2 is not alive", dead, net -> net.quickest(0, 2), NONE);
        changesNothing("quickest(2, 0), node 2 is not alive", dead, net -> net.quickest(2, 0), NONE);
        changesNothing("quickest(2, 2), node 2 is not alive", dead, net -> net.quickest(2, 2), NONE);
        InterestNet net = dead.get();
        net.charge(2, 1);
        due("quickest(0, 3), node 2 has 1", net.quickest(0, 3), 6);
        due("quickest(2, 2), node 2 has 1", net.quickest(2, 2), 0);
        net.cut(2);
        due("quickest(0, 3), node 3 is not linked", net.quickest(0, 3), NONE);
        due("quickest(0, 9) of ten nodes", row(10, 1, 20).quickest(0, 9), 180);
    }

    private static void load() {
        part = "21: a link of its number, or BAD_INDEX";
        refusesOutside(0, 2, "load(?)", SOME, (net, link) -> net.load(link), BAD_INDEX);
        refusesOutside(0, 19, "load(?)", FILLED, (net, link) -> net.load(link), BAD_INDEX);
        changesNothing("load(0), in either direction", SOME, net -> net.load(0), 2);
        changesNothing("load(2), in either direction", SOME, net -> net.load(2), 2);
        part = "21: from no way to those of all interests and sensors";
        InterestNet net = row(3, 1000, 1);
        for (int sensor = 0; sensor < 6; sensor++) {
            net.addSensor(0, 1, 50);
        }
        for (int interest = 0; interest < 5; interest++) {
            net.ask(1, 1, 0, 100, 100);
        }
        due("load(0)", net.load(0), 0);
        due("rounds(1)", net.rounds(1), 30);
        due("load(0)", net.load(0), 30);
        due("load(1)", net.load(1), 0);
        net.withdraw(4);
        due("load(0)", net.load(0), 24);
    }

    private static void firstDeath() {
        part = "22: 1 to 500; NONE if that is not so after 500 rounds";
        int[] energies = {1, 2, 499, 500, 501, 10000};
        int[] rounds = {1, 2, 499, 500, NONE, NONE};
        for (int index = 0; index < energies.length; index++) {
            int energy = energies[index];
            Supplier<InterestNet> exploring = () -> {
                InterestNet net = lonely(energy, 100000);
                net.setPeriod(1);
                return net;
            };
            changesNothing("firstDeath() of a node with " + energy, exploring, net -> net.firstDeath(), rounds[index]);
        }
        // Nodes 1 and 2 have 86: they spend 6 in each round, and 2 more in round 10.
        changesNothing("firstDeath()", SOME, net -> net.firstDeath(), 14);
        part = "22: fewer nodes are alive than now";
        changesNothing("firstDeath() of no nodes", EMPTY, net -> net.firstDeath(), NONE);
        InterestNet net = lonely(3, 100000);
        net.setPeriod(1);
        net.addNode(1);
        net.charge(1, 0);
        due("firstDeath(), a node is dead already", net.firstDeath(), 3);
        net.charge(0, 0);
        due("firstDeath(), all nodes are dead", net.firstDeath(), NONE);
        part = "22: the interest ends after its last round";
        InterestNet ending = lonely(500, 499);
        ending.setPeriod(1);
        due("firstDeath(), the last round is 499", ending.firstDeath(), 500);
        ending.withdraw(0);
        ending.ask(0, 1, 0, 100, 498);
        due("firstDeath(), the last round is 498", ending.firstDeath(), NONE);
    }

    private static void willDeliver() {
        part = "23: many 1 to 500, or BAD_VALUE";
        refusesOutside(1, 500, "willDeliver(?)", EMPTY, (net, many) -> net.willDeliver(many), BAD_VALUE);
        refusesOutside(1, 500, "willDeliver(?)", SOME, (net, many) -> net.willDeliver(many), BAD_VALUE);
        changesNothing("willDeliver(1)", SOME, net -> net.willDeliver(1), 2);
        changesNothing("willDeliver(500)", EMPTY, net -> net.willDeliver(500), 0);
        Supplier<InterestNet> rich = () -> lonely(10000, 100000);
        changesNothing("willDeliver(500)", rich, net -> net.willDeliver(500), 500);
        Supplier<InterestNet> ending = () -> lonely(10000, 9);
        changesNothing("willDeliver(9), the last round is 9", ending, net -> net.willDeliver(9), 9);
        changesNothing("willDeliver(10), the last round is 9", ending, net -> net.willDeliver(10), 10);
        changesNothing("willDeliver(11), the last round is 9", ending, net -> net.willDeliver(11), 10);
    }

    private static void bestPeriod() {
        part = "24: many 1 to 200, or BAD_VALUE";
        refusesOutside(1, 200, "bestPeriod(?)", EMPTY, (net, many) -> net.bestPeriod(many), BAD_VALUE);
        refusesOutside(1, 200, "bestPeriod(?)", SOME, (net, many) -> net.bestPeriod(many), BAD_VALUE);
        part = "24: the period, 1 to 50, of several the lowest one";
        // A node with 5 dies in the fifth exploration: with the period p, data are delivered 4 * p + 1 times at most.
        Supplier<InterestNet> poor = () -> lonely(5, 100000);
        int[] many = {1, 5, 6, 9, 10, 193, 194, 197, 198, 200};
        int[] best = {1, 1, 2, 2, 3, 48, 49, 49, 50, 50};
        for (int index = 0; index < many.length; index++) {
            int rounds = many[index];
            changesNothing("bestPeriod(" + rounds + ")", poor, net -> net.bestPeriod(rounds), best[index]);
        }
        changesNothing("bestPeriod(200), nothing is delivered", EMPTY, net -> net.bestPeriod(200), 1);
        Supplier<InterestNet> other = () -> {
            InterestNet net = lonely(10000, 100000);
            net.setPeriod(7);
            return net;
        };
        changesNothing("bestPeriod(200), all periods are as good", other, net -> net.bestPeriod(200), 1);
    }

    private static void emptyNetHasNothing() {
        part = "no number is one of an empty net";
        for (int number : new int[] {0, 1, -1, 5, 9, 19, Integer.MAX_VALUE, Integer.MIN_VALUE}) {
            changesNothing("charge", EMPTY, net -> net.charge(number, 5), BAD_INDEX);
            changesNothing("link", EMPTY, net -> net.link(number, number, 5), BAD_INDEX);
            changesNothing("cut", EMPTY, net -> net.cut(number), BAD_INDEX);
            changesNothing("addSensor", EMPTY, net -> net.addSensor(number, 0, 0), BAD_INDEX);
            changesNothing("measure", EMPTY, net -> net.measure(number, 0), BAD_INDEX);
            changesNothing("ask", EMPTY, net -> net.ask(number, 0, 0, 0, 0), BAD_INDEX);
            changesNothing("withdraw", EMPTY, net -> net.withdraw(number), BAD_INDEX);
            changesNothing("energy", EMPTY, net -> net.energy(number), BAD_INDEX);
            changesNothing("linkPart", EMPTY, net -> net.linkPart(number, 0), BAD_INDEX);
            changesNothing("sensor", EMPTY, net -> net.sensor(number, 0), BAD_INDEX);
            changesNothing("interest", EMPTY, net -> net.interest(number, 0), BAD_INDEX);
            changesNothing("wayLength", EMPTY, net -> net.wayLength(number, number), BAD_INDEX);
            changesNothing("wayNode", EMPTY, net -> net.wayNode(number, number, 0), BAD_INDEX);
            changesNothing("isWhole", EMPTY, net -> net.isWhole(number, number), BAD_INDEX);
            changesNothing("quickest", EMPTY, net -> net.quickest(number, number), BAD_INDEX);
            changesNothing("load", EMPTY, net -> net.load(number), BAD_INDEX);
        }
        long hash = 17;
        for (int what = 0; what < 12; what++) {
            hash = 31 * hash + (what == 4 ? 10 : 0);
        }
        changesNothing("digest()", EMPTY, net -> net.digest(), hash);
        changesNothing("build()", EMPTY, net -> net.build(), BAD_STATE);
    }

    private static void fullNetHasNoRoom() {
        part = "FULL in a full net";
        dueCounts(filled(), 10, 20, 6, 5, 10, 1, 10);
        changesNothing("addNode(1)", FILLED, net -> net.addNode(1), FULL);
        changesNothing("addNode(10000)", FILLED, net -> net.addNode(10000), FULL);
        changesNothing("link(0, 5, 1)", FILLED, net -> net.link(0, 5, 1), FULL);
        changesNothing("link(9, 4, 20)", FILLED, net -> net.link(9, 4, 20), FULL);
        changesNothing("addSensor(9, 7, 100)", FILLED, net -> net.addSensor(9, 7, 100), FULL);
        changesNothing("ask(9, 7, 100, 100, 1)", FILLED, net -> net.ask(9, 7, 100, 100, 1), FULL);
        changesNothing("type(0)", FILLED, net -> net.type(0), FULL);
        changesNothing("type(255)", FILLED, net -> net.type(255), FULL);
        changesNothing("textFault(), no room for a node", FILLED, net -> net.textFault(), 0);
        changesNothing("build(), no room for a node", FILLED, net -> net.build(), BAD_STATE);
    }

    private static void firstErrorInOrder() {
        part = "several errors: BAD_INDEX, then BAD_VALUE, then BAD_STATE, then FULL, then NONE";
        changesNothing("addNode(0), full", FILLED, net -> net.addNode(0), BAD_VALUE);
        changesNothing("charge(10, -1)", FILLED, net -> net.charge(10, -1), BAD_INDEX);
        changesNothing("link(10, 10, 0), full", FILLED, net -> net.link(10, 10, 0), BAD_INDEX);
        changesNothing("link(0, 10, 21), full", FILLED, net -> net.link(0, 10, 21), BAD_INDEX);
        changesNothing("link(0, 0, 0), full", FILLED, net -> net.link(0, 0, 0), BAD_VALUE);
        changesNothing("link(0, 1, 21), full", FILLED, net -> net.link(0, 1, 21), BAD_VALUE);
        changesNothing("link(0, 5, 0), full", FILLED, net -> net.link(0, 5, 0), BAD_VALUE);
        changesNothing("link(0, 0, 1), full", FILLED, net -> net.link(0, 0, 1), BAD_STATE);
        changesNothing("link(1, 0, 1), full", FILLED, net -> net.link(1, 0, 1), BAD_STATE);
        changesNothing("addSensor(10, 8, 101), full", FILLED, net -> net.addSensor(10, 8, 101), BAD_INDEX);
        changesNothing("addSensor(9, 8, 0), full", FILLED, net -> net.addSensor(9, 8, 0), BAD_VALUE);
        changesNothing("addSensor(9, 0, 101), full", FILLED, net -> net.addSensor(9, 0, 101), BAD_VALUE);
        changesNothing("measure(6, 101)", FILLED, net -> net.measure(6, 101), BAD_INDEX);
        changesNothing("ask(10, 8, 1, 0, 0), full", FILLED, net -> net.ask(10, 8, 1, 0, 0), BAD_INDEX);
        changesNothing("ask(9, 8, 0, 0, 9), full", FILLED, net -> net.ask(9, 8, 0, 0, 9), BAD_VALUE);
        changesNothing("ask(9, 0, 1, 0, 9), full", FILLED, net -> net.ask(9, 0, 1, 0, 9), BAD_VALUE);
        changesNothing("ask(9, 0, 0, 0, 0), full", FILLED, net -> net.ask(9, 0, 0, 0, 0), BAD_VALUE);
        changesNothing("linkPart(20, 3)", FILLED, net -> net.linkPart(20, 3), BAD_INDEX);
        changesNothing("sensor(6, 3)", FILLED, net -> net.sensor(6, 3), BAD_INDEX);
        changesNothing("interest(5, 8)", FILLED, net -> net.interest(5, 8), BAD_INDEX);
        changesNothing("wayNode(5, 0, -1)", FILLED, net -> net.wayNode(5, 0, -1), BAD_INDEX);
        changesNothing("wayNode(0, 6, -1)", FILLED, net -> net.wayNode(0, 6, -1), BAD_INDEX);
        changesNothing("type(-1), full", FILLED, net -> net.type(-1), BAD_VALUE);
        changesNothing("type(256), full", FILLED, net -> net.type(256), BAD_VALUE);
        Supplier<InterestNet> dead = () -> {
            InterestNet net = some();
            net.charge(0, 0);
            return net;
        };
        changesNothing("quickest(0, 4), node 0 is not alive", dead, net -> net.quickest(0, 4), BAD_INDEX);
        changesNothing("quickest(4, 0), node 0 is not alive", dead, net -> net.quickest(4, 0), BAD_INDEX);
    }

    private static void digest() {
        part = "30: the numbers in their order, of all that there is and no more";
        InterestNet withdrawn = filled();
        withdrawn.withdraw(4);
        withdrawn.cut(19);
        InterestNet[] nets = {new InterestNet(), row(1, 1, 1), row(10, 10000, 20), some(), roomy(), filled(), withdrawn,
            sinksApart()};
        for (int index = 0; index < nets.length; index++) {
            due("digest() of net " + index, nets[index].digest(), hashOf(nets[index]));
        }
    }

    private static long hashOf(InterestNet net) {
        List<Integer> numbers = new ArrayList<>();
        for (int what = 0; what <= 11; what++) {
            numbers.add(net.count(what));
        }
        for (int node = 0; node < net.count(0); node++) {
            numbers.add(net.energy(node));
        }
        for (int part = 0; part < 3 * net.count(1); part++) {
            numbers.add(net.linkPart(part / 3, part % 3));
        }
        for (int part = 0; part < 3 * net.count(2); part++) {
            numbers.add(net.sensor(part / 3, part % 3));
        }
        for (int interest = 0; interest < net.count(3); interest++) {
            for (int what = 0; what <= 7; what++) {
                numbers.add(net.interest(interest, what));
            }
            for (int sensor = 0; sensor < net.count(2); sensor++) {
                numbers.add(net.wayLength(interest, sensor));
                for (int index = 0; index < net.wayLength(interest, sensor); index++) {
                    numbers.add(net.wayNode(interest, sensor, index));
                }
            }
        }
        long hash = 17;
        for (int number : numbers) {
            hash = 31 * hash + number;
        }
        return hash;
    }

    private static void lastCallThatIsPromised() {
        part = "an object is used for at most 512 calls";
        InterestNet net = lonely(10000, 100000);
        for (int call = 4; call <= 511; call++) {
            net.rounds(100);
        }
        due("interest(0, 5), the 512th call", net.interest(0, 5), 50800);
        InterestNet other = new InterestNet();
        for (int call = 1; call <= 511; call++) {
            other.setPeriod(1 + call % 50);
        }
        due("undo(), the 512th call", other.undo(), 4);
    }
}
