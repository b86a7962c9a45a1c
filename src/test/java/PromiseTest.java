/** The promises of the document, one by one: ordinary inputs, the edges that it names, and wrong inputs. */
public final class PromiseTest extends Answers {
    public static void main(String[] args) {
        newObject();
        addNode();
        charge();
        link();
        cut();
        addSensor();
        measure();
        ask();
        withdraw();
        setPeriod();
        count();
        energy();
        linkPart();
        sensor();
        interest();
        rounds();
        roundEndsInterests();
        roundDropsWays();
        roundExplores();
        roundTakesLowestNode();
        roundCountsChangedLinks();
        roundSendsOnce();
        roundSpendsWhatIsThere();
        wayLength();
        wayNode();
        isWhole();
        quickest();
        load();
        firstDeath();
        willDeliver();
        bestPeriod();
        foretellingHasNoGreatestRound();
        undo();
        recordedCalls();
        type();
        clearText();
        textFault();
        textFaultOfNumbers();
        textFaultOfLinks();
        textFaultOfSensors();
        textFaultOfRoom();
        build();
        digest();
        finish();
    }

    private static void dueFault(InterestNet net, String text, int want) {
        write(net, text);
        due("textFault() of '" + text + "'", net.textFault(), want);
        if (want != NONE) {
            long before = net.digest();
            due("build() of '" + text + "'", net.build(), BAD_STATE);
            due("digest() after it", net.digest(), before);
        }
    }

    private static void newObject() {
        part = "1 a new object";
        InterestNet net = new InterestNet();
        int[] want = {0, 0, 0, 0, 10, 0, 0, 0, 0, 0, 0, 0};
        for (int what = 0; what < want.length; what++) {
            due("count(" + what + ")", net.count(what), want[what]);
        }
        due("clearText()", net.clearText(), 0);
        due("textFault()", net.textFault(), 0);
        due("undo()", net.undo(), BAD_STATE);
        due("NONE", InterestNet.NONE, NONE);
        due("BAD_INDEX", InterestNet.BAD_INDEX, BAD_INDEX);
        due("BAD_VALUE", InterestNet.BAD_VALUE, BAD_VALUE);
        due("BAD_STATE", InterestNet.BAD_STATE, BAD_STATE);
        due("FULL", InterestNet.FULL, FULL);
    }

    private static void addNode() {
        part = "2 addNode";
        InterestNet net = new InterestNet();
        due("addNode(0)", net.addNode(0), BAD_VALUE);
        due("addNode(-1)", net.addNode(-1), BAD_VALUE);
        due("addNode(10001)", net.addNode(10001), BAD_VALUE);
        due("addNode(1)", net.addNode(1), 0);
        due("addNode(10000)", net.addNode(10000), 1);
        due("energy(0)", net.energy(0), 1);
        due("energy(1)", net.energy(1), 10000);
        for (int node = 2; node < 10; node++) {
            due("addNode(5)", net.addNode(5), node);
        }
        due("the 11th addNode(5)", net.addNode(5), FULL);
        due("the 11th addNode(0)", net.addNode(0), BAD_VALUE);
        due("count(0)", net.count(0), 10);
    }

    private static void charge() {
        part = "3 charge";
        InterestNet net = row(2, 7, 1);
        due("charge(2, 5)", net.charge(2, 5), BAD_INDEX);
        due("charge(-1, -1)", net.charge(-1, -1), BAD_INDEX);
        due("charge(0, -1)", net.charge(0, -1), BAD_VALUE);
        due("charge(0, 10001)", net.charge(0, 10001), BAD_VALUE);
        due("charge(0, 0)", net.charge(0, 0), 7);
        due("charge(0, 10000)", net.charge(0, 10000), 0);
        due("charge(1, 3)", net.charge(1, 3), 7);
        due("energy(0)", net.energy(0), 10000);
        due("energy(1)", net.energy(1), 3);
        due("count(10)", net.count(10), 0);
    }

    private static void link() {
        part = "4 link";
        InterestNet net = row(8, 7, 1);
        due("link(8, 0, 1)", net.link(8, 0, 1), BAD_INDEX);
        due("link(0, 8, 0)", net.link(0, 8, 0), BAD_INDEX);
        due("link(0, -1, 1)", net.link(0, -1, 1), BAD_INDEX);
        due("link(0, 0, 0)", net.link(0, 0, 0), BAD_VALUE);
        due("link(0, 2, 21)", net.link(0, 2, 21), BAD_VALUE);
        due("link(0, 0, 1)", net.link(0, 0, 1), BAD_STATE);
        due("link(0, 1, 1)", net.link(0, 1, 1), BAD_STATE);
        due("link(1, 0, 1)", net.link(1, 0, 1), BAD_STATE);
        due("link(2, 0, 20)", net.link(2, 0, 20), 7);
        due("link(0, 3, 1)", net.link(0, 3, 1), 8);
        int link = 9;
        for (int one = 1; one < 8 && link < 20; one++) {
            for (int other = one + 2; other < 8 && link < 20; other++) {
                due("link(" + one + ", " + other + ", 3)", net.link(one, other, 3), link);
                link++;
            }
        }
        due("the 21st link(0, 7, 1)", net.link(0, 7, 1), FULL);
        due("the 21st link(0, 1, 1)", net.link(0, 1, 1), BAD_STATE);
        due("the 21st link(0, 7, 0)", net.link(0, 7, 0), BAD_VALUE);
        due("count(1)", net.count(1), 20);
    }

    private static void cut() {
        part = "5 cut";
        InterestNet net = asking(4, 100, 2);
        net.rounds(1);
        due("cut(3)", net.cut(3), BAD_INDEX);
        due("cut(-1)", net.cut(-1), BAD_INDEX);
        due("cut(0)", net.cut(0), 2);
        due("linkPart(0, 0)", net.linkPart(0, 0), 1);
        due("linkPart(1, 1)", net.linkPart(1, 1), 3);
        due("linkPart(2, 0)", net.linkPart(2, 0), BAD_INDEX);
        dueWay(net, 0, 0, 0, 1, 2, 3);
        due("isWhole(0, 0)", net.isWhole(0, 0), 0);
        net.rounds(1);
        dueWay(net, 0, 0);
        due("cut(1)", net.cut(1), 1);
        due("link(0, 1, 5)", net.link(0, 1, 5), 1);
        due("cut(1)", net.cut(1), 1);
        due("cut(0)", net.cut(0), 0);
        due("cut(0)", net.cut(0), BAD_INDEX);
    }

    private static void addSensor() {
        part = "6 addSensor";
        InterestNet net = row(2, 7, 1);
        due("addSensor(2, 8, 0)", net.addSensor(2, 8, 0), BAD_INDEX);
        due("addSensor(-1, 0, 0)", net.addSensor(-1, 0, 0), BAD_INDEX);
        due("addSensor(0, 8, 0)", net.addSensor(0, 8, 0), BAD_VALUE);
        due("addSensor(0, -1, 0)", net.addSensor(0, -1, 0), BAD_VALUE);
        due("addSensor(0, 0, 101)", net.addSensor(0, 0, 101), BAD_VALUE);
        due("addSensor(0, 0, -101)", net.addSensor(0, 0, -101), BAD_VALUE);
        due("addSensor(0, 0, -100)", net.addSensor(0, 0, -100), 0);
        due("addSensor(1, 7, 100)", net.addSensor(1, 7, 100), 1);
        for (int sensor = 2; sensor < 6; sensor++) {
            due("addSensor(0, 0, 0)", net.addSensor(0, 0, 0), sensor);
        }
        due("the 7th addSensor(0, 0, 0)", net.addSensor(0, 0, 0), FULL);
        due("the 7th addSensor(0, 8, 0)", net.addSensor(0, 8, 0), BAD_VALUE);
        due("count(2)", net.count(2), 6);
    }

    private static void measure() {
        part = "7 measure";
        InterestNet net = row(1, 7, 1);
        due("measure(0, 0)", net.measure(0, 0), BAD_INDEX);
        net.addSensor(0, 0, -100);
        due("measure(1, 101)", net.measure(1, 101), BAD_INDEX);
        due("measure(-1, 0)", net.measure(-1, 0), BAD_INDEX);
        due("measure(0, 101)", net.measure(0, 101), BAD_VALUE);
        due("measure(0, -101)", net.measure(0, -101), BAD_VALUE);
        due("measure(0, 100)", net.measure(0, 100), -100);
        due("measure(0, -100)", net.measure(0, -100), 100);
        due("sensor(0, 2)", net.sensor(0, 2), -100);
    }

    private static void ask() {
        part = "8 ask";
        InterestNet net = row(1, 7, 1);
        net.rounds(5);
        due("ask(1, 8, 0, 0, 9)", net.ask(1, 8, 0, 0, 9), BAD_INDEX);
        due("ask(-1, 0, 0, 0, 9)", net.ask(-1, 0, 0, 0, 9), BAD_INDEX);
        due("ask(0, 8, 0, 0, 9)", net.ask(0, 8, 0, 0, 9), BAD_VALUE);
        due("ask(0, -1, 0, 0, 9)", net.ask(0, -1, 0, 0, 9), BAD_VALUE);
        due("ask(0, 0, -101, 0, 9)", net.ask(0, 0, -101, 0, 9), BAD_VALUE);
        due("ask(0, 0, 101, 101, 9)", net.ask(0, 0, 101, 101, 9), BAD_VALUE);
        due("ask(0, 0, 0, 101, 9)", net.ask(0, 0, 0, 101, 9), BAD_VALUE);
        due("ask(0, 0, 1, 0, 9)", net.ask(0, 0, 1, 0, 9), BAD_VALUE);
        due("ask(0, 0, 0, 0, 4)", net.ask(0, 0, 0, 0, 4), BAD_VALUE);
        due("ask(0, 0, 0, 0, 100001)", net.ask(0, 0, 0, 0, 100001), BAD_VALUE);
        due("ask(0, 0, 0, 0, 5)", net.ask(0, 0, 0, 0, 5), 0);
        due("ask(0, 7, -100, 100, 100000)", net.ask(0, 7, -100, 100, 100000), 1);
        due("ask(0, 0, 100, 100, 9)", net.ask(0, 0, 100, 100, 9), 2);
        due("ask(0, 0, -100, -100, 9)", net.ask(0, 0, -100, -100, 9), 3);
        due("ask(0, 0, 0, 0, 9)", net.ask(0, 0, 0, 0, 9), 4);
        due("the 6th ask(0, 0, 0, 0, 9)", net.ask(0, 0, 0, 0, 9), FULL);
        due("the 6th ask(0, 0, 0, 0, 4)", net.ask(0, 0, 0, 0, 4), BAD_VALUE);
        due("count(3)", net.count(3), 5);
    }

    private static void withdraw() {
        part = "9 withdraw";
        InterestNet net = asking(3, 100, 1);
        net.ask(1, 1, 0, 100, 50);
        net.ask(0, 1, 0, 100, 60);
        net.rounds(1);
        due("withdraw(3)", net.withdraw(3), BAD_INDEX);
        due("withdraw(-1)", net.withdraw(-1), BAD_INDEX);
        due("withdraw(0)", net.withdraw(0), 2);
        dueWay(net, 0, 0, 0, 1);
        dueWay(net, 1, 0, 0);
        due("interest(0, 0)", net.interest(0, 0), 1);
        due("interest(0, 5)", net.interest(0, 5), 1);
        due("interest(1, 4)", net.interest(1, 4), 60);
        due("withdraw(1)", net.withdraw(1), 1);
        due("ask(2, 1, 0, 100, 70)", net.ask(2, 1, 0, 100, 70), 1);
        dueWay(net, 1, 0);
        due("interest(1, 5)", net.interest(1, 5), 0);
        due("interest(1, 6)", net.interest(1, 6), 0);
        due("withdraw(0)", net.withdraw(0), 1);
        due("withdraw(0)", net.withdraw(0), 0);
        due("withdraw(0)", net.withdraw(0), BAD_INDEX);
        due("count(11)", net.count(11), 0);
        // With all five there, what the last one had must not come back.
        InterestNet full = asking(2, 1000, 3);
        for (int interest = 1; interest < 5; interest++) {
            full.ask(1, 1, 0, 100, 50);
        }
        due("rounds(2)", full.rounds(2), 10);
        due("withdraw(2)", full.withdraw(2), 4);
        due("load(0)", full.load(0), 4);
        due("rounds(1)", full.rounds(1), 4);
        due("ask(1, 1, 0, 100, 50)", full.ask(1, 1, 0, 100, 50), 4);
        due("interest(4, 5)", full.interest(4, 5), 0);
        due("interest(4, 6)", full.interest(4, 6), 0);
        due("interest(4, 7)", full.interest(4, 7), 0);
        dueWay(full, 4, 0);
        due("load(0)", full.load(0), 4);
    }

    private static void setPeriod() {
        part = "10 setPeriod";
        InterestNet net = new InterestNet();
        due("setPeriod(0)", net.setPeriod(0), BAD_VALUE);
        due("setPeriod(51)", net.setPeriod(51), BAD_VALUE);
        due("setPeriod(1)", net.setPeriod(1), 10);
        due("setPeriod(50)", net.setPeriod(50), 1);
        due("count(4)", net.count(4), 50);
        net = asking(2, 1000, 1);
        net.setPeriod(3);
        net.rounds(10);
        due("count(7)", net.count(7), 4);
    }

    private static void count() {
        part = "11 count";
        InterestNet net = asking(3, 100, 2);
        net.addNode(1);
        net.charge(3, 0);
        net.ask(0, 1, 0, 100, 0);
        net.rounds(2);
        net.cut(1);
        net.rounds(1);
        int[] want = {4, 1, 1, 1, 10, 3, 3, 3, 2, 2, 20, 1};
        for (int what = 0; what < want.length; what++) {
            due("count(" + what + ")", net.count(what), want[what]);
        }
        due("count(12)", net.count(12), BAD_VALUE);
        due("count(-1)", net.count(-1), BAD_VALUE);
    }

    private static void energy() {
        part = "12 energy";
        InterestNet net = row(2, 7, 1);
        due("energy(1)", net.energy(1), 7);
        due("energy(2)", net.energy(2), BAD_INDEX);
        due("energy(-1)", net.energy(-1), BAD_INDEX);
    }

    private static void linkPart() {
        part = "13 linkPart";
        InterestNet net = row(3, 7, 4);
        net.link(2, 0, 9);
        due("linkPart(0, 0)", net.linkPart(0, 0), 0);
        due("linkPart(0, 1)", net.linkPart(0, 1), 1);
        due("linkPart(0, 2)", net.linkPart(0, 2), 4);
        due("linkPart(2, 0)", net.linkPart(2, 0), 2);
        due("linkPart(2, 1)", net.linkPart(2, 1), 0);
        due("linkPart(2, 2)", net.linkPart(2, 2), 9);
        due("linkPart(3, 3)", net.linkPart(3, 3), BAD_INDEX);
        due("linkPart(-1, 0)", net.linkPart(-1, 0), BAD_INDEX);
        due("linkPart(0, 3)", net.linkPart(0, 3), BAD_VALUE);
        due("linkPart(0, -1)", net.linkPart(0, -1), BAD_VALUE);
    }

    private static void sensor() {
        part = "14 sensor";
        InterestNet net = row(2, 7, 1);
        net.addSensor(1, 3, -5);
        net.addSensor(0, 2, 6);
        due("sensor(0, 0)", net.sensor(0, 0), 1);
        due("sensor(0, 1)", net.sensor(0, 1), 3);
        due("sensor(0, 2)", net.sensor(0, 2), -5);
        due("sensor(1, 0)", net.sensor(1, 0), 0);
        due("sensor(2, 3)", net.sensor(2, 3), BAD_INDEX);
        due("sensor(-1, 0)", net.sensor(-1, 0), BAD_INDEX);
        due("sensor(0, 3)", net.sensor(0, 3), BAD_VALUE);
        due("sensor(0, -1)", net.sensor(0, -1), BAD_VALUE);
    }

    private static void interest() {
        part = "15 interest";
        InterestNet net = row(3, 100, 4);
        net.addSensor(0, 1, 50);
        net.addSensor(2, 1, 60);
        net.addSensor(1, 1, 70);
        net.ask(2, 1, -3, 65, 40);
        net.rounds(3);
        for (int sensor = 3; sensor < 6; sensor++) {
            net.addSensor(0, 2, 50);
        }
        net.ask(2, 1, 50, 50, 40);
        net.rounds(1);
        due("interest(1, 7)", net.interest(1, 7), 1);
        due("load(0)", net.load(0), 2);
        int[] want = {2, 1, -3, 65, 40, 8, 32, 2};
        for (int what = 0; what < want.length; what++) {
            due("interest(0, " + what + ")", net.interest(0, what), want[what]);
        }
        net.cut(0);
        due("interest(0, 7) after cut(0)", net.interest(0, 7), 2);
        due("interest(2, 8)", net.interest(2, 8), BAD_INDEX);
        due("interest(-1, 0)", net.interest(-1, 0), BAD_INDEX);
        due("interest(0, 8)", net.interest(0, 8), BAD_VALUE);
        due("interest(0, -1)", net.interest(0, -1), BAD_VALUE);
    }

    private static void rounds() {
        part = "16 rounds";
        InterestNet net = asking(3, 10000, 2);
        due("rounds(0)", net.rounds(0), BAD_VALUE);
        due("rounds(-1)", net.rounds(-1), BAD_VALUE);
        due("rounds(101)", net.rounds(101), BAD_VALUE);
        due("count(5)", net.count(5), 0);
        due("rounds(1)", net.rounds(1), 1);
        due("rounds(100)", net.rounds(100), 100);
        due("count(5)", net.count(5), 101);
        due("count(7)", net.count(7), 11);
        due("energy(0)", net.energy(0), 10000 - 11 - 2 * 101);
        due("energy(1)", net.energy(1), 10000 - 11 - 3 * 101);
        due("energy(2)", net.energy(2), 10000 - 11 - 101);
        // More than 512 calls, which nothing but the greatest round needs.
        InterestNet empty = new InterestNet();
        for (int call = 0; call < 999; call++) {
            empty.rounds(100);
        }
        due("rounds(99) from 99900", empty.rounds(99), 0);
        due("rounds(2) from 99999", empty.rounds(2), FULL);
        due("rounds(101) from 99999", empty.rounds(101), BAD_VALUE);
        due("rounds(1) from 99999", empty.rounds(1), 0);
        due("rounds(1) from 100000", empty.rounds(1), FULL);
        due("count(5)", empty.count(5), 100000);
    }

    private static void roundEndsInterests() {
        part = "16 rounds: interests end";
        InterestNet net = asking(2, 1000, 1);
        net.ask(1, 1, 0, 100, 2);
        net.ask(0, 1, 0, 100, 2);
        net.ask(0, 1, 0, 100, 3);
        due("rounds(3)", net.rounds(3), 12);
        due("count(3)", net.count(3), 4);
        due("rounds(1)", net.rounds(1), 2);
        due("count(3)", net.count(3), 2);
        due("count(11)", net.count(11), 2);
        due("interest(1, 4)", net.interest(1, 4), 3);
        due("interest(1, 5)", net.interest(1, 5), 4);
        dueWay(net, 0, 0, 0, 1);
        dueWay(net, 1, 0, 0);
        due("rounds(1)", net.rounds(1), 1);
        due("count(11)", net.count(11), 3);
    }

    private static void roundDropsWays() {
        part = "16 rounds: ways become none without counting";
        InterestNet net = asking(3, 100, 1);
        net.rounds(1);
        net.measure(0, -1);
        due("rounds(1)", net.rounds(1), 0);
        dueWay(net, 0, 0);
        due("count(9)", net.count(9), 0);
        due("count(7)", net.count(7), 1);
        net.measure(0, 0);
        due("rounds(1), value is low", net.rounds(1), 1);
        net.measure(0, 100);
        due("rounds(1), value is high", net.rounds(1), 1);
        int energy = net.charge(0, 0);
        due("rounds(1), the sensor's node is dead", net.rounds(1), 0);
        dueWay(net, 0, 0);
        net.charge(0, energy);
        due("rounds(1)", net.rounds(1), 1);
        net.charge(2, 0);
        due("rounds(1), the sink is dead", net.rounds(1), 0);
        dueWay(net, 0, 0);
        due("count(9)", net.count(9), 0);
        due("count(8)", net.count(8), 6);
        due("count(7)", net.count(7), 3);
        net.addSensor(1, 2, 50);
        net.ask(1, 3, 0, 100, 100);
        due("rounds(1), kinds differ", net.rounds(1), 0);
    }

    private static void roundExplores() {
        part = "16 rounds: exploring";
        InterestNet net = asking(5, 100, 1);
        net.charge(3, 0);
        due("rounds(1), not reached", net.rounds(1), 0);
        due("energy(0)", net.energy(0), 99);
        due("energy(2)", net.energy(2), 99);
        due("energy(3)", net.energy(3), 0);
        due("energy(4)", net.energy(4), 100);
        due("count(7)", net.count(7), 1);
        due("rounds(2), not reached", net.rounds(2), 0);
        due("count(7)", net.count(7), 3);
        net.charge(3, 50);
        due("rounds(1)", net.rounds(1), 1);
        due("count(7)", net.count(7), 4);
        due("rounds(6)", net.rounds(6), 6);
        due("count(7) before round 10", net.count(7), 4);
        net.link(0, 4, 3);
        due("rounds(1) in round 10", net.rounds(1), 1);
        due("count(7) after round 10", net.count(7), 5);
        dueWay(net, 0, 0, 0, 4);
        InterestNet apart = asking(4, 100, 1);
        apart.cut(0);
        apart.addSensor(1, 1, 50);
        apart.measure(0, -1);
        due("rounds(1), node 0 is not reached", apart.rounds(1), 1);
        due("energy(0)", apart.energy(0), 100);
        dueWay(apart, 0, 1, 1, 2, 3);
    }

    private static void roundTakesLowestNode() {
        part = "16 rounds: of equal ways the lowest node before each, from the sink";
        InterestNet net = new InterestNet();
        for (int node = 0; node < 6; node++) {
            net.addNode(100);
        }
        net.link(5, 4, 1);
        net.link(5, 1, 1);
        net.link(4, 2, 1);
        net.link(1, 3, 1);
        net.link(2, 0, 1);
        net.link(3, 0, 1);
        net.addSensor(5, 1, 50);
        net.ask(0, 1, 0, 100, 100);
        net.rounds(1);
        dueWay(net, 0, 0, 5, 4, 2, 0);
        due("quickest(5, 0)", net.quickest(5, 0), 3);
    }

    private static void roundCountsChangedLinks() {
        part = "16 rounds: links that are strengthened and thinned";
        InterestNet net = asking(4, 100, 1);
        net.rounds(1);
        due("count(8)", net.count(8), 3);
        due("count(9)", net.count(9), 0);
        net.link(1, 3, 5);
        net.cut(1);
        net.rounds(1);
        dueWay(net, 0, 0, 0, 1, 3);
        due("count(8)", net.count(8), 4);
        due("count(9)", net.count(9), 2);
        // The same link, cut and linked again in the other direction, is the same for a way.
        net.cut(0);
        net.link(1, 0, 7);
        due("isWhole(0, 0)", net.isWhole(0, 0), 1);
        net.rounds(10);
        due("count(8)", net.count(8), 4);
        due("count(9)", net.count(9), 2);
        due("interest(0, 6)", net.interest(0, 6), 3 + 6 + 10 * 12);
        net.cut(2);
        net.rounds(1);
        dueWay(net, 0, 0);
        due("count(8)", net.count(8), 4);
        due("count(9)", net.count(9), 4);
        // A way may use a link in the other direction than before.
        InterestNet turned = new InterestNet();
        for (int node = 0; node < 4; node++) {
            turned.addNode(1000);
        }
        turned.link(0, 1, 1);
        turned.link(1, 2, 1);
        turned.link(2, 3, 1);
        turned.addSensor(0, 1, 50);
        turned.ask(3, 1, 0, 100, 1000);
        turned.rounds(1);
        turned.cut(0);
        turned.link(0, 2, 1);
        turned.cut(1);
        turned.link(1, 3, 1);
        turned.rounds(1);
        dueWay(turned, 0, 0, 0, 2, 1, 3);
        due("count(8)", turned.count(8), 5);
        due("count(9)", turned.count(9), 2);
        // The last link of the old way, from node 0, is not that of the new one, from node 1.
        InterestNet moved = row(2, 1000, 1);
        moved.addNode(1000);
        moved.link(0, 2, 1);
        moved.link(1, 2, 5);
        moved.addSensor(1, 1, 50);
        moved.ask(2, 1, 0, 100, 1000);
        moved.rounds(1);
        dueWay(moved, 0, 0, 1, 0, 2);
        moved.cut(1);
        moved.rounds(1);
        dueWay(moved, 0, 0, 1, 2);
        due("count(8)", moved.count(8), 3);
        due("count(9)", moved.count(9), 2);
    }

    private static void roundSendsOnce() {
        part = "16 rounds: data of a sensor go over a link once in a direction and round";
        InterestNet net = asking(3, 1000, 1);
        net.ask(1, 1, 0, 100, 1000);
        net.rounds(1);
        due("energy(0)", net.energy(0), 1000 - 2 - 2);
        due("energy(1)", net.energy(1), 1000 - 2 - 3);
        due("energy(2)", net.energy(2), 1000 - 2 - 1);
        net.rounds(1);
        due("energy(0)", net.energy(0), 1000 - 2 - 4);
        net.addSensor(0, 1, 60);
        net.rounds(1);
        due("energy(0), two sensors", net.energy(0), 1000 - 4 - 8);
        due("interest(1, 5)", net.interest(1, 5), 4);
        due("interest(1, 6)", net.interest(1, 6), 4);
        // The two directions of a link are two.
        InterestNet both = row(3, 1000, 1);
        both.addSensor(1, 1, 50);
        both.addSensor(0, 2, 50);
        both.ask(0, 1, 0, 100, 1000);
        both.ask(1, 2, 0, 100, 1000);
        both.ask(2, 1, 0, 100, 1000);
        both.rounds(1);
        due("energy(0), both directions", both.energy(0), 1000 - 3 - 1 - 2);
        due("energy(1), both directions", both.energy(1), 1000 - 3 - 2 - 1 - 2);
        due("energy(2), both directions", both.energy(2), 1000 - 3 - 1);
    }

    private static void roundSpendsWhatIsThere() {
        part = "16 rounds: a node spends what it has, and goes on until its turn is over";
        InterestNet net = asking(3, 100, 1);
        net.ask(2, 1, 0, 100, 1000);
        net.charge(1, 1);
        due("rounds(1)", net.rounds(1), 1);
        due("energy(1)", net.energy(1), 0);
        due("count(10)", net.count(10), (1 + 2 + 1) + (1 + 1) + 1);
        due("count(6)", net.count(6), 2);
        dueWay(net, 0, 0, 0, 1, 2);
        dueWay(net, 1, 0);
        due("interest(0, 5)", net.interest(0, 5), 1);
        due("interest(1, 5)", net.interest(1, 5), 0);
        InterestNet sink = asking(2, 100, 1);
        sink.charge(0, 2);
        due("rounds(1), the sensor's node dies in it", sink.rounds(1), 1);
        due("count(10)", sink.count(10), 4);
        due("rounds(1), the sensor's node is dead", sink.rounds(1), 0);
    }

    private static void wayLength() {
        part = "17 wayLength";
        InterestNet net = asking(3, 100, 1);
        net.addSensor(2, 1, 5);
        net.addSensor(1, 2, 5);
        due("wayLength(0, 0)", net.wayLength(0, 0), 0);
        net.rounds(1);
        due("wayLength(0, 0)", net.wayLength(0, 0), 3);
        due("wayLength(0, 1)", net.wayLength(0, 1), 1);
        due("wayLength(0, 2)", net.wayLength(0, 2), 0);
        due("wayLength(0, 3)", net.wayLength(0, 3), BAD_INDEX);
        due("wayLength(1, 0)", net.wayLength(1, 0), BAD_INDEX);
        due("wayLength(-1, 0)", net.wayLength(-1, 0), BAD_INDEX);
        due("wayLength(0, -1)", net.wayLength(0, -1), BAD_INDEX);
    }

    private static void wayNode() {
        part = "18 wayNode";
        InterestNet net = asking(3, 100, 1);
        due("wayNode(0, 0, 0)", net.wayNode(0, 0, 0), NONE);
        due("wayNode(0, 0, -1)", net.wayNode(0, 0, -1), BAD_VALUE);
        net.rounds(1);
        dueWay(net, 0, 0, 0, 1, 2);
        due("wayNode(0, 0, 3)", net.wayNode(0, 0, 3), NONE);
        due("wayNode(0, 0, 2147483647)", net.wayNode(0, 0, 2147483647), NONE);
        due("wayNode(0, 0, -2147483648)", net.wayNode(0, 0, -2147483648), BAD_VALUE);
        due("wayNode(1, 0, -1)", net.wayNode(1, 0, -1), BAD_INDEX);
        due("wayNode(0, 1, 0)", net.wayNode(0, 1, 0), BAD_INDEX);
    }

    private static void isWhole() {
        part = "19 isWhole";
        InterestNet net = asking(3, 100, 1);
        due("isWhole(0, 0), no way", net.isWhole(0, 0), 0);
        net.rounds(1);
        due("isWhole(0, 0)", net.isWhole(0, 0), 1);
        due("isWhole(1, 0)", net.isWhole(1, 0), BAD_INDEX);
        due("isWhole(0, 1)", net.isWhole(0, 1), BAD_INDEX);
        net.charge(2, 0);
        due("isWhole(0, 0), the sink is dead", net.isWhole(0, 0), 0);
        net.charge(2, 1);
        due("isWhole(0, 0), the sink is alive", net.isWhole(0, 0), 1);
        net.charge(0, 0);
        due("isWhole(0, 0), the sensor's node is dead", net.isWhole(0, 0), 0);
        net.charge(0, 1);
        net.charge(1, 0);
        due("isWhole(0, 0), a node between is dead", net.isWhole(0, 0), 0);
        net.charge(1, 1);
        net.cut(1);
        due("isWhole(0, 0), a link is cut", net.isWhole(0, 0), 0);
        net.link(2, 1, 9);
        due("isWhole(0, 0), and linked again", net.isWhole(0, 0), 1);
    }

    private static void quickest() {
        part = "20 quickest";
        InterestNet net = row(5, 100, 3);
        due("quickest(0, 4)", net.quickest(0, 4), 12);
        due("quickest(4, 1)", net.quickest(4, 1), 9);
        due("quickest(2, 2)", net.quickest(2, 2), 0);
        net.link(0, 4, 11);
        due("quickest(0, 4)", net.quickest(0, 4), 11);
        due("quickest(0, 5)", net.quickest(0, 5), BAD_INDEX);
        due("quickest(-1, 0)", net.quickest(-1, 0), BAD_INDEX);
        net.charge(1, 0);
        due("quickest(0, 2)", net.quickest(0, 2), 17);
        due("quickest(0, 1)", net.quickest(0, 1), NONE);
        due("quickest(1, 0)", net.quickest(1, 0), NONE);
        due("quickest(1, 1)", net.quickest(1, 1), NONE);
        net.charge(4, 0);
        due("quickest(0, 2), not reached", net.quickest(0, 2), NONE);
        due("quickest(2, 3)", net.quickest(2, 3), 3);
        InterestNet longest = row(10, 100, 20);
        due("quickest(0, 9) of ten nodes", longest.quickest(0, 9), 180);
        due("quickest(9, 0) of ten nodes", longest.quickest(9, 0), 180);
    }

    private static void load() {
        part = "21 load";
        InterestNet net = asking(3, 100, 1);
        net.addSensor(2, 1, 5);
        net.ask(0, 1, 0, 100, 1000);
        due("load(0)", net.load(0), 0);
        net.rounds(1);
        due("load(0)", net.load(0), 2);
        due("load(1)", net.load(1), 2);
        due("load(2)", net.load(2), BAD_INDEX);
        due("load(-1)", net.load(-1), BAD_INDEX);
        net.cut(0);
        net.link(1, 0, 20);
        due("load(0)", net.load(0), 2);
        due("load(1), cut and linked again", net.load(1), 2);
        net.link(0, 2, 20);
        due("load(2)", net.load(2), 0);
        net.withdraw(0);
        due("load(0)", net.load(0), 1);
    }

    private static void firstDeath() {
        part = "22 firstDeath";
        due("firstDeath() of an empty net", new InterestNet().firstDeath(), NONE);
        InterestNet net = asking(2, 100, 1);
        net.setPeriod(50);
        long before = net.digest();
        due("firstDeath()", net.firstDeath(), 50);
        due("digest()", net.digest(), before);
        net.charge(0, 1);
        due("firstDeath()", net.firstDeath(), 1);
        net.charge(0, 0);
        due("firstDeath(), a node is dead already", net.firstDeath(), NONE);
        // An exploration in each 50th round, and 2 a round: after 500 rounds, 1010 are spent.
        net.charge(1, 10000);
        net.charge(0, 1010);
        due("firstDeath() at the last round", net.firstDeath(), 500);
        net.charge(0, 1011);
        due("firstDeath() after the last round", net.firstDeath(), NONE);
    }

    private static void willDeliver() {
        part = "23 willDeliver";
        InterestNet net = asking(3, 10000, 1);
        net.ask(0, 1, 0, 100, 9);
        long before = net.digest();
        due("willDeliver(0)", net.willDeliver(0), BAD_VALUE);
        due("willDeliver(501)", net.willDeliver(501), BAD_VALUE);
        due("willDeliver(1)", net.willDeliver(1), 2);
        due("willDeliver(500)", net.willDeliver(500), 510);
        due("digest()", net.digest(), before);
        due("rounds(100)", net.rounds(100), 110);
    }

    private static void bestPeriod() {
        part = "24 bestPeriod";
        due("bestPeriod(1) of an empty net", new InterestNet().bestPeriod(1), 1);
        InterestNet net = asking(2, 10000, 1);
        long before = net.digest();
        due("bestPeriod(0)", net.bestPeriod(0), BAD_VALUE);
        due("bestPeriod(201)", net.bestPeriod(201), BAD_VALUE);
        due("bestPeriod(200)", net.bestPeriod(200), 1);
        due("digest()", net.digest(), before);
        // 29 rounds spend 58, so 5 explorations before the 30th, and not 6, leave a node that is alive in it.
        net.charge(0, 64);
        due("bestPeriod(30)", net.bestPeriod(30), 6);
        // 50 rounds spend 100, so it must be one exploration before the 51st.
        net.charge(0, 102);
        due("bestPeriod(51)", net.bestPeriod(51), 50);
        net.setPeriod(3);
        net.charge(0, 30);
        due("bestPeriod(10)", net.bestPeriod(10), 1);
    }

    private static void foretellingHasNoGreatestRound() {
        part = "22 to 24 in the greatest round";
        InterestNet net = new InterestNet();
        for (int call = 0; call < 1000; call++) {
            net.rounds(100);
        }
        net.addNode(1000);
        net.addSensor(0, 1, 1);
        net.ask(0, 1, 0, 1, 100000);
        due("willDeliver(5)", net.willDeliver(5), 1);
        due("firstDeath()", net.firstDeath(), NONE);
        due("bestPeriod(5)", net.bestPeriod(5), 1);
        due("count(5)", net.count(5), 100000);
    }

    private static void undo() {
        part = "25 undo";
        InterestNet net = new InterestNet();
        due("undo()", net.undo(), BAD_STATE);
        long[] digests = new long[7];
        for (int node = 0; node < 7; node++) {
            digests[node] = net.digest();
            net.addNode(10 + node);
        }
        for (int left = 4; left >= 0; left--) {
            due("undo()", net.undo(), left);
            due("digest()", net.digest(), digests[left + 2]);
        }
        due("undo()", net.undo(), BAD_STATE);
        due("count(0)", net.count(0), 2);
        net.addNode(5);
        due("undo()", net.undo(), 0);
        due("type(65)", net.type(65), 1);
        net.addNode(5);
        due("type(66)", net.type(66), 2);
        due("undo()", net.undo(), 0);
        due("clearText(), which no undo changes", net.clearText(), 2);
    }

    private static void recordedCalls() {
        part = "25 undo after each recorded call";
        InterestNet net = asking(3, 100, 1);
        net.rounds(2);
        write(net, "n5;0-3:4;s3,1=-2");
        for (int call = 0; call < 11; call++) {
            long before = net.digest();
            change(net, call);
            due("undo() of call " + call, net.undo(), 4);
            due("digest() of call " + call, net.digest(), before);
            // Five errors, none recorded: the latest state is still that from before.
            change(net, call);
            failAll(net);
            net.undo();
            due("digest() of call " + call + " after errors", net.digest(), before);
            net.setPeriod(20 + call);
        }
    }

    private static void change(InterestNet net, int call) {
        switch (call) {
            case 0 -> net.addNode(9);
            case 1 -> net.charge(0, net.energy(0));
            case 2 -> net.link(0, 2, 9);
            case 3 -> net.cut(0);
            case 4 -> net.addSensor(1, 1, 1);
            case 5 -> net.measure(0, -100);
            case 6 -> net.ask(0, 1, 1, 1, 100);
            case 7 -> net.withdraw(0);
            case 8 -> net.setPeriod(3);
            case 9 -> net.rounds(3);
            default -> net.build();
        }
    }

    private static void failAll(InterestNet net) {
        net.addNode(0);
        net.charge(99, 0);
        net.link(0, 0, 1);
        net.cut(99);
        net.addSensor(99, 0, 0);
        net.measure(99, 0);
        net.ask(99, 0, 0, 0, 0);
        net.withdraw(99);
        net.setPeriod(0);
        net.rounds(0);
        net.willDeliver(0);
        net.bestPeriod(0);
        net.firstDeath();
        net.willDeliver(3);
        net.bestPeriod(3);
        net.isWhole(0, 0);
        net.quickest(0, 1);
    }

    private static void type() {
        part = "26 type";
        InterestNet net = new InterestNet();
        due("type(-1)", net.type(-1), BAD_VALUE);
        due("type(256)", net.type(256), BAD_VALUE);
        due("type(0)", net.type(0), 1);
        due("type(255)", net.type(255), 2);
        for (int length = 3; length <= 120; length++) {
            due("type(32)", net.type(32), length);
        }
        due("the 121st type(32)", net.type(32), FULL);
        due("the 121st type(256)", net.type(256), BAD_VALUE);
        due("clearText()", net.clearText(), 120);
    }

    private static void clearText() {
        part = "27 clearText";
        InterestNet net = new InterestNet();
        due("clearText()", net.clearText(), 0);
        write(net, "n1;x");
        due("clearText()", net.clearText(), 4);
        due("clearText()", net.clearText(), 0);
        due("type(110)", net.type('n'), 1);
        due("textFault()", net.textFault(), 1);
    }

    private static void textFault() {
        part = "28 textFault";
        InterestNet net = new InterestNet();
        dueFault(net, "", 0);
        dueFault(net, "   ", 3);
        dueFault(net, "n5", NONE);
        dueFault(net, "n5;", 3);
        dueFault(net, "n5 ; ", 5);
        dueFault(net, "n", 1);
        dueFault(net, "n  ", 3);
        dueFault(net, ";", 0);
        dueFault(net, " ;", 1);
        dueFault(net, "N5", 0);
        dueFault(net, "n5;;n5", 3);
        dueFault(net, "n5n5", 2);
        dueFault(net, "n5 5", 3);
        dueFault(net, "n-5", 1);
        dueFault(net, " n 5 ; n 6 ; 0 - 1 : 7 ; s 0 , 1 = - 2 ", NONE);
        dueFault(net, "n5\u00005", 2);
        dueFault(net, "\tn5", 0);
        dueFault(net, "n5;\u00ff", 3);
        dueFault(net, "0-1:2", 0);
        dueFault(net, "n5;0", 4);
        dueFault(net, "n5;n5;0-", 8);
        dueFault(net, "n5;n5;0-1", 9);
        dueFault(net, "n5;n5;0-1:", 10);
        dueFault(net, "n5;n5;0-1:1", NONE);
        dueFault(net, "n5;n5;0:1", 7);
        dueFault(net, "n5;n5;0-1-1", 9);
        dueFault(net, "n5;n5;0-1 1", 10);
        dueFault(net, "n5;n5;0--1:1", 8);
        dueFault(net, "n5;n5;0-1:-1", 10);
        dueFault(net, "n5;s", 4);
        dueFault(net, "n5;s0", 5);
        dueFault(net, "n5;s0,", 6);
        dueFault(net, "n5;s0,1", 7);
        dueFault(net, "n5;s0,1=", 8);
        dueFault(net, "n5;s0,1=-", 9);
        dueFault(net, "n5;s0,1=-1", NONE);
        dueFault(net, "n5;s0,1=--1", 9);
        dueFault(net, "n5;s0=1", 5);
        dueFault(net, "n5;s0,1,1", 7);
        dueFault(net, "n5;s0,-1=1", 6);
        dueFault(net, "n5;s-0,1=1", 4);
    }

    private static void textFaultOfNumbers() {
        part = "28 textFault: numbers";
        InterestNet net = new InterestNet();
        dueFault(net, "n0", 1);
        dueFault(net, "n 00000", 2);
        dueFault(net, "n1", NONE);
        dueFault(net, "n00001", NONE);
        dueFault(net, "n000001", 1);
        dueFault(net, "n10000", NONE);
        dueFault(net, "n10001", 1);
        dueFault(net, "n100000", 1);
        dueFault(net, "n0x", 1);
        dueFault(net, "n4294967297", 1);
        dueFault(net, "n  99999;?", 3);
        dueFault(net, "n1234 5", 6);
    }

    private static void textFaultOfLinks() {
        part = "28 textFault: links";
        InterestNet net = row(3, 100, 1);
        dueFault(net, "0-2:1", NONE);
        dueFault(net, "0-2:20", NONE);
        dueFault(net, "0-2:0", 4);
        dueFault(net, "0-2:21", 4);
        dueFault(net, "0-2: 21x", 5);
        dueFault(net, "3-2:1", 0);
        dueFault(net, "3", 0);
        dueFault(net, " 3x", 1);
        dueFault(net, "0-3:1", 2);
        dueFault(net, "0-3", 2);
        dueFault(net, "0- 0", 3);
        dueFault(net, "0-00", 2);
        dueFault(net, "0-1", 2);
        dueFault(net, "1-0x", 2);
        dueFault(net, "000-002:1", NONE);
        dueFault(net, "n1;0-3:1", NONE);
        dueFault(net, "0-3:1;n1", 2);
        dueFault(net, "0-2:1;2-0:1", 8);
        dueFault(net, "0-2:1;2-0", 8);
    }

    private static void textFaultOfSensors() {
        part = "28 textFault: sensors";
        InterestNet net = row(2, 100, 1);
        dueFault(net, "s1,7=100", NONE);
        dueFault(net, "s1,7=-100", NONE);
        dueFault(net, "s1,0=-0", NONE);
        dueFault(net, "s2,7=100", 1);
        dueFault(net, "s2", 1);
        dueFault(net, "s1,8=100", 3);
        dueFault(net, "s1,8", 3);
        dueFault(net, "s1,7=101", 5);
        dueFault(net, "s1,7=- 101", 7);
        dueFault(net, "s1,7=000100", 5);
        dueFault(net, "n9;s2,7=100", NONE);
    }

    private static void textFaultOfRoom() {
        part = "28 textFault: room";
        InterestNet net = new InterestNet();
        for (int node = 0; node < 9; node++) {
            net.addNode(5);
        }
        dueFault(net, "n5", NONE);
        dueFault(net, "n5;n5", 3);
        dueFault(net, "n5; n", 4);
        dueFault(net, "n5;n0x", 3);
        net.addNode(5);
        dueFault(net, "n", 0);
        dueFault(net, "0-1:1;n5", 6);
        for (int link = 0; link < 19; link++) {
            net.link(link % 10, (link + 1 + link / 10) % 10, 1);
        }
        due("count(1)", net.count(1), 19);
        dueFault(net, "0-5:1", NONE);
        dueFault(net, "0-5:1;1-6:1", 6);
        dueFault(net, "0-5:1;  0", 8);
        dueFault(net, "0-5:1;99999", 6);
        for (int sensor = 0; sensor < 5; sensor++) {
            net.addSensor(0, 0, 0);
        }
        dueFault(net, "s0,0=0", NONE);
        dueFault(net, "s0,0=0;s0,0=0", 7);
        dueFault(net, "s0,0=0; s", 8);
        net.addSensor(0, 0, 0);
        dueFault(net, "s", 0);
    }

    private static void build() {
        part = "29 build";
        InterestNet net = new InterestNet();
        due("build()", net.build(), BAD_STATE);
        due("undo()", net.undo(), BAD_STATE);
        write(net, "n10; n 0020 ;1-0:007;s1,3=-7;s0,0=12");
        due("build()", net.build(), 5);
        due("energy(0)", net.energy(0), 10);
        due("energy(1)", net.energy(1), 20);
        due("linkPart(0, 0)", net.linkPart(0, 0), 1);
        due("linkPart(0, 1)", net.linkPart(0, 1), 0);
        due("linkPart(0, 2)", net.linkPart(0, 2), 7);
        due("sensor(0, 0)", net.sensor(0, 0), 1);
        due("sensor(0, 1)", net.sensor(0, 1), 3);
        due("sensor(0, 2)", net.sensor(0, 2), -7);
        due("sensor(1, 2)", net.sensor(1, 2), 12);
        due("build(), linked already", net.build(), BAD_STATE);
        due("count(0)", net.count(0), 2);
        due("textFault()", net.textFault(), 15);
        due("undo()", net.undo(), 0);
        due("count(0)", net.count(0), 0);
        due("build() again", net.build(), 5);
        due("clearText()", net.clearText(), 36);
        write(net, "n1");
        due("build()", net.build(), 1);
        due("count(0)", net.count(0), 3);
        due("undo()", net.undo(), 1);
    }

    private static void digest() {
        part = "30 digest";
        InterestNet net = asking(3, 100, 3);
        net.addSensor(1, 1, -5);
        net.addSensor(2, 1, 7);
        net.ask(0, 1, -10, 10, 77);
        net.rounds(2);
        long[] numbers = {3, 2, 3, 2, 10, 2, 3, 4, 5, 0, 12 + 2 * 6 + 2 * 9, 0,
            100 - 4 - 4 - 2 - 2, 100 - 4 - 6 - 4 - 6, 100 - 4 - 2 - 4,
            0, 1, 3, 1, 2, 3,
            0, 1, 50, 1, 1, -5, 2, 1, 7,
            2, 1, 0, 100, 100000, 4, 12, 2, 3, 0, 1, 2, 0, 1, 2,
            0, 1, -10, 10, 77, 4, 18, 2, 0, 2, 1, 0, 3, 2, 1, 0};
        long hash = 17;
        for (long number : numbers) {
            hash = 31 * hash + number;
        }
        due("digest()", net.digest(), hash);
        long empty = 17;
        for (int what = 0; what < 12; what++) {
            empty = 31 * empty + (what == 4 ? 10 : 0);
        }
        due("digest() of an empty net", new InterestNet().digest(), empty);
    }
}
