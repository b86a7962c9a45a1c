import java.util.function.Supplier;

/** What the tests share: answers that are due, and calls that must leave everything as it was. */
abstract class Answers {
    static final int NONE = -1000, BAD_INDEX = -1001, BAD_VALUE = -1002, BAD_STATE = -1003, FULL = -1004;

    /** What is being tested, for the lines that tell a wrong answer. */
    static String part = "";

    private static int wrong = 0;

    interface Call {
        long on(InterestNet net);
    }

    interface CallWith {
        long on(InterestNet net, int argument);
    }

    static void due(String call, long got, long want) {
        if (got != want) {
            wrong++;
            System.out.println(part + ": " + call + " answered " + got + ", due is " + want);
        }
    }

    static void finish() {
        System.out.println(wrong == 0 ? "all answers are as due" : wrong + " answers are not as due");
        if (wrong != 0) {
            System.exit(1);
        }
    }

    /** A call that is refused, or that only asks: state, text and history must be those of a net without it. */
    static void changesNothing(String call, Supplier<InterestNet> maker, Call method, long want) {
        InterestNet net = maker.get();
        InterestNet without = maker.get();
        due(call, method.on(net), want);
        due("digest() after " + call, net.digest(), without.digest());
        dueSameText(call, net, without);
        dueSameHistory(call, net, without, 0);
    }

    /** A call that is recorded: one undo() must bring back a net without it, and the oldest of five states is gone. */
    static void isRecorded(String call, Supplier<InterestNet> maker, Call method, long want) {
        InterestNet net = maker.get();
        InterestNet without = maker.get();
        int kept = Math.min(statesOf(maker.get()), 4);
        due(call, method.on(net), want);
        due("undo() of " + call, net.undo(), kept);
        due("digest() after undo() of " + call, net.digest(), without.digest());
        dueSameText(call, net, without);
        dueSameHistory(call, net, without, statesOf(maker.get()) - kept);
    }

    /** Refuses what is out of a range, next to it on both sides and far from it; the argument stands as ? in the call. */
    static void refusesOutside(int low, int high, String call, Supplier<InterestNet> maker, CallWith method, long error) {
        for (int argument : new int[] {low - 1, high + 1, Integer.MIN_VALUE, Integer.MAX_VALUE}) {
            changesNothing(call.replace("?", "" + argument), maker, net -> method.on(net, argument), error);
        }
    }

    private static int statesOf(InterestNet net) {
        int states = 0;
        // Five are the most; a wrong history must not keep the test from ending.
        while (states < 6 && net.undo() >= 0) {
            states++;
        }
        return states;
    }

    private static void dueSameHistory(String call, InterestNet net, InterestNet without, int gone) {
        int most = 6;
        for (int left = without.undo(); left >= gone && most > 0; left = without.undo()) {
            due("undo() after " + call, net.undo(), left - gone);
            due("digest() after undo() after " + call, net.digest(), without.digest());
            most--;
        }
        due("the last undo() after " + call, net.undo(), BAD_STATE);
    }

    private static void dueSameText(String call, InterestNet net, InterestNet without) {
        due("textFault() after " + call, net.textFault(), without.textFault());
        due("clearText() after " + call, net.clearText(), without.clearText());
    }

    static void write(InterestNet net, String text) {
        net.clearText();
        for (int index = 0; index < text.length(); index++) {
            net.type(text.charAt(index));
        }
    }

    static void dueWay(InterestNet net, int interest, int sensor, int... nodes) {
        due("wayLength(" + interest + ", " + sensor + ")", net.wayLength(interest, sensor), nodes.length);
        for (int index = 0; index < nodes.length; index++) {
            due("wayNode(" + interest + ", " + sensor + ", " + index + ")", net.wayNode(interest, sensor, index),
                    nodes[index]);
        }
    }

    /** Nodes of the given energy in a row: 0-1-2-.. with the given delay. */
    static InterestNet row(int nodes, int energy, int delay) {
        InterestNet net = new InterestNet();
        for (int node = 0; node < nodes; node++) {
            net.addNode(energy);
        }
        for (int node = 1; node < nodes; node++) {
            net.link(node - 1, node, delay);
        }
        return net;
    }

    /** A row with a sensor of kind 1 and value 50 at its first node, and an interest in it at its last one. */
    static InterestNet asking(int nodes, int energy, int delay) {
        InterestNet net = row(nodes, energy, delay);
        net.addSensor(0, 1, 50);
        net.ask(nodes - 1, 1, 0, 100, 100000);
        return net;
    }
}
