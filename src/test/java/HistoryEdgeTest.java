import java.util.ArrayDeque;
import java.util.Deque;

/** The edges of the history: none, five and more states, what is recorded and what is not. */
public final class HistoryEdgeTest extends Answers {
    public static void main(String[] args) {
        atMostFiveStates();
        statesComeAndGo();
        recordedThoughNothingChanges();
        everythingIsRestored();
        textIsNotRestored();
        undoIsNotRecorded();
        onlyRecordedCallsAreRecorded();
        roundsAndBuildAreOneCall();
        restoredStatesGoOn();
        finish();
    }

    private static void atMostFiveStates() {
        part = "'a history of at most 5 states is kept', 'the oldest one is dropped'";
        for (int recorded = 0; recorded <= 12; recorded++) {
            InterestNet net = new InterestNet();
            for (int call = 0; call < recorded; call++) {
                net.setPeriod(20 + call);
            }
            int states = Math.min(recorded, 5);
            for (int left = states - 1; left >= 0; left--) {
                due("undo() after " + recorded, net.undo(), left);
                int calls = recorded - states + left;
                due("count(4) after " + recorded, net.count(4), calls == 0 ? 10 : 19 + calls);
            }
            due("undo() of an empty history after " + recorded, net.undo(), BAD_STATE);
            due("undo() of an empty history again", net.undo(), BAD_STATE);
            due("count(4)", net.count(4), recorded <= 5 ? 10 : 19 + recorded - 5);
        }
    }

    private static void statesComeAndGo() {
        part = "any run of recorded calls and undo()";
        // Of each pair so many calls are recorded, then so many are undone.
        int[][] runs = {{5, 5, 5, 5, 1, 6}, {6, 1, 1, 5, 1}, {7, 3, 2, 4, 3, 5}, {3, 2, 4, 1, 9, 4, 4, 6}, {1, 1, 1, 2, 1, 1},
            {4, 4, 6, 2, 2, 5}, {12, 4, 1, 1, 4, 5}};
        for (int[] run : runs) {
            InterestNet net = new InterestNet();
            Deque<Integer> periods = new ArrayDeque<>();
            int period = 10;
            int call = 0;
            for (int index = 0; index < run.length; index++) {
                for (int many = 0; many < run[index]; many++) {
                    if (index % 2 == 0) {
                        periods.addLast(period);
                        if (periods.size() > 5) {
                            periods.removeFirst();
                        }
                        call++;
                        due("setPeriod", net.setPeriod(call), period);
                        period = call;
                    } else {
                        due("undo()", net.undo(), periods.isEmpty() ? BAD_STATE : periods.size() - 1);
                        period = periods.isEmpty() ? period : periods.removeLast();
                    }
                    due("count(4)", net.count(4), period);
                }
            }
        }
    }

    private static void recordedThoughNothingChanges() {
        part = "'even if it changes nothing'";
        isRecorded("charge(1, 100)", () -> asking(3, 100, 1), net -> net.charge(1, 100), 100);
        isRecorded("measure(0, 50)", () -> asking(3, 100, 1), net -> net.measure(0, 50), 50);
        isRecorded("setPeriod(10)", () -> asking(3, 100, 1), net -> net.setPeriod(10), 10);
        isRecorded("setPeriod(10)", InterestNet::new, net -> net.setPeriod(10), 10);
        InterestNet net = new InterestNet();
        net.addNode(5);
        for (int call = 0; call < 5; call++) {
            due("setPeriod(10)", net.setPeriod(10), 10);
        }
        for (int left = 4; left >= 0; left--) {
            due("undo()", net.undo(), left);
        }
        due("count(0), the state before addNode(5) was dropped", net.count(0), 1);
        due("undo()", net.undo(), BAD_STATE);
    }

    /** All that can be asked of a net with four nodes, three links, two sensors and two interests. */
    private static long[] all(InterestNet net) {
        long[] all = new long[80];
        int size = 0;
        for (int what = 0; what < 12; what++) {
            all[size++] = net.count(what);
        }
        for (int index = 0; index < 5; index++) {
            all[size++] = net.energy(index);
            all[size++] = net.load(index);
            all[size++] = net.quickest(0, index);
            for (int what = 0; what < 3; what++) {
                all[size++] = net.linkPart(index, what);
            }
        }
        for (int index = 0; index < 2; index++) {
            for (int what = 0; what < 8; what++) {
                all[size++] = what < 3 ? net.sensor(index, what) : 0;
                all[size++] = net.interest(index, what);
            }
        }
        all[size++] = net.isWhole(0, 0);
        all[size++] = net.isWhole(1, 1);
        all[size++] = net.digest();
        return all;
    }

    private static InterestNet busy() {
        InterestNet net = row(4, 100, 3);
        net.addSensor(0, 1, 50);
        net.addSensor(3, 2, -5);
        net.ask(3, 1, 0, 100, 4);
        net.ask(0, 2, -10, 10, 40);
        net.rounds(3);
        return net;
    }

    private static void everythingIsRestored() {
        part = "'the whole state (all but the text)'";
        Call[] calls = {net -> net.addNode(1), net -> net.charge(1, 0), net -> net.link(0, 2, 20), net -> net.cut(0),
            net -> net.addSensor(1, 7, 100), net -> net.measure(0, -100), net -> net.ask(1, 1, 0, 100, 3),
            net -> net.withdraw(0), net -> net.setPeriod(1), net -> net.rounds(100), net -> net.build()};
        long[] want = all(busy());
        for (int call = 0; call < calls.length; call++) {
            InterestNet net = busy();
            write(net, "n5;4-0:1;s4,1=1");
            due("call " + call + " is possible", calls[call].on(net) >= -100 ? 1 : 0, 1);
            due("undo() of call " + call, net.undo(), 4);
            long[] got = all(net);
            for (int index = 0; index < want.length; index++) {
                due("answer " + index + " after undo() of call " + call, got[index], want[index]);
            }
            dueWay(net, 0, 0, 0, 1, 2, 3);
            dueWay(net, 1, 1, 3, 2, 1, 0);
        }
    }

    private static void textIsNotRestored() {
        part = "'all but the text'";
        InterestNet net = new InterestNet();
        net.addNode(5);
        write(net, "n7");
        due("undo()", net.undo(), 0);
        due("build()", net.build(), 1);
        due("energy(0)", net.energy(0), 7);
        net.clearText();
        due("undo()", net.undo(), 0);
        due("clearText(), which stays empty", net.clearText(), 0);
    }

    private static void undoIsNotRecorded() {
        part = "undo() is not recorded";
        InterestNet net = new InterestNet();
        net.setPeriod(1);
        net.setPeriod(2);
        due("undo()", net.undo(), 1);
        due("count(4)", net.count(4), 1);
        due("undo()", net.undo(), 0);
        due("count(4)", net.count(4), 10);
        due("undo()", net.undo(), BAD_STATE);
        due("count(4)", net.count(4), 10);
    }

    private static void onlyRecordedCallsAreRecorded() {
        part = "calls that are not said to be recorded";
        Call[] calls = {net -> net.count(5), net -> net.energy(0), net -> net.linkPart(0, 0), net -> net.sensor(0, 0),
            net -> net.interest(0, 0), net -> net.wayLength(0, 0), net -> net.wayNode(0, 0, 0), net -> net.isWhole(0, 0),
            net -> net.quickest(0, 1), net -> net.load(0), net -> net.firstDeath(), net -> net.willDeliver(1),
            net -> net.willDeliver(500), net -> net.bestPeriod(1), net -> net.bestPeriod(200), net -> net.textFault(),
            net -> net.digest()};
        // In each state: before the first round, between multiples of the period, and with an interest that ends.
        for (int rounds = 0; rounds <= 12; rounds++) {
            int done = rounds;
            for (Call call : calls) {
                InterestNet net = busyFor(done);
                long want = call.on(net);
                changesNothing("a question after " + done + " rounds", () -> busyFor(done), call, want);
            }
        }
        InterestNet net = new InterestNet();
        net.type('n');
        net.clearText();
        due("undo()", net.undo(), BAD_STATE);
    }

    private static InterestNet busyFor(int rounds) {
        InterestNet net = busy();
        for (int round = 0; round < rounds; round++) {
            net.rounds(1);
        }
        return net;
    }

    private static void roundsAndBuildAreOneCall() {
        part = "'recorded, as one call'";
        InterestNet net = busy();
        long before = net.digest();
        net.rounds(100);
        due("undo()", net.undo(), 4);
        due("digest()", net.digest(), before);
        due("count(5)", net.count(5), 3);
        due("count(3), the interests that ended are back", net.count(3), 2);
        due("count(11)", net.count(11), 0);
        write(net, "n1;n2;n3;4-5:1;s6,1=1");
        due("build()", net.build(), 5);
        due("undo()", net.undo(), 4);
        due("digest()", net.digest(), before);
    }

    private static void restoredStatesGoOn() {
        part = "what is restored goes on as it would have gone";
        InterestNet net = busy();
        net.rounds(7);
        net.undo();
        net.cut(1);
        net.undo();
        net.withdraw(0);
        net.undo();
        InterestNet other = busy();
        for (int round = 0; round < 20; round++) {
            due("rounds(1)", net.rounds(1), other.rounds(1));
            due("digest()", net.digest(), other.digest());
        }
    }
}
