import java.util.function.Supplier;

/** The edges of texts: their length, their numbers, and each place at which a fault may be. */
public final class TextEdgeTest extends Answers {
    public static void main(String[] args) {
        type();
        clearText();
        emptyTexts();
        textsThatEndTooEarly();
        everyByteAtEveryPlace();
        blanks();
        digits();
        energies();
        nodesOfLinks();
        linksThatAreNotPossible();
        delays();
        nodesOfSensors();
        kinds();
        values();
        roomForNodes();
        roomForLinks();
        roomForSensors();
        firstFaultCounts();
        longestTexts();
        buildAddsInOrder();
        buildOfAFault();
        finish();
    }

    /** Three nodes in a row, a sensor, and five states. */
    private static InterestNet three() {
        InterestNet net = row(3, 100, 1);
        net.addSensor(0, 1, 50);
        net.setPeriod(9);
        return net;
    }

    private static InterestNet crowd(int nodes, int links, int sensors) {
        InterestNet net = new InterestNet();
        for (int node = 0; node < nodes; node++) {
            net.addNode(7);
        }
        for (int link = 0; link < links; link++) {
            net.link(link % nodes, (link + 1 + link / nodes) % nodes, 1);
        }
        for (int sensor = 0; sensor < sensors; sensor++) {
            net.addSensor(0, 0, 0);
        }
        return net;
    }

    private static Supplier<InterestNet> with(Supplier<InterestNet> maker, String text) {
        return () -> {
            InterestNet net = maker.get();
            write(net, text);
            return net;
        };
    }

    private static String shown(String text) {
        StringBuilder shown = new StringBuilder();
        for (char sign : text.toCharArray()) {
            shown.append(sign >= 32 && sign < 127 ? "" + sign : "\\" + (int) sign);
        }
        return shown.toString();
    }

    /** The fault of a text, for which build() is refused; nothing is changed by either. */
    private static void dueFault(Supplier<InterestNet> maker, String text, int fault) {
        changesNothing("textFault() of '" + shown(text) + "'", with(maker, text), net -> net.textFault(), fault);
        changesNothing("build() of '" + shown(text) + "'", with(maker, text), net -> net.build(), BAD_STATE);
    }

    private static void dueNoFault(Supplier<InterestNet> maker, String text, int items) {
        changesNothing("textFault() of '" + shown(text) + "'", with(maker, text), net -> net.textFault(), NONE);
        isRecorded("build() of '" + shown(text) + "'", with(maker, text), net -> net.build(), items);
    }

    private static void type() {
        part = "26: code 0 to 255, or BAD_VALUE";
        Supplier<InterestNet> some = with(TextEdgeTest::three, "n5");
        refusesOutside(0, 255, "type(?)", InterestNet::new, (net, code) -> net.type(code), BAD_VALUE);
        refusesOutside(0, 255, "type(?)", some, (net, code) -> net.type(code), BAD_VALUE);
        for (int code = 0; code <= 255; code++) {
            InterestNet net = some.get();
            due("type(" + code + ")", net.type(code), 3);
            due("digest()", net.digest(), three().digest());
            due("undo(), which gives no text back", net.undo(), 4);
            due("clearText()", net.clearText(), 3);
        }
        part = "26: FULL if the text has 120 bytes";
        InterestNet net = new InterestNet();
        for (int length = 1; length <= 120; length++) {
            due("type(32)", net.type(32), length);
        }
        due("type(32)", net.type(32), FULL);
        due("type(0)", net.type(0), FULL);
        due("type(-1)", net.type(-1), BAD_VALUE);
        due("type(256)", net.type(256), BAD_VALUE);
        due("clearText()", net.clearText(), 120);
        due("type(32), there is room again", net.type(32), 1);
    }

    private static void clearText() {
        part = "27: the length that it had";
        for (int length : new int[] {0, 1, 119, 120}) {
            InterestNet net = three();
            write(net, "x".repeat(length));
            long before = net.digest();
            due("clearText()", net.clearText(), length);
            due("clearText() again", net.clearText(), 0);
            due("textFault()", net.textFault(), 0);
            due("digest()", net.digest(), before);
            due("undo(), clearText() is not recorded", net.undo(), 4);
            due("clearText(), undo() brings no text back", net.clearText(), 0);
        }
        InterestNet net = new InterestNet();
        write(net, "n77");
        net.clearText();
        net.type('n');
        due("textFault(), what stood there before is gone", net.textFault(), 1);
        write(net, "n5       ");
        write(net, "n5;");
        due("textFault(), the blanks that stood there are gone", net.textFault(), 3);
    }

    private static void emptyTexts() {
        part = "28: 'or its length with all blanks, if it ends too early (also if it is empty)'";
        for (int length : new int[] {0, 1, 2, 119, 120}) {
            dueFault(InterestNet::new, " ".repeat(length), length);
            dueFault(TextEdgeTest::three, " ".repeat(length), length);
        }
    }

    private static void textsThatEndTooEarly() {
        part = "28: each place at which a text ends too early";
        String[] texts = {"n", "n5;", "0", "0-", "0-2", "0-2:", "0-2:1;", "s", "s0", "s0,", "s0,1", "s0,1=", "s0,1=-",
            "s0,1=1;", "s0,1=-1;", "n5;n"};
        for (String text : texts) {
            for (int blanks : new int[] {0, 1, 5, 120 - text.length()}) {
                dueFault(TextEdgeTest::three, text + " ".repeat(blanks), text.length() + blanks);
            }
        }
    }

    /** Tries each byte behind a text that may go on with some: behind any other the fault is at its place. */
    private static void dueNextBytes(String text, String allowed) {
        for (char sign = 0; sign <= 255; sign++) {
            InterestNet net = three();
            write(net, text + sign);
            boolean isFault = net.textFault() == text.length();
            due("whether '" + shown(text + sign) + "' is faulty at the last byte", isFault ? 1 : 0,
                    allowed.indexOf(sign) >= 0 ? 0 : 1);
        }
    }

    private static void everyByteAtEveryPlace() {
        part = "28: 'the first byte that is not allowed at its place'";
        dueNextBytes("", "ns012 ");
        dueNextBytes(" ", "ns012 ");
        dueNextBytes("n", "123456789 ");
        dueNextBytes("n ", "123456789 ");
        dueNextBytes("n5", "0123456789; ");
        dueNextBytes("n5 ", "; ");
        dueNextBytes("n5;", "ns0123 ");
        dueNextBytes("n5; ", "ns0123 ");
        dueNextBytes("0 ", "- ");
        dueNextBytes("0-", "2 ");
        dueNextBytes("0- ", "2 ");
        dueNextBytes("0-2 ", ": ");
        dueNextBytes("0-2:", "123456789 ");
        dueNextBytes("0-2: ", "123456789 ");
        dueNextBytes("0-2:1 ", "; ");
        dueNextBytes("0-2:1;", "ns012 ");
        dueNextBytes("s", "012 ");
        dueNextBytes("s ", "012 ");
        dueNextBytes("s0 ", ", ");
        dueNextBytes("s0,", "01234567 ");
        dueNextBytes("s0, ", "01234567 ");
        dueNextBytes("s0,1 ", "= ");
        dueNextBytes("s0,1=", "0123456789- ");
        dueNextBytes("s0,1= ", "0123456789- ");
        dueNextBytes("s0,1=-", "0123456789 ");
        dueNextBytes("s0,1=- ", "0123456789 ");
        dueNextBytes("s0,1=5", "0123456789; ");
        dueNextBytes("s0,1=5 ", "; ");
        dueNextBytes("s0,1=-5 ", "; ");
        dueNextBytes("s0,1=-5;", "ns012 ");
        // A sixth digit is not allowed either, but its fault is at the first one.
        dueNextBytes("00000", "0123456789- ");
        dueNextBytes("0-00002", "0123456789: ");
        dueNextBytes("0-2:00001", "0123456789; ");
        dueNextBytes("n00001", "0123456789; ");
        dueNextBytes("s00000", "0123456789, ");
        dueNextBytes("s0,00001", "0123456789= ");
        dueNextBytes("s0,1=00001", "0123456789; ");
        dueNextBytes("s0,1=-00001", "0123456789; ");
    }

    private static void blanks() {
        part = "28: 'blanks (32) may stand anywhere except within numbers (a blank ends a number)'";
        String[] bytes = {"n", "12", ";", "0", "-", "2", ":", "20", ";", "s", "3", ",", "7", "=", "-",
            "100"};
        for (String blanks : new String[] {"", " ", "   "}) {
            dueNoFault(TextEdgeTest::three, blanks + String.join(blanks, bytes) + blanks, 3);
        }
        for (int place = 0; place <= bytes.length; place++) {
            StringBuilder text = new StringBuilder();
            for (int index = 0; index < bytes.length; index++) {
                text.append(index == place ? "    " : "").append(bytes[index]);
            }
            dueNoFault(TextEdgeTest::three, text.append(place == bytes.length ? "    " : "").toString(), 3);
        }
        part = "28: a blank within a number";
        dueFault(TextEdgeTest::three, "n1 2", 3);
        dueFault(TextEdgeTest::three, "n 1  2", 5);
        dueFault(TextEdgeTest::three, "0 0-2:1", 2);
        dueFault(TextEdgeTest::three, "0-0 2:1", 2);
        dueFault(TextEdgeTest::three, "0-2 0:1", 4);
        dueFault(TextEdgeTest::three, "0-2:1 0", 6);
        dueFault(TextEdgeTest::three, "s0 0,1=1", 3);
        dueFault(TextEdgeTest::three, "s0,0 1=1", 5);
        dueFault(TextEdgeTest::three, "s0,1=1 0", 7);
        dueFault(TextEdgeTest::three, "s0,1=-1 0", 8);
        part = "28: no other byte is a blank";
        for (int code : new int[] {0, 9, 10, 13, 31, 33, 160, 255}) {
            dueFault(TextEdgeTest::three, "n5;" + (char) code + "n5", 3);
            dueFault(TextEdgeTest::three, "n" + (char) code + "5", 1);
            dueFault(TextEdgeTest::three, "n5" + (char) code, 2);
        }
    }

    private static void digits() {
        part = "28: 'numbers have 1 to 5 digits (007 is 7)', or 'its first digit, whatever follows'";
        String[] before = {"n", "", "0-", "0-2:", "s", "s0,", "s0,1=", "s0,1=-"};
        String[] behind = {"", "-2:1", ":1", "", ",1=1", "=1", "", ""};
        String[] number = {"1", "0", "2", "1", "2", "7", "0", "100"};
        for (int form = 0; form < before.length; form++) {
            for (int length = number[form].length(); length <= 5; length++) {
                String padded = "0".repeat(length - number[form].length()) + number[form];
                dueNoFault(TextEdgeTest::three, before[form] + padded + behind[form], 1);
            }
            String tooLong = "0".repeat(6 - number[form].length()) + number[form];
            for (String rest : new String[] {behind[form], "", "x", ";", " ", "0000", "0".repeat(60)}) {
                dueFault(TextEdgeTest::three, before[form] + tooLong + rest, before[form].length());
                dueFault(TextEdgeTest::three, before[form] + "   " + tooLong + rest, before[form].length() + 3);
            }
            // What an int would take for a number that is in its range: 2^32 more.
            dueFault(TextEdgeTest::three, before[form] + (4294967296L + Integer.parseInt(number[form])) + behind[form],
                    before[form].length());
        }
    }

    private static void energies() {
        part = "28: an energy of 1 to 10000";
        dueNoFault(InterestNet::new, "n1", 1);
        dueNoFault(InterestNet::new, "n10000", 1);
        for (String energy : new String[] {"0", "00", "00000", "10001", "99999"}) {
            for (String rest : new String[] {"", " ", ";", ";n5", "x"}) {
                dueFault(InterestNet::new, "n" + energy + rest, 1);
                dueFault(InterestNet::new, "n5;n" + energy + rest, 4);
            }
        }
    }

    private static void nodesOfLinks() {
        part = "28: a number that names no node: 'what is there and the items before it count'";
        for (String rest : new String[] {"", " ", "-0:1", "x", ";"}) {
            dueFault(TextEdgeTest::three, "3" + rest, 0);
            dueFault(TextEdgeTest::three, "99999" + rest, 0);
            dueFault(InterestNet::new, "0" + rest, 0);
            dueFault(InterestNet::new, "n5;1" + rest, 3);
        }
        for (String rest : new String[] {"", " ", ":1", "x", ";", "-"}) {
            dueFault(TextEdgeTest::three, "0-3" + rest, 2);
            dueFault(TextEdgeTest::three, "0-99999" + rest, 2);
            dueFault(InterestNet::new, "n5;0-1" + rest, 5);
        }
        dueNoFault(TextEdgeTest::three, "2-0:1", 1);
        dueNoFault(TextEdgeTest::three, "n5;3-0:1", 2);
        dueNoFault(TextEdgeTest::three, "n5;0-3:1", 2);
        dueFault(TextEdgeTest::three, "0-3:1;n5", 2);
        dueNoFault(InterestNet::new, "n5;n5;0-1:1", 3);
        dueFault(InterestNet::new, "n5;0-1:1;n5", 5);
        dueNoFault(() -> crowd(10, 0, 0), "9-0:1", 1);
        dueFault(() -> crowd(10, 0, 0), "9-10:1", 2);
        dueFault(() -> crowd(10, 0, 0), "10-9:1", 0);
    }

    private static void linksThatAreNotPossible() {
        part = "28: 'the second node of a link that is not possible, since both are the same or are linked'";
        for (String rest : new String[] {"", " ", ":1", ":0", "x", ";"}) {
            dueFault(TextEdgeTest::three, "0-0" + rest, 2);
            dueFault(TextEdgeTest::three, "2 - 002" + rest, 4);
            dueFault(TextEdgeTest::three, "0-1" + rest, 2);
            dueFault(TextEdgeTest::three, "1-0" + rest, 2);
            dueFault(TextEdgeTest::three, "0-2:1;0-2" + rest, 8);
            dueFault(TextEdgeTest::three, "0-2:1;2-0" + rest, 8);
            dueFault(TextEdgeTest::three, "n5;0-3:1;3-00" + rest, 11);
        }
        // A link that was cut is possible again.
        Supplier<InterestNet> cut = () -> {
            InterestNet net = three();
            net.cut(0);
            return net;
        };
        dueNoFault(cut, "1-0:1", 1);
        dueFault(cut, "1-0:1;0-1:1", 8);
    }

    private static void delays() {
        part = "28: a delay of 1 to 20";
        dueNoFault(TextEdgeTest::three, "0-2:1", 1);
        dueNoFault(TextEdgeTest::three, "0-2:20", 1);
        for (String delay : new String[] {"0", "000", "21", "99999"}) {
            for (String rest : new String[] {"", " ", ";", "x"}) {
                dueFault(TextEdgeTest::three, "0-2:" + delay + rest, 4);
                dueFault(TextEdgeTest::three, "0-2: " + delay + rest, 5);
            }
        }
        dueFault(TextEdgeTest::three, "0-2:-1", 4);
    }

    private static void nodesOfSensors() {
        part = "28: a sensor at a node that is there, or in the items before it";
        for (String rest : new String[] {"", " ", ",1=1", "x", ";"}) {
            dueFault(TextEdgeTest::three, "s3" + rest, 1);
            dueFault(TextEdgeTest::three, "s 99999" + rest, 2);
            dueFault(InterestNet::new, "s0" + rest, 1);
            dueFault(InterestNet::new, "n5;s1" + rest, 4);
        }
        dueNoFault(TextEdgeTest::three, "s2,1=1", 1);
        dueNoFault(TextEdgeTest::three, "n5;s3,1=1", 2);
        dueFault(TextEdgeTest::three, "s3,1=1;n5", 1);
        dueNoFault(InterestNet::new, "n5;s0,1=1", 2);
        dueFault(TextEdgeTest::three, "s-1,1=1", 1);
    }

    private static void kinds() {
        part = "28: a kind of 0 to 7";
        dueNoFault(TextEdgeTest::three, "s0,0=1", 1);
        dueNoFault(TextEdgeTest::three, "s0,7=1", 1);
        for (String kind : new String[] {"8", "10", "00008", "99999"}) {
            for (String rest : new String[] {"", " ", "=1", "x"}) {
                dueFault(TextEdgeTest::three, "s0," + kind + rest, 3);
                dueFault(TextEdgeTest::three, "s0,  " + kind + rest, 5);
            }
        }
        dueFault(TextEdgeTest::three, "s0,-1=1", 3);
    }

    private static void values() {
        part = "28: a value of -100 to 100";
        String[] texts = {"s0,1=100", "s0,1=-100", "s0,1=0", "s0,1=-0", "s0,1=-00", "s0,1= - 100", "s0,1=-1", "s0,1=1"};
        int[] values = {100, -100, 0, 0, 0, -100, -1, 1};
        for (int index = 0; index < texts.length; index++) {
            dueNoFault(TextEdgeTest::three, texts[index], 1);
            InterestNet net = with(TextEdgeTest::three, texts[index]).get();
            net.build();
            due("sensor(1, 2) of '" + texts[index] + "'", net.sensor(1, 2), values[index]);
        }
        for (String value : new String[] {"101", "00101", "1000", "99999"}) {
            for (String rest : new String[] {"", " ", ";", "x", ";n5"}) {
                dueFault(TextEdgeTest::three, "s0,1=" + value + rest, 5);
                dueFault(TextEdgeTest::three, "s0,1=-" + value + rest, 6);
                dueFault(TextEdgeTest::three, "s0,1=-  " + value + rest, 8);
            }
        }
        dueFault(TextEdgeTest::three, "s0,1=--1", 6);
        dueFault(TextEdgeTest::three, "s0,1=- -1", 7);
        dueFault(TextEdgeTest::three, "s0,1=+1", 5);
    }

    private static void roomForNodes() {
        part = "28: 'for an item for which there is no room its first byte': nodes";
        dueNoFault(() -> crowd(9, 0, 0), "n5", 1);
        for (String rest : new String[] {"", " ", "5", "0", "x", "5;n5"}) {
            dueFault(() -> crowd(10, 0, 0), "n" + rest, 0);
            dueFault(() -> crowd(10, 0, 0), "  n" + rest, 2);
            dueFault(() -> crowd(9, 0, 0), "n5;n" + rest, 3);
            dueFault(() -> crowd(9, 0, 0), "n5 ;  n" + rest, 6);
        }
        dueNoFault(InterestNet::new, "n5" + ";n5".repeat(9), 10);
        dueFault(InterestNet::new, "n5" + ";n5".repeat(10), 30);
        dueNoFault(() -> crowd(10, 0, 0), "s9,1=1;0-1:1", 2);
    }

    private static void roomForLinks() {
        part = "28: 'for an item for which there is no room its first byte': links";
        dueNoFault(() -> crowd(10, 19, 0), "0-5:1", 1);
        for (String rest : new String[] {"", " ", "-5:1", "x", "0000000", "-0"}) {
            dueFault(() -> crowd(10, 20, 0), "0" + rest, 0);
            dueFault(() -> crowd(10, 20, 0), " 99" + rest, 1);
            dueFault(() -> crowd(10, 19, 0), "0-5:1;1" + rest, 6);
            dueFault(() -> crowd(10, 19, 0), "0-5:1 ;  99" + rest, 9);
        }
        dueNoFault(() -> crowd(9, 20, 0), "s8,1=1;n5", 2);
    }

    private static void roomForSensors() {
        part = "28: 'for an item for which there is no room its first byte': sensors";
        dueNoFault(() -> crowd(1, 0, 5), "s0,1=1", 1);
        for (String rest : new String[] {"", " ", "0,1=1", "9", "x"}) {
            dueFault(() -> crowd(1, 0, 6), "s" + rest, 0);
            dueFault(() -> crowd(1, 0, 6), " s" + rest, 1);
            dueFault(() -> crowd(1, 0, 5), "s0,1=1;s" + rest, 7);
            dueFault(() -> crowd(1, 0, 5), "s0,1=1;  s" + rest, 9);
        }
        dueNoFault(InterestNet::new, "n5" + ";s0,0=0".repeat(6), 7);
        dueFault(InterestNet::new, "n5" + ";s0,0=0".repeat(7), 45);
        dueNoFault(() -> crowd(2, 0, 6), "0-1:1;n5", 2);
    }

    private static void firstFaultCounts() {
        part = "28: of several faults the first one";
        dueFault(TextEdgeTest::three, "n5;n0;n0", 4);
        dueFault(TextEdgeTest::three, "3-9:0", 0);
        dueFault(TextEdgeTest::three, "0-9:0", 2);
        dueFault(TextEdgeTest::three, "0-0:0", 2);
        dueFault(TextEdgeTest::three, "0-2:0x", 4);
        dueFault(TextEdgeTest::three, "s9,9=999", 1);
        dueFault(TextEdgeTest::three, "s0,9=999", 3);
        dueFault(TextEdgeTest::three, "n5 x;n0", 3);
        dueFault(TextEdgeTest::three, "n5;;", 3);
        dueFault(TextEdgeTest::three, ";", 0);
    }

    private static void longestTexts() {
        part = "28: texts of 120 bytes";
        dueNoFault(InterestNet::new, "n5" + " ".repeat(118), 1);
        dueNoFault(InterestNet::new, " ".repeat(118) + "n5", 1);
        dueNoFault(InterestNet::new, "n" + " ".repeat(118) + "5", 1);
        dueFault(InterestNet::new, " ".repeat(119) + "n", 120);
        dueFault(InterestNet::new, " ".repeat(119) + "x", 119);
        dueFault(InterestNet::new, "n5" + " ".repeat(117) + ";", 120);
        dueFault(InterestNet::new, "n5" + " ".repeat(117) + "5", 119);
        part = "29: all that may be, by texts alone";
        InterestNet net = new InterestNet();
        StringBuilder text = new StringBuilder("n1" + ";n1".repeat(9));
        for (int link = 0; link < 15; link++) {
            text.append(';').append(link % 10).append('-').append((link + 1 + link / 10) % 10).append(":1");
        }
        write(net, text.toString());
        due("textFault() of " + text.length() + " bytes", net.textFault(), NONE);
        due("build()", net.build(), 25);
        write(net, "5-7:20;6-8:20;7-9:20;8-0:20;9-1:20;s0,0=-100;s1,1=0;s2,2=1;s3,3=-1;s4,6=99;s9,7=100");
        due("textFault()", net.textFault(), NONE);
        due("build()", net.build(), 11);
        due("count(0)", net.count(0), 10);
        due("count(1)", net.count(1), 20);
        due("count(2)", net.count(2), 6);
        due("linkPart(19, 0)", net.linkPart(19, 0), 9);
        due("linkPart(19, 1)", net.linkPart(19, 1), 1);
        due("linkPart(19, 2)", net.linkPart(19, 2), 20);
        due("sensor(5, 0)", net.sensor(5, 0), 9);
        due("sensor(5, 1)", net.sensor(5, 1), 7);
        due("sensor(5, 2)", net.sensor(5, 2), 100);
        due("build() again", net.build(), BAD_STATE);
    }

    private static void buildAddsInOrder() {
        part = "29: 'adds what the text tells, in its order'; 'the text stays'; 'recorded, as one call'";
        InterestNet net = three();
        InterestNet other = three();
        write(net, "n10000;0-3:20;s3,7=-100;n1;s4,0=100;3-4:1;0-2:007");
        due("build()", net.build(), 7);
        other.addNode(10000);
        other.link(0, 3, 20);
        other.addSensor(3, 7, -100);
        other.addNode(1);
        other.addSensor(4, 0, 100);
        other.link(3, 4, 1);
        other.link(0, 2, 7);
        due("digest() of the same by calls", net.digest(), other.digest());
        due("textFault(), the text stays, and is one of links that are there now", net.textFault(), 9);
        due("build()", net.build(), BAD_STATE);
        due("undo()", net.undo(), 4);
        due("digest()", net.digest(), three().digest());
        due("build(), the text stays", net.build(), 7);
        due("digest()", net.digest(), other.digest());
        due("clearText()", net.clearText(), 49);
        part = "29: what is built takes part in rounds";
        InterestNet asked = new InterestNet();
        write(asked, "n9;n9;0-1:4;s1,2=-3");
        asked.build();
        asked.ask(0, 2, -3, -3, 0);
        due("rounds(1)", asked.rounds(1), 1);
        dueWay(asked, 0, 0, 1, 0);
        due("interest(0, 6)", asked.interest(0, 6), 4);
        part = "29: ways and sums stay as they are";
        Supplier<InterestNet> busy = () -> {
            InterestNet some = asking(3, 100, 2);
            some.rounds(3);
            write(some, "n5;s3,1=7");
            return some;
        };
        isRecorded("build()", busy, some -> some.build(), 2);
        InterestNet some = busy.get();
        some.build();
        dueWay(some, 0, 0, 0, 1, 2);
        dueWay(some, 0, 1);
        due("count(5)", some.count(5), 3);
        due("count(7)", some.count(7), 1);
        due("interest(0, 5)", some.interest(0, 5), 3);
    }

    private static void buildOfAFault() {
        part = "29: BAD_STATE if the text has a fault, and none of its items is added";
        dueFault(InterestNet::new, "n5;n5;0-1:1;s0,1=1;x", 19);
        dueFault(TextEdgeTest::three, "n5;n5;0-3:1;s3,1=1;", 19);
        InterestNet net = three();
        write(net, "n5;s3,1=1;n0");
        due("build()", net.build(), BAD_STATE);
        due("count(0)", net.count(0), 3);
        due("count(2)", net.count(2), 1);
        due("energy(3)", net.energy(3), BAD_INDEX);
        net.clearText();
        due("build() of an empty text", net.build(), BAD_STATE);
        due("addNode(6), after what was not added", net.addNode(6), 3);
        due("energy(3)", net.energy(3), 6);
    }
}
