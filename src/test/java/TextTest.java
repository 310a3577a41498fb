/** Promises 43 to 46: the text, its faults, and the requests that it asks for. */
final class TextTest {
    private static final Check CHECK = new Check();

    public static void main(String[] args) {
        append();
        clear();
        faultless();
        faults();
        loadRequests();
        loadWithoutRoom();
        loadFaults();
        CHECK.end();
    }

    private static void due(String what, long got, long want) {
        CHECK.due(what, got, want);
    }

    private static ArbitratedBus with(String text) {
        ArbitratedBus x = new ArbitratedBus();
        for (int k = 0; k < text.length(); k++) {
            x.append(text.charAt(k));
        }
        return x;
    }

    private static void append() {
        ArbitratedBus x = new ArbitratedBus();
        due("43 letter -1", x.append(-1), ArbitratedBus.BAD_VALUE);
        due("43 letter 128", x.append(128), ArbitratedBus.BAD_VALUE);
        due("43 letter 0", x.append(0), 1);
        due("43 letter 127", x.append(127), 2);
        for (int k = 3; k <= 120; k++) {
            due("43 more", x.append('0'), k);
        }
        due("43 full", x.append('0'), ArbitratedBus.FULL);
        due("43 bad value before full", x.append(200), ArbitratedBus.BAD_VALUE);
    }

    private static void clear() {
        ArbitratedBus x = with("0:1");
        due("44 length", x.clearText(), 3);
        due("44 empty", x.clearText(), 0);
        due("45 no fault", x.faultPosition(), ArbitratedBus.NONE);
        due("43 from the beginning", x.append('0'), 1);
    }

    private static void faultless() {
        String[] texts = {"", "0:000#;", "3:7ff#R4;", "1:0a9#R0;", "2:7af#00;", "0:123#abcd;", "0:123#012345;",
            "0:123#89abcdef;", "0:000#;1:001#ff;2:002#R2;3:003#00000000;", "0:000#;".repeat(17)};
        for (String text : texts) {
            due("45 " + text, with(text).faultPosition(), ArbitratedBus.NONE);
        }
    }

    private static void faults() {
        fault("4:000#;", 0);
        fault(" ", 0);
        fault(";", 0);
        fault("0;", 1);
        fault("0:800#;", 2);
        fault("0:f00#;", 2);
        fault("0:A", 2);
        fault("0:7g0#;", 3);
        fault("0:7F0#;", 3);
        fault("0:70:", 4);
        fault("0:00#;", 4);
        fault("0:0000#;", 5);
        fault("0:000;", 5);
        fault("0:000#0;", 7);
        fault("0:000#012;", 9);
        fault("0:000#01234567;", -1);
        fault("0:000#0123456;", 13);
        fault("0:000#012345678;", 14);
        fault("0:000#r0;", 6);
        fault("0:000#R;", 7);
        fault("0:000#R5;", 7);
        fault("0:000#R44;", 8);
        fault("0:000#0R4;", 7);
        fault("0:000#00R4;", 8);
        fault("0:000#AB;", 6);
        fault("0:000#; 1:000#;", 7);
        fault("0:000#;;", 7);
        fault("0:000#;5:", 7);
        fault("0:000#\u0000;", 6);
        String whole = "0:1a2#0b;3:7ff#R4;";
        for (int n = 0; n < whole.length(); n++) {
            boolean ends = n == 0 || whole.charAt(n - 1) == ';';
            due("45 ends too early", with(whole.substring(0, n)).faultPosition(), ends ? ArbitratedBus.NONE : n);
        }
    }

    private static void fault(String text, int position) {
        due("45 " + text, with(text).faultPosition(), position < 0 ? ArbitratedBus.NONE : position);
        due("46 " + text, with(text).load(), position < 0 ? 1 : -1000 - position);
    }

    private static void loadRequests() {
        ArbitratedBus x = with("2:7ff#deadbeef;0:123#R3;2:00f#0102;2:00f#;3:1ab#0c;");
        due("46 five", x.load(), 5);
        due("46 node 0", x.waitingFrame(0, 0), 2 * 0x123 + 1);
        due("46 node 1", x.waiting(1), 0);
        due("46 node 2", x.waiting(2), 3);
        due("46 in order", x.waitingFrame(2, 2), 2 * 0x7ff);
        due("46 node 3", x.waitingFrame(3, 0), 2 * 0x1ab);
        x.settle();
        due("46 first", x.receivedData(1, 0), 0x0102);
        due("46 its length", x.receivedLength(1, 0), 2);
        due("46 no bytes", x.receivedLength(1, 1), 0);
        due("46 the remote frame", x.receivedLength(1, 2), 3);
        due("46 one byte", x.receivedData(1, 3), 0x0c);
        due("46 four bytes", x.receivedData(1, 4), 0xdeadbeef);
        due("46 four bytes", x.receivedLength(1, 4), 4);
        due("46 the text stays", x.load(), 5);
        due("46 empty", new ArbitratedBus().load(), 0);
    }

    private static void loadWithoutRoom() {
        ArbitratedBus x = with("0:000#;0:001#;0:002#;0:003#;0:004#;1:005#;0:006#;");
        due("46 those with room", x.load(), 5);
        due("46 node 0 is full", x.waiting(0), 4);
        due("46 the first four", x.waitingFrame(0, 3), 6);
        due("46 node 1", x.waiting(1), 1);
        due("46 again", x.load(), 1);
    }

    private static void loadFaults() {
        ArbitratedBus x = with("0:000#;0:001#");
        due("46 ends too early", x.load(), -1013);
        due("46 nothing is requested", x.waiting(0), 0);
        due("45 the fault", x.faultPosition(), 13);
        x.append(';');
        due("46 mended", x.load(), 2);
    }
}
