/**
 * Promises 13 to 32: what can be asked of nodes, and the latest levels.
 *
 * Many of these runs send the frame with identifier 0 and length 0: 40 bits of the stuffed part (a stuff
 * bit 1 at 5, 11, 17, 23, 29 and 35, all others 0), the CRC delimiter at 40, the acknowledge slot at 41,
 * its delimiter at 42, the end bits from 43 to 49, the intermission from 50 to 52.
 */
final class NodesTest {
    private static final Check CHECK = new Check();

    public static void main(String[] args) {
        noSuchNode(-1);
        noSuchNode(4);
        noSuchNode(Integer.MIN_VALUE);
        noSuchNode(Integer.MAX_VALUE);
        phaseAndRole();
        counters();
        passive();
        kinds();
        lostArbitrations();
        overloads();
        sentAndWaiting();
        waitingFrames();
        receivedFrames();
        overrunsAndDiscard();
        timeAndLevels();
        CHECK.end();
    }

    private static void due(String what, long got, long want) {
        CHECK.due(what, got, want);
    }

    private static ArbitratedBus withFrame() {
        ArbitratedBus x = new ArbitratedBus();
        x.request(0, 0, false, 0, 0);
        return x;
    }

    private static void noSuchNode(int n) {
        ArbitratedBus x = new ArbitratedBus();
        int no = ArbitratedBus.NO_SUCH_NODE;
        due("13", x.phase(n), no);
        due("14", x.isTransmitter(n), no);
        due("15", x.transmitErrors(n), no);
        due("16", x.receiveErrors(n), no);
        due("17", x.isPassive(n), no);
        due("18", x.errors(n, 1), no);
        due("18 before bad value", x.errors(n, 0), no);
        due("19", x.lastError(n), no);
        due("20", x.lostArbitrations(n), no);
        due("21", x.overloads(n), no);
        due("22", x.sent(n), no);
        due("23", x.overruns(n), no);
        due("24", x.waiting(n), no);
        due("25", x.waitingFrame(n, 0), no);
        due("26", x.received(n), no);
        due("27", x.receivedFrame(n, 0), no);
        due("28", x.receivedLength(n, 0), no);
        due("29", x.receivedData(n, 0), 0);
        due("30", x.discard(n), no);
    }

    private static void phaseAndRole() {
        ArbitratedBus x = withFrame();
        due("13 idle", x.phase(0), ArbitratedBus.IDLE);
        x.run(1);
        due("13 frame", x.phase(0), ArbitratedBus.FRAME);
        due("13 frame of a receiver", x.phase(3), ArbitratedBus.FRAME);
        due("14 transmitter", x.isTransmitter(0), 1);
        due("14 receiver", x.isTransmitter(3), 0);
        x.run(49);
        due("13 intermission", x.phase(0), ArbitratedBus.INTERMISSION);
        due("14 transmitter still", x.isTransmitter(0), 1);
        due("14 receiver still", x.isTransmitter(3), 0);
        x.run(2);
        due("13 third bit is due", x.phase(0), ArbitratedBus.INTERMISSION);
        x.run(1);
        due("13 idle", x.phase(0), ArbitratedBus.IDLE);
        due("14 no role", x.isTransmitter(0), 0);
        x.request(0, 0, false, 0, 0);
        x.disturb(1, 0);
        x.run(1);
        due("13 flag", x.phase(0), ArbitratedBus.FLAG);
        due("14 as transmitter", x.isTransmitter(0), 1);
        x.run(6);
        due("13 delimiter", x.phase(0), ArbitratedBus.DELIMITER);
        due("14 as transmitter", x.isTransmitter(0), 1);
    }

    private static void counters() {
        ArbitratedBus x = withFrame();
        x.disturb(2, 40);
        x.run(41);
        due("16 a receiver", x.receiveErrors(1), 1);
        x.run(2);
        due("15 the transmitter", x.transmitErrors(0), 8);
        due("16 the other receivers", x.receiveErrors(2), 1);
        x.run(5);
        due("16 dominant after the flag", x.receiveErrors(1), 9);
        x.settle();
        due("15 less by the sent frame", x.transmitErrors(0), 7);
        due("16 less by the accepted frame", x.receiveErrors(1), 8);
        due("16 less by the accepted frame", x.receiveErrors(2), 0);
        x.request(0, 0, false, 0, 0);
        x.settle();
        due("15 once more", x.transmitErrors(0), 6);
        due("16 once more", x.receiveErrors(1), 7);
        due("16 not below 0", x.receiveErrors(2), 0);
        x.request(2, 0, false, 0, 0);
        x.settle();
        due("15 not below 0", x.transmitErrors(2), 0);
    }

    private static void passive() {
        ArbitratedBus x = withFrame();
        x.setLimits(8, 200, 1);
        x.disturb(1, 0);
        due("17 not yet", x.isPassive(0), 0);
        x.run(1);
        due("17 by the transmit counter", x.isPassive(0), 1);
        x.setLimits(9, 200, 1);
        due("17 the limit counts", x.isPassive(0), 0);
        ArbitratedBus y = withFrame();
        y.setLimits(9, 200, 1);
        y.disturb(2, 40);
        y.run(48);
        due("17 by the receive counter", y.isPassive(1), 1);
        due("17 others are not", y.isPassive(2), 0);
        y.detach(1);
        due("17 also detached", y.isPassive(1), 1);
    }

    private static void kinds() {
        ArbitratedBus x = withFrame();
        due("18 kind 0", x.errors(0, 0), ArbitratedBus.BAD_VALUE);
        due("18 kind 6", x.errors(0, 6), ArbitratedBus.BAD_VALUE);
        due("18 kind -1", x.errors(0, -1), ArbitratedBus.BAD_VALUE);
        due("19 none", x.lastError(1), ArbitratedBus.NONE);
        x.disturb(2, 5);
        x.run(6);
        due("18 stuff", x.errors(1, ArbitratedBus.STUFF), 1);
        due("19 stuff", x.lastError(1), ArbitratedBus.STUFF);
        x.run(6);
        due("18 bit", x.errors(0, ArbitratedBus.BIT), 1);
        due("18 stuff of the others", x.errors(2, ArbitratedBus.STUFF), 1);
        x.disturb(2, 8);
        x.run(9);
        due("18 form in the delimiter", x.errors(1, ArbitratedBus.FORM), 1);
        due("19 form", x.lastError(1), ArbitratedBus.FORM);
        due("18 stuff stays", x.errors(1, ArbitratedBus.STUFF), 1);
        ArbitratedBus y = withFrame();
        y.disturb(2, 38);
        y.run(42);
        due("18 no CRC error in the slot", y.errors(1, ArbitratedBus.CRC), 0);
        y.run(1);
        due("18 CRC", y.errors(1, ArbitratedBus.CRC), 1);
        due("19 CRC", y.lastError(1), ArbitratedBus.CRC);
        ArbitratedBus z = withFrame();
        z.disturb(1, 41);
        z.run(42);
        due("18 ACK", z.errors(0, ArbitratedBus.ACK), 1);
        due("19 ACK", z.lastError(0), ArbitratedBus.ACK);
        due("18 no other kind", z.errors(0, 1) + z.errors(0, 2) + z.errors(0, 3) + z.errors(0, 4), 0);
    }

    private static void lostArbitrations() {
        ArbitratedBus x = new ArbitratedBus();
        x.request(0, 0x555, false, 0, 0);
        x.request(1, 0x554, false, 0, 0);
        x.request(2, 0x554, true, 0, 0);
        x.request(3, 0x155, false, 0, 0);
        x.run(2);
        due("20 at the first bit", x.lostArbitrations(0) + x.lostArbitrations(1) + x.lostArbitrations(2), 3);
        due("20 the winner has not", x.lostArbitrations(3), 0);
        x.settle();
        due("20 again", x.lostArbitrations(0), 3);
        due("20 once", x.lostArbitrations(1), 1);
        due("20 at the remote bit", x.lostArbitrations(2), 2);
        due("20 all are sent", x.sent(0) + x.sent(1) + x.sent(2) + x.sent(3), 4);
        due("20 no errors", x.lastError(0), ArbitratedBus.NONE);
        due("20 in the order of priority", x.receivedFrame(0, 0), 2 * 0x155);
        due("20 data before remote", x.receivedFrame(0, 1), 2 * 0x554);
        due("20 the remote frame", x.receivedFrame(0, 2), 2 * 0x554 + 1);
        due("20 a loser receives", x.received(2), 3);
    }

    private static void overloads() {
        ArbitratedBus x = withFrame();
        x.disturb(2, 49);
        x.run(50);
        due("21 seventh end bit", x.overloads(1), 1);
        due("13 overload", x.phase(1), ArbitratedBus.OVERLOAD);
        x.run(1);
        due("21 the others follow", x.overloads(0) + x.overloads(2) + x.overloads(3), 3);
        due("12 the rest", x.settle(), 17);
        due("21 no more", x.overloads(1), 1);
        due("15 no error", x.transmitErrors(0), 0);
        due("16 no error", x.receiveErrors(1), 0);
        due("22 sent once", x.sent(0), 1);
    }

    private static void sentAndWaiting() {
        ArbitratedBus x = withFrame();
        x.request(0, 3, true, 0, 0);
        due("24 two", x.waiting(0), 2);
        x.run(49);
        due("22 not yet", x.sent(0), 0);
        due("24 not yet", x.waiting(0), 2);
        x.run(1);
        due("22 sent", x.sent(0), 1);
        due("24 one left", x.waiting(0), 1);
        due("25 the other", x.waitingFrame(0, 0), 7);
        x.settle();
        due("22 both", x.sent(0), 2);
        due("24 none", x.waiting(0), 0);
        due("22 a receiver sends nothing", x.sent(1), 0);
    }

    private static void waitingFrames() {
        ArbitratedBus x = withFrame();
        x.request(0, 2047, true, 0, 0);
        due("25 first", x.waitingFrame(0, 0), 0);
        due("25 second", x.waitingFrame(0, 1), 4095);
        due("25 no third", x.waitingFrame(0, 2), ArbitratedBus.NONE);
        due("25 index -1", x.waitingFrame(0, -1), ArbitratedBus.NONE);
        due("25 index far off", x.waitingFrame(0, Integer.MAX_VALUE), ArbitratedBus.NONE);
        due("25 another node", x.waitingFrame(1, 0), ArbitratedBus.NONE);
    }

    private static void receivedFrames() {
        ArbitratedBus x = new ArbitratedBus();
        x.request(0, 10, false, 4, 0xdeadbeef);
        x.request(0, 11, true, 3, 0);
        x.request(0, 12, false, 0, 0);
        x.settle();
        due("26 three", x.received(1), 3);
        due("26 not its own", x.received(0), 0);
        due("27 oldest", x.receivedFrame(1, 0), 20);
        due("27 remote", x.receivedFrame(1, 1), 23);
        due("27 third", x.receivedFrame(1, 2), 24);
        due("27 no fourth", x.receivedFrame(1, 3), ArbitratedBus.NONE);
        due("27 index -1", x.receivedFrame(1, -1), ArbitratedBus.NONE);
        due("28 four", x.receivedLength(1, 0), 4);
        due("28 of a remote frame", x.receivedLength(1, 1), 3);
        due("28 none", x.receivedLength(1, 2), 0);
        due("28 no fourth", x.receivedLength(1, 3), ArbitratedBus.NONE);
        due("28 index -1", x.receivedLength(1, -1), ArbitratedBus.NONE);
        due("29 four bytes", x.receivedData(1, 0), 0xdeadbeef);
        due("29 of a remote frame", x.receivedData(1, 1), 0);
        due("29 no fourth", x.receivedData(1, 3), 0);
        due("29 index -1", x.receivedData(1, -1), 0);
    }

    private static void overrunsAndDiscard() {
        ArbitratedBus x = new ArbitratedBus();
        due("30 none", x.discard(1), ArbitratedBus.NONE);
        for (int k = 0; k < 8; k++) {
            x.request(0, 100 + k, false, 1, k);
            x.settle();
        }
        due("26 six", x.received(1), 6);
        due("23 two", x.overruns(1), 2);
        due("23 not of the sender", x.overruns(0), 0);
        due("27 the oldest stays", x.receivedFrame(1, 0), 200);
        due("30 five left", x.discard(1), 5);
        due("27 the next is the oldest", x.receivedFrame(1, 0), 202);
        due("29 with its data", x.receivedData(1, 0), 1);
        x.request(0, 5, false, 0, 0);
        x.settle();
        due("26 room again", x.received(1), 6);
        due("23 no overrun", x.overruns(1), 2);
        due("23 but in another node", x.overruns(2), 3);
        due("27 appended", x.receivedFrame(1, 5), 10);
        for (int left = 5; left >= 0; left--) {
            due("30 left", x.discard(1), left);
        }
        due("30 none left", x.discard(1), ArbitratedBus.NONE);
    }

    private static void timeAndLevels() {
        ArbitratedBus x = withFrame();
        due("31 at first", x.time(), 0);
        due("32 back 0", x.level(0), ArbitratedBus.BAD_VALUE);
        due("32 back 257", x.level(257), ArbitratedBus.BAD_VALUE);
        due("32 back -1", x.level(-1), ArbitratedBus.BAD_VALUE);
        due("32 before the beginning", x.level(256), ArbitratedBus.NONE);
        x.run(6);
        due("31 six", x.time(), 6);
        due("32 the stuff bit", x.level(1), 1);
        for (int back = 2; back <= 6; back++) {
            due("32 the zeros", x.level(back), 0);
        }
        due("32 before the beginning", x.level(7), ArbitratedBus.NONE);
        x.settle();
        due("31 all", x.time(), 53);
        for (int k = 0; k < 50; k++) {
            due("32 bit " + k, x.level(53 - k), k == 41 ? 0 : x.frameBit(0, false, 0, 0, k));
        }
        x.run(200);
        due("31 more", x.time(), 253);
        due("32 the first bit", x.level(253), 0);
        due("32 before it", x.level(254), ArbitratedBus.NONE);
        x.run(8);
        due("32 256 ago is the stuff bit", x.level(256), 1);
        x.disturb(1, 0);
        x.run(1);
        due("32 a disturbance is no level", x.level(1), 1);
        due("32 256 ago is the bit after it", x.level(256), 0);
    }
}
