/** The six examples of the document. */
final class ExamplesTest {
    private static final Check CHECK = new Check();

    public static void main(String[] args) {
        arbitration();
        nodeWithoutPartners();
        framesBitByBit();
        answer();
        disturbedBit();
        responseTimes();
        CHECK.end();
    }

    private static void due(String what, long got, long want) {
        CHECK.due(what, got, want);
    }

    private static void arbitration() {
        ArbitratedBus x = new ArbitratedBus();
        due("1 request", x.request(0, 291, false, 2, 4660), 1);
        due("1 request", x.request(1, 256, false, 1, 255), 1);
        due("1 winner", x.winner(), 1);
        due("1 bitsUntilSent", x.bitsUntilSent(0), 120);
        due("1 settle", x.settle(), 123);
        due("1 lostArbitrations", x.lostArbitrations(0), 1);
        due("1 receivedFrame", x.receivedFrame(2, 0), 512);
        due("1 receivedFrame", x.receivedFrame(2, 1), 582);
        due("1 receivedData", x.receivedData(2, 1), 4660);
        due("1 request of no node", x.request(4, 1, false, 0, 0), -1);
        due("1 remote request with data", x.request(0, 1, true, 0, 1), -2);
    }

    private static void nodeWithoutPartners() {
        ArbitratedBus x = new ArbitratedBus();
        due("2 detach", x.detach(1), 3);
        due("2 detach", x.detach(2), 3);
        due("2 detach", x.detach(3), 3);
        due("2 detach again", x.detach(3), -4);
        due("2 request", x.request(0, 5, false, 0, 0), 1);
        due("2 run", x.run(60), 0);
        due("2 errors", x.errors(0, 5), 1);
        due("2 transmitErrors", x.transmitErrors(0), 8);
        due("2 phase", x.phase(0), 4);
        due("2 attach", x.attach(1), 2);
        due("2 settle", x.settle(), 102);
        due("2 sent", x.sent(0), 1);
        due("2 received", x.received(1), 1);
        due("2 transmitErrors", x.transmitErrors(0), 15);
    }

    private static void framesBitByBit() {
        ArbitratedBus x = new ArbitratedBus();
        due("3 crc", x.crc(0, false, 0, 0), 0);
        due("3 frameBits", x.frameBits(0, false, 0, 0), 50);
        due("3 frameBits", x.frameBits(291, false, 2, 4660), 61);
        due("3 frameBit", x.frameBit(0, false, 0, 0, 5), 1);
        due("3 frameBit", x.frameBit(0, false, 0, 0, 99), -5);
        due("3 worstBits", x.worstBits(0), 55);
        due("3 frameBits", x.frameBits(1, false, 1, 256), -2);
    }

    private static void answer() {
        ArbitratedBus x = new ArbitratedBus();
        due("4 setAnswer", x.setAnswer(2, 64, 2, 513), 1);
        due("4 request", x.request(0, 64, true, 2, 0), 1);
        due("4 settle", x.settle(), 119);
        due("4 received", x.received(0), 1);
        due("4 receivedFrame", x.receivedFrame(0, 0), 128);
        due("4 receivedData", x.receivedData(0, 0), 513);
        due("4 received", x.received(1), 2);
        due("4 received", x.received(2), 0);
        due("4 sent", x.sent(2), 1);
    }

    private static void disturbedBit() {
        ArbitratedBus x = new ArbitratedBus();
        due("5 request", x.request(0, 100, false, 1, 170), 1);
        due("5 disturb", x.disturb(2, 20), 1);
        due("5 run", x.run(30), 0);
        due("5 errors", x.errors(1, 2), 0);
        due("5 errors", x.errors(0, 1), 0);
        due("5 phase", x.phase(0), 4);
        due("5 settle", x.settle(), 90);
        due("5 sent", x.sent(0), 1);
        due("5 receiveErrors", x.receiveErrors(1), 8);
        due("5 transmitErrors", x.transmitErrors(0), 7);
    }

    private static void responseTimes() {
        ArbitratedBus x = new ArbitratedBus();
        due("6 addMessage", x.addMessage(1, 4, 500, 0), 1);
        due("6 addMessage", x.addMessage(3, 0, 150, 0), 2);
        due("6 responseTime", x.responseTime(1), 150);
        due("6 responseTime", x.responseTime(3), 150);
        due("6 addMessage", x.addMessage(1, 4, 60, 0), 2);
        due("6 responseTime", x.responseTime(1), -5);
        due("6 misses", x.misses(), 2);
        due("6 responseTime", x.responseTime(2), -2);
    }
}
