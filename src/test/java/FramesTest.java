/** Promises 8 to 12: requests, cancelling, disturbances, and how time passes. */
final class FramesTest {
    private static final Check CHECK = new Check();

    public static void main(String[] args) {
        request();
        requestOrder();
        requestWhileSending();
        cancel();
        cancelWhileSending();
        disturb();
        disturbTwice();
        disturbancesPass();
        disturbancesKeepTheirNodes();
        run();
        runCountsSent();
        settle();
        settleWithoutEnd();
        settleWithNodesApart();
        CHECK.end();
    }

    private static void due(String what, long got, long want) {
        CHECK.due(what, got, want);
    }

    private static void request() {
        ArbitratedBus x = new ArbitratedBus();
        due("8 no node before bad value", x.request(-1, -1, false, 9, 9), ArbitratedBus.NO_SUCH_NODE);
        due("8 node 4", x.request(4, 0, false, 0, 0), ArbitratedBus.NO_SUCH_NODE);
        due("8 identifier -1", x.request(0, -1, false, 0, 0), ArbitratedBus.BAD_VALUE);
        due("8 identifier 2048", x.request(0, 2048, false, 0, 0), ArbitratedBus.BAD_VALUE);
        due("8 length -1", x.request(0, 0, false, -1, 0), ArbitratedBus.BAD_VALUE);
        due("8 length 5", x.request(0, 0, false, 5, 0), ArbitratedBus.BAD_VALUE);
        for (int length = 0; length < 4; length++) {
            due("8 a bit too high", x.request(0, 0, false, length, 1 << (8 * length)), ArbitratedBus.BAD_VALUE);
            due("8 the sign bit", x.request(0, 0, false, length, Integer.MIN_VALUE), ArbitratedBus.BAD_VALUE);
        }
        due("8 remote with data", x.request(0, 0, true, 4, 1), ArbitratedBus.BAD_VALUE);
        due("8 nothing requested", x.waiting(0), 0);
        due("8 four bytes", x.request(0, 2047, false, 4, -1), 1);
        due("8 three bytes", x.request(0, 0, false, 3, 0xffffff), 2);
        due("8 remote", x.request(0, 0, true, 4, 0), 3);
        due("8 fourth", x.request(0, 1, false, 0, 0), 4);
        due("8 bad value before full", x.request(0, 1, false, 0, 1), ArbitratedBus.BAD_VALUE);
        due("8 full", x.request(0, 1, false, 0, 0), ArbitratedBus.FULL);
        due("8 another node", x.request(1, 1, false, 0, 0), 1);
        due("8 a detached node too", x.detach(2) + x.request(2, 1, false, 0, 0), ArbitratedBus.IDLE + 1);
    }

    private static void requestOrder() {
        ArbitratedBus x = new ArbitratedBus();
        x.request(0, 9, true, 1, 0);
        x.request(0, 9, false, 1, 1);
        x.request(0, 9, false, 1, 2);
        x.request(0, 8, true, 2, 0);
        due("8 the lowest identifier first", x.waitingFrame(0, 0), 17);
        due("8 data before remote", x.waitingFrame(0, 1), 18);
        due("8 data before remote", x.waitingFrame(0, 2), 18);
        due("8 remote last", x.waitingFrame(0, 3), 19);
        x.settle();
        due("8 sent in this order", x.receivedFrame(1, 0), 17);
        due("8 equal ones by time", x.receivedData(1, 1), 1);
        due("8 equal ones by time", x.receivedData(1, 2), 2);
        due("8 remote last", x.receivedFrame(1, 3), 19);
    }

    private static void requestWhileSending() {
        ArbitratedBus x = new ArbitratedBus();
        x.request(0, 0x555, false, 4, 0x55555555);
        x.run(30);
        due("8 a lower one comes before", x.request(0, 1, false, 1, 7), 2);
        due("8 it is the first", x.waitingFrame(0, 0), 2);
        x.settle();
        due("8 the frame on the bus goes on", x.receivedFrame(1, 0), 2 * 0x555);
        due("8 its data", x.receivedData(1, 0), 0x55555555);
        due("8 the lower one follows", x.receivedFrame(1, 1), 2);
        due("8 its data", x.receivedData(1, 1), 7);
        due("8 each is sent once", x.sent(0), 2);
        x.request(0, 0x555, false, 0, 0);
        x.run(6);
        x.request(0, 1, false, 0, 0);
        x.disturb(1, 0);
        x.run(1);
        due("8 after an error the role stays", x.isTransmitter(0), 1);
        x.settle();
        due("8 after an error the first is sent", x.receivedFrame(1, 2), 2);
        due("8 then the other", x.receivedFrame(1, 3), 2 * 0x555);
    }

    private static void cancel() {
        ArbitratedBus x = new ArbitratedBus();
        due("9 node -1", x.cancel(-1, 0), ArbitratedBus.NO_SUCH_NODE);
        due("9 node 4", x.cancel(4, 0), ArbitratedBus.NO_SUCH_NODE);
        due("9 nothing there", x.cancel(0, 0), 0);
        x.request(0, 5, true, 0, 0);
        x.request(0, 5, false, 0, 0);
        x.request(0, 5, false, 1, 1);
        x.request(0, 4, false, 0, 0);
        due("9 another identifier", x.cancel(0, 6), 0);
        due("9 no identifier at all", x.cancel(0, -7), 0);
        due("9 all of them", x.cancel(0, 5), 3);
        due("9 the rest stays", x.waitingFrame(0, 0), 8);
        due("9 only the rest", x.waiting(0), 1);
    }

    private static void cancelWhileSending() {
        ArbitratedBus x = new ArbitratedBus();
        x.request(0, 5, true, 2, 0);
        x.run(1);
        x.request(0, 5, false, 1, 1);
        x.request(0, 5, true, 3, 0);
        x.request(0, 4, false, 0, 0);
        due("9 all but the one on the bus", x.cancel(0, 5), 2);
        due("9 two left", x.waiting(0), 2);
        due("9 cancel a lower one", x.cancel(0, 4), 1);
        due("9 the one on the bus stays", x.waitingFrame(0, 0), 11);
        x.settle();
        due("9 it is sent", x.sent(0), 1);
        due("9 it was that one", x.receivedLength(1, 0), 2);
        due("9 nothing waits", x.waiting(0), 0);
        x.request(0, 0x555, false, 0, 0);
        x.disturb(1, 2);
        x.run(3);
        due("9 in the flag it is not being sent", x.phase(0), ArbitratedBus.FLAG);
        due("9 so it can be cancelled", x.cancel(0, 0x555), 1);
        x.settle();
        x.request(0, 0x555, false, 0, 0);
        x.request(1, 0, false, 0, 0);
        x.run(10);
        due("9 a loser is no transmitter", x.isTransmitter(0), 0);
        due("9 so it can be cancelled", x.cancel(0, 0x555), 1);
    }

    private static void disturb() {
        ArbitratedBus x = new ArbitratedBus();
        due("10 no nodes", x.disturb(0, 0), ArbitratedBus.BAD_VALUE);
        due("10 nodes 16", x.disturb(16, 0), ArbitratedBus.BAD_VALUE);
        due("10 nodes -1", x.disturb(-1, 0), ArbitratedBus.BAD_VALUE);
        due("10 delay -1", x.disturb(1, -1), ArbitratedBus.BAD_VALUE);
        due("10 delay 201", x.disturb(1, 201), ArbitratedBus.BAD_VALUE);
        due("10 delay 200", x.disturb(15, 200), 1);
        due("10 the next bit time", x.disturb(8, 0), 2);
        for (int k = 3; k <= 8; k++) {
            due("10 more", x.disturb(1, 100), k);
        }
        due("10 full", x.disturb(1, 0), ArbitratedBus.FULL);
        due("10 bad value before full", x.disturb(0, 0), ArbitratedBus.BAD_VALUE);
        x.run(1);
        due("10 node 3 began a frame", x.phase(3), ArbitratedBus.FRAME);
        due("10 no other did", x.phase(0) + x.phase(1) + x.phase(2), 3 * ArbitratedBus.IDLE);
        due("10 the level is not changed", x.level(1), 1);
        due("10 room again", x.disturb(1, 0), 8);
    }

    private static void disturbTwice() {
        ArbitratedBus x = new ArbitratedBus();
        x.disturb(3, 4);
        x.run(2);
        due("10 the same bit time", x.disturb(6, 2), 2);
        x.run(2);
        due("10 not yet", x.phase(1), ArbitratedBus.IDLE);
        x.run(1);
        due("10 node 0", x.phase(0), ArbitratedBus.FRAME);
        due("10 node 1 is inverted once", x.phase(1), ArbitratedBus.FRAME);
        due("10 node 2", x.phase(2), ArbitratedBus.FRAME);
        due("10 node 3", x.phase(3), ArbitratedBus.IDLE);
        ArbitratedBus y = new ArbitratedBus();
        y.detach(1);
        y.disturb(2, 0);
        y.run(1);
        due("10 a detached node does not sample", y.phase(1), ArbitratedBus.DETACHED);
    }

    private static void disturbancesPass() {
        ArbitratedBus x = new ArbitratedBus();
        x.disturb(1, 0);
        x.disturb(1, 3);
        x.disturb(1, 199);
        x.run(1);
        due("10 one has passed", x.disturb(1, 150), 3);
        x.run(2);
        due("10 none more", x.disturb(1, 150), 4);
        x.run(1);
        due("10 two have passed", x.disturb(1, 150), 4);
        x.run(195);
        due("10 the last of the early ones is next", x.disturb(1, 0), 2);
        x.run(1);
        due("10 all have passed", x.disturb(1, 0), 1);
    }

    private static void disturbancesKeepTheirNodes() {
        ArbitratedBus x = new ArbitratedBus();
        x.detach(3);
        x.disturb(8, 0);
        x.disturb(2, 1);
        x.disturb(4, 1);
        x.run(2);
        due("10 node 0", x.phase(0), ArbitratedBus.IDLE);
        due("10 node 1", x.phase(1), ArbitratedBus.FRAME);
        due("10 node 2", x.phase(2), ArbitratedBus.FRAME);
    }

    private static void run() {
        ArbitratedBus x = new ArbitratedBus();
        due("11 bits 0", x.run(0), ArbitratedBus.BAD_VALUE);
        due("11 bits -1", x.run(-1), ArbitratedBus.BAD_VALUE);
        due("11 bits 201", x.run(201), ArbitratedBus.BAD_VALUE);
        due("11 no time passed", x.time(), 0);
        due("11 bits 1", x.run(1), 0);
        due("11 bits 200", x.run(200), 0);
        due("11 time", x.time(), 201);
    }

    private static void runCountsSent() {
        ArbitratedBus x = new ArbitratedBus();
        x.request(0, 0, false, 0, 0);
        due("11 before the last end bit", x.run(49), 0);
        due("11 the last end bit", x.run(1), 1);
        x.settle();
        for (int k = 0; k < 4; k++) {
            x.request(k, k, false, 0, 0);
        }
        int three = 6;
        for (int k = 0; k < 3; k++) {
            three += x.frameBits(k, false, 0, 0);
        }
        due("11 two", x.run(three - 1), 2);
        due("11 the third", x.run(1), 1);
        due("11 the fourth", x.run(200), 1);
        x.request(0, 7, false, 1, 1);
        x.request(1, 7, false, 1, 1);
        due("11 the same frame from two nodes", x.run(100), 2);
        due("11 each has sent it", x.sent(0) + x.sent(1), 5);
        due("11 it comes once", x.received(3), 5);
    }

    private static void settle() {
        ArbitratedBus x = new ArbitratedBus();
        due("12 nothing to do", x.settle(), 0);
        x.request(0, 0, false, 0, 0);
        due("12 the frame and the intermission", x.settle(), 53);
        due("12 time", x.time(), 53);
        x.request(0, 0, false, 0, 0);
        x.run(52);
        due("12 the last bit of the intermission", x.settle(), 1);
        x.request(3, 5, false, 0, 0);
        x.run(1);
        x.cancel(3, 5);
        due("12 a frame that is sent goes on", x.waiting(3), 1);
        x.settle();
        due("12 it was sent", x.sent(3), 1);
        x.detach(1);
        x.attach(1);
        due("12 a node that joins", x.settle(), 11);
    }

    private static void settleWithoutEnd() {
        ArbitratedBus x = new ArbitratedBus();
        x.detach(1);
        x.detach(2);
        x.detach(3);
        x.request(0, 5, false, 0, 0);
        due("12 nobody acknowledges", x.settle(), ArbitratedBus.NONE);
        due("12 1000 bit times", x.time(), 1000);
    }

    private static void settleWithNodesApart() {
        ArbitratedBus x = new ArbitratedBus();
        x.detach(0);
        x.request(0, 5, false, 0, 0);
        due("12 a detached node may wait", x.settle(), 0);
        x.setLimits(8, 16, 16);
        x.request(1, 5, false, 0, 0);
        x.disturb(2, 0);
        x.run(1);
        x.disturb(2, 26);
        for (int k = 0; k < 80 && x.phase(1) != ArbitratedBus.BUS_OFF; k++) {
            x.disturb(2, 0);
            x.run(1);
        }
        due("12 bus off", x.phase(1), ArbitratedBus.BUS_OFF);
        x.settle();
        due("12 a node in bus-off may wait", x.waiting(1), 1);
        due("12 and stays there", x.phase(1), ArbitratedBus.BUS_OFF);
        due("12 settled", x.settle(), 0);
        for (int n = 0; n < 4; n++) {
            x.detach(n);
        }
        due("12 no node at all", x.settle(), 0);
    }
}
