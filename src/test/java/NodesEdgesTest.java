/** The boundary cases of promises 13 to 32, sentence by sentence. */
final class NodesEdgesTest extends EdgeKit {
    private static final String ERROR_PASSIVE =
        "A node is error-passive if one of its counters is at least the passive limit (at first 128).";

    public static void main(String[] args) {
        Edges.runAll(NodesEdgesTest.class);
    }

    // ---- no such node

    @Edge(promise = 13, says = "NO_SUCH_NODE")
    static void phaseOfNoNode(Check c) {
        refusesOtherNodes(c, new ArbitratedBus()::phase);
    }

    @Edge(promise = 14, says = "NO_SUCH_NODE")
    static void isTransmitterOfNoNode(Check c) {
        refusesOtherNodes(c, new ArbitratedBus()::isTransmitter);
    }

    @Edge(promise = 15, says = "NO_SUCH_NODE")
    static void transmitErrorsOfNoNode(Check c) {
        refusesOtherNodes(c, new ArbitratedBus()::transmitErrors);
    }

    @Edge(promise = 16, says = "NO_SUCH_NODE")
    static void receiveErrorsOfNoNode(Check c) {
        refusesOtherNodes(c, new ArbitratedBus()::receiveErrors);
    }

    @Edge(promise = 17, says = "NO_SUCH_NODE")
    static void isPassiveOfNoNode(Check c) {
        refusesOtherNodes(c, new ArbitratedBus()::isPassive);
    }

    @Edge(promise = 18, says = "NO_SUCH_NODE")
    static void errorsOfNoNode(Check c) {
        ArbitratedBus x = new ArbitratedBus();
        refusesOtherNodes(c, node -> x.errors(node, BIT));
    }

    @Edge(promise = 19, says = "NO_SUCH_NODE")
    static void lastErrorOfNoNode(Check c) {
        refusesOtherNodes(c, new ArbitratedBus()::lastError);
    }

    @Edge(promise = 20, says = "NO_SUCH_NODE")
    static void lostArbitrationsOfNoNode(Check c) {
        refusesOtherNodes(c, new ArbitratedBus()::lostArbitrations);
    }

    @Edge(promise = 21, says = "NO_SUCH_NODE")
    static void overloadsOfNoNode(Check c) {
        refusesOtherNodes(c, new ArbitratedBus()::overloads);
    }

    @Edge(promise = 22, says = "NO_SUCH_NODE")
    static void sentOfNoNode(Check c) {
        refusesOtherNodes(c, new ArbitratedBus()::sent);
    }

    @Edge(promise = 23, says = "NO_SUCH_NODE")
    static void overrunsOfNoNode(Check c) {
        refusesOtherNodes(c, new ArbitratedBus()::overruns);
    }

    @Edge(promise = 24, says = "NO_SUCH_NODE")
    static void waitingOfNoNode(Check c) {
        refusesOtherNodes(c, new ArbitratedBus()::waiting);
    }

    @Edge(promise = 25, says = "NO_SUCH_NODE")
    static void waitingFrameOfNoNode(Check c) {
        ArbitratedBus x = new ArbitratedBus();
        refusesOtherNodes(c, node -> x.waitingFrame(node, 0));
    }

    @Edge(promise = 26, says = "NO_SUCH_NODE")
    static void receivedOfNoNode(Check c) {
        refusesOtherNodes(c, new ArbitratedBus()::received);
    }

    @Edge(promise = 27, says = "NO_SUCH_NODE")
    static void receivedFrameOfNoNode(Check c) {
        ArbitratedBus x = new ArbitratedBus();
        refusesOtherNodes(c, node -> x.receivedFrame(node, 0));
    }

    @Edge(promise = 28, says = "NO_SUCH_NODE")
    static void receivedLengthOfNoNode(Check c) {
        ArbitratedBus x = new ArbitratedBus();
        refusesOtherNodes(c, node -> x.receivedLength(node, 0));
    }

    @Edge(promise = 30, says = "NO_SUCH_NODE")
    static void discardOfNoNode(Check c) {
        refusesOtherNodes(c, new ArbitratedBus()::discard);
    }

    @Edge(promise = 13, says = "The nodes are numbered from 0 to 3.")
    static void fourNodes(Check c) {
        ArbitratedBus x = new ArbitratedBus();
        for (int node = 0; node < 4; node++) {
            ArbitratedBus y = new ArbitratedBus();
            y.detach(node);
            for (int other = 0; other < 4; other++) {
                c.due("node " + other + " after detach(" + node + ")", y.phase(other), other == node ? DETACHED : IDLE);
            }
        }
        c.due("node -1", x.phase(-1), NO_SUCH_NODE);
        c.due("node 4", x.phase(4), NO_SUCH_NODE);
    }

    // ---- promises 13 to 24

    @Edge(promise = 13, says = "Returns its phase")
    static void everyPhaseHasItsNumber(Check c) {
        ArbitratedBus x = new ArbitratedBus();
        x.detach(3);
        c.due("detached", x.phase(3), 0);
        x.attach(3);
        c.due("joining", x.phase(3), 2);
        c.due("idle", x.phase(0), 3);
        c.due("bus-off", busOff(1).phase(0), 1);
        ArbitratedBus y = alone();
        y.setLimits(8, 200, 1);
        y.run(1);
        c.due("frame", y.phase(0), 4);
        y.disturb(1, 0);
        y.run(1);
        c.due("flag", y.phase(0), 5);
        y.run(6);
        c.due("delimiter", y.phase(0), 7);
        y.run(8);
        c.due("intermission", y.phase(0), 8);
        y.save(0);
        y.run(3);
        c.due("suspend", y.phase(0), 9);
        y.restore(0);
        y.disturb(1, 0);
        y.run(1);
        c.due("overload", y.phase(0), 6);
    }

    @Edge(promise = 14, says = "Returns 1 if it is transmitter, 0 if not")
    static void transmitterOrNot(Check c) {
        ArbitratedBus x = zeros();
        c.due("before its frame", x.isTransmitter(0), 0);
        x.run(1);
        c.due("its frame", x.isTransmitter(0), 1);
        c.due("the frame of another", x.isTransmitter(1), 0);
    }

    @Edge(promise = 15, says = "Returns its transmit error counter")
    static void transmitErrorsOfEachNode(Check c) {
        ArbitratedBus x = zeros();
        c.due("at first", x.transmitErrors(0), 0);
        x.disturb(1, 0);
        x.run(1);
        c.due("node 0", x.transmitErrors(0), 8);
        for (int node = 1; node < 4; node++) {
            c.due("node " + node, x.transmitErrors(node), 0);
        }
    }

    @Edge(promise = 16, says = "Returns its receive error counter")
    static void receiveErrorsOfEachNode(Check c) {
        ArbitratedBus x = zeros();
        c.due("at first", x.receiveErrors(3), 0);
        x.disturb(8, 5);
        x.run(6);
        c.due("node 3", x.receiveErrors(3), 1);
        for (int node = 0; node < 3; node++) {
            c.due("node " + node, x.receiveErrors(node), 0);
        }
    }

    @Edge(promise = 17, says = ERROR_PASSIVE)
    static void passiveByTransmitErrors(Check c) {
        ArbitratedBus x = alone();
        failAtStart(x);
        x.setLimits(9, 200, 1);
        c.due("8 of 9", x.isPassive(0), 0);
        x.setLimits(8, 200, 1);
        c.due("8 of 8", x.isPassive(0), 1);
    }

    @Edge(promise = 17, says = ERROR_PASSIVE)
    static void passiveByReceiveErrors(Check c) {
        ArbitratedBus x = new ArbitratedBus();
        addNineErrors(x);
        x.setLimits(10, 200, 1);
        c.due("9 of 10", x.isPassive(1), 0);
        x.setLimits(9, 200, 1);
        c.due("9 of 9", x.isPassive(1), 1);
        c.due("its transmit errors", x.transmitErrors(1), 0);
    }

    @Edge(promise = 17, says = "(at first 128)")
    static void passiveLimitAtFirst(Check c) {
        ArbitratedBus x = alone();
        for (int k = 0; k < 15; k++) {
            failAtStart(x);
        }
        c.due("transmit errors", x.transmitErrors(0), 120);
        c.due("120 of 128", x.isPassive(0), 0);
        failAtStart(x);
        c.due("128 of 128", x.isPassive(0), 1);
        ArbitratedBus y = new ArbitratedBus();
        for (int k = 0; k < 14; k++) {
            addNineErrors(y);
        }
        c.due("receive errors", y.receiveErrors(1), 126);
        // A STUFF error and then eight more: 127 and 135.
        y.disturb(2, 0);
        y.run(7);
        c.due("127 of 128", y.isPassive(1), 0);
        y.run(53);
        c.due("135 of 128", y.isPassive(1), 1);
    }

    @Edge(promise = 17, says = "Returns 1 if it is error-passive, 0 if not")
    static void passiveWhateverThePhase(Check c) {
        ArbitratedBus x = new ArbitratedBus();
        addNineErrors(x);
        x.setLimits(9, 200, 1);
        x.detach(1);
        c.due("detached", x.isPassive(1), 1);
        c.due("in bus-off", busOff(1).isPassive(0), 1);
        c.due("without errors", x.isPassive(0), 0);
    }

    @Edge(promise = 18, says = "`kind`: BIT, STUFF, CRC, FORM or ACK")
    static void kindOutOfRange(Check c) {
        ArbitratedBus x = new ArbitratedBus();
        for (int kind : new int[] {0, 6, -1, LEAST, GREATEST}) {
            c.due("kind " + kind, x.errors(0, kind), BAD_VALUE);
        }
        for (int kind = 1; kind <= 5; kind++) {
            c.due("kind " + kind, x.errors(0, kind), 0);
        }
    }

    @Edge(promise = 18, says = ORDER)
    static void errorsNodeBeforeKind(Check c) {
        ArbitratedBus x = new ArbitratedBus();
        c.due("no node, kind 0", x.errors(4, 0), NO_SUCH_NODE);
        c.due("no node, kind 6", x.errors(-1, 6), NO_SUCH_NODE);
    }

    @Edge(promise = 18, says = "Returns the number of errors of this kind that it has had")
    static void errorsAreCountedOn(Check c) {
        ArbitratedBus x = alone();
        for (int k = 1; k <= 3; k++) {
            failAtStart(x);
            c.due("BIT errors", x.errors(0, BIT), k);
        }
        c.due("of another node", x.errors(1, BIT), 0);
        c.due("of another kind", x.errors(0, ACK), 0);
    }

    @Edge(promise = 19, says = "Returns the kind of its latest error, NONE if it has had none")
    static void latestError(Check c) {
        ArbitratedBus x = alone();
        c.due("none", x.lastError(0), NONE);
        x.run(42);
        c.due("ACK", x.lastError(0), ACK);
        x.run(17);
        failAtStart(x);
        c.due("BIT", x.lastError(0), BIT);
        c.due("another node", x.lastError(1), NONE);
    }

    @Edge(promise = 20, says = "Returns how often it has lost the arbitration")
    static void lostOnceATime(Check c) {
        ArbitratedBus x = new ArbitratedBus();
        x.request(0, 9, false, 0, 0);
        for (int k = 1; k <= 3; k++) {
            x.request(1, 8 - k, false, 0, 0);
        }
        c.due("not yet", x.lostArbitrations(0), 0);
        x.settle();
        c.due("three times", x.lostArbitrations(0), 3);
        c.due("the winner", x.lostArbitrations(1), 0);
        c.due("a receiver", x.lostArbitrations(2), 0);
    }

    @Edge(promise = 21, says = "Returns how often it has come into the phase OVERLOAD")
    static void overloadAfterOverload(Check c) {
        ArbitratedBus x = zeros();
        x.disturb(2, 50);
        // Node 1 is in its delimiter from 57 on and samples seven ones from 58 to 64, then a 0.
        x.disturb(2, 65);
        x.run(51);
        c.due("first", x.overloads(1), 1);
        x.run(14);
        c.due("not yet", x.overloads(1), 1);
        x.run(1);
        c.due("second", x.overloads(1), 2);
        x.settle();
        c.due("another node", x.overloads(2), 2);
        c.due("no errors", x.lastError(1), NONE);
    }

    @Edge(promise = 22, says = "Returns the number of frames that it has sent")
    static void sentFramesOfEachNode(Check c) {
        ArbitratedBus x = new ArbitratedBus();
        c.due("none", x.sent(3), 0);
        sendMany(x, 3, 5, 3);
        c.due("three", x.sent(3), 3);
        c.due("another node", x.sent(0), 0);
        ArbitratedBus y = zeros();
        y.disturb(1, 49);
        y.run(50);
        c.due("up to a wrong seventh end bit", y.sent(0), 0);
    }

    @Edge(promise = 23, says = "Returns the number of its overruns")
    static void overrunsOfEachNode(Check c) {
        ArbitratedBus x = new ArbitratedBus();
        x.setFilter(2, 2047, 2000);
        sendMany(x, 0, 5, 8);
        c.due("two of eight", x.overruns(1), 2);
        c.due("none of an ignoring node", x.overruns(2), 0);
    }

    @Edge(promise = 24, says = "Returns the number of its waiting frames")
    static void waitingFromNoneToFour(Check c) {
        ArbitratedBus x = new ArbitratedBus();
        for (int k = 0; k <= 4; k++) {
            c.due(k + " frames", x.waiting(2), k);
            x.request(2, 5, false, 0, 0);
        }
        c.due("a fifth was refused", x.waiting(2), 4);
        c.due("another node", x.waiting(1), 0);
    }

    // ---- promises 25 to 30

    @Edge(promise = 25, says = "NONE if there is no such index.")
    static void waitingFrameIndexOutOfRange(Check c) {
        ArbitratedBus x = new ArbitratedBus();
        c.due("an empty list", x.waitingFrame(0, 0), NONE);
        fillWaiting(x, 0);
        for (int index : new int[] {-1, 4, 5, LEAST, GREATEST}) {
            c.due("index " + index, x.waitingFrame(0, index), NONE);
        }
        for (int index = 0; index < 4; index++) {
            c.due("index " + index, x.waitingFrame(0, index), 2 * (1000 + index));
        }
        x.cancel(0, 1003);
        c.due("index 3 of three", x.waitingFrame(0, 3), NONE);
        c.due("another node", x.waitingFrame(1, 0), NONE);
    }

    @Edge(promise = 25, says = "Returns 2 * identifier, plus 1 for a remote frame")
    static void waitingFrameLowestAndHighest(Check c) {
        ArbitratedBus x = new ArbitratedBus();
        x.request(0, 0, false, 0, 0);
        x.request(0, 0, true, 0, 0);
        x.request(0, 2047, false, 0, 0);
        x.request(0, 2047, true, 0, 0);
        c.due("lowest", x.waitingFrame(0, 0), 0);
        c.due("lowest remote", x.waitingFrame(0, 1), 1);
        c.due("highest", x.waitingFrame(0, 2), 4094);
        c.due("highest remote", x.waitingFrame(0, 3), 4095);
    }

    @Edge(promise = 25, says = "the index in its waiting frames, counted from 0")
    static void waitingFramesFromZeroToThree(Check c) {
        ArbitratedBus x = new ArbitratedBus();
        for (int k = 3; k >= 0; k--) {
            x.request(2, 10 + k, k % 2 == 1, 0, 0);
        }
        for (int index = 0; index < 4; index++) {
            c.due("index " + index, x.waitingFrame(2, index), 2 * (10 + index) + index % 2);
        }
        x.settle();
        c.due("all are sent", x.waitingFrame(2, 0), NONE);
    }

    @Edge(promise = 25, says = NO_ERROR_APPLIES)
    static void waitingFrameNodeBeforeIndex(Check c) {
        c.due("no node, no index", new ArbitratedBus().waitingFrame(4, -1), NO_SUCH_NODE);
    }

    @Edge(promise = 26, says = "Returns the number of its received frames")
    static void receivedFromNoneToSix(Check c) {
        ArbitratedBus x = new ArbitratedBus();
        for (int k = 0; k <= 6; k++) {
            c.due(k + " frames", x.received(1), k);
            sendMany(x, 0, 5, 1);
        }
        c.due("a seventh has no room", x.received(1), 6);
        c.due("the sender", x.received(0), 0);
    }

    @Edge(promise = 26, says = "It has a list of at most 6 received frames")
    static void atMostSixReceivedFrames(Check c) {
        ArbitratedBus x = new ArbitratedBus();
        sendMany(x, 0, 5, 7);
        c.due("six", x.received(1), 6);
        c.due("the first stays", x.receivedFrame(1, 0), 10);
        c.due("the sixth stays", x.receivedFrame(1, 5), 20);
        c.due("no seventh", x.receivedFrame(1, 6), NONE);
    }

    /** Node 1 has six received frames with the identifiers 5 to 10, of length 1. */
    private static ArbitratedBus withSixReceived() {
        ArbitratedBus x = new ArbitratedBus();
        sendMany(x, 0, 5, 6);
        return x;
    }

    @Edge(promise = 27, says = "NONE if there is no such index.")
    static void receivedFrameIndexOutOfRange(Check c) {
        c.due("an empty list", new ArbitratedBus().receivedFrame(1, 0), NONE);
        ArbitratedBus x = withSixReceived();
        for (int index : new int[] {-1, 6, 7, LEAST, GREATEST}) {
            c.due("index " + index, x.receivedFrame(1, index), NONE);
        }
        c.due("index 0", x.receivedFrame(1, 0), 10);
        c.due("index 5", x.receivedFrame(1, 5), 20);
        x.discard(1);
        c.due("index 5 of five", x.receivedFrame(1, 5), NONE);
        c.due("index 4 of five", x.receivedFrame(1, 4), 20);
    }

    @Edge(promise = 27, says = "the index in its received frames, 0 for the oldest")
    static void oldestFrameFirst(Check c) {
        ArbitratedBus x = new ArbitratedBus();
        sendMany(x, 0, 2000, 1);
        sendMany(x, 0, 3, 1);
        c.due("the oldest, although it is higher", x.receivedFrame(1, 0), 4000);
        c.due("the latest", x.receivedFrame(1, 1), 6);
    }

    @Edge(promise = 27, says = "Returns 2 * identifier, plus 1 for a remote frame")
    static void receivedFrameLowestAndHighest(Check c) {
        ArbitratedBus x = new ArbitratedBus();
        x.request(0, 0, false, 0, 0);
        x.request(0, 0, true, 0, 0);
        x.request(0, 2047, false, 0, 0);
        x.request(0, 2047, true, 0, 0);
        x.settle();
        c.due("lowest", x.receivedFrame(1, 0), 0);
        c.due("lowest remote", x.receivedFrame(1, 1), 1);
        c.due("highest", x.receivedFrame(1, 2), 4094);
        c.due("highest remote", x.receivedFrame(1, 3), 4095);
    }

    @Edge(promise = 27, says = NO_ERROR_APPLIES)
    static void receivedFrameNodeBeforeIndex(Check c) {
        c.due("no node, no index", new ArbitratedBus().receivedFrame(4, -1), NO_SUCH_NODE);
    }

    @Edge(promise = 28, says = "NONE if there is no such index.")
    static void receivedLengthIndexOutOfRange(Check c) {
        c.due("an empty list", new ArbitratedBus().receivedLength(1, 0), NONE);
        ArbitratedBus x = withSixReceived();
        for (int index : new int[] {-1, 6, 7, LEAST, GREATEST}) {
            c.due("index " + index, x.receivedLength(1, index), NONE);
        }
        c.due("index 0", x.receivedLength(1, 0), 1);
        c.due("index 5", x.receivedLength(1, 5), 1);
        x.discard(1);
        c.due("index 5 of five", x.receivedLength(1, 5), NONE);
    }

    @Edge(promise = 28, says = "Returns the length of the frame")
    static void receivedLengthFromNoneToFour(Check c) {
        ArbitratedBus x = new ArbitratedBus();
        for (int length = 0; length <= 4; length++) {
            x.request(0, 5, false, length, 0);
            x.settle();
            x.request(2, 5, true, length, 0);
            x.settle();
            c.due("data frame", x.receivedLength(3, 0), length);
            c.due("remote frame", x.receivedLength(3, 1), length);
            x.discard(3);
            x.discard(3);
        }
    }

    /** Node 1 has received frames with the lengths 4 and 0 and the data -1 and 0, the oldest first. */
    private static ArbitratedBus withTwoLengths() {
        ArbitratedBus x = new ArbitratedBus();
        x.request(0, 9, false, 4, -1);
        x.settle();
        x.request(0, 5, false, 0, 0);
        x.settle();
        return x;
    }

    @Edge(promise = 28, says = "the index in its received frames, 0 for the oldest")
    static void lengthOfTheOldest(Check c) {
        ArbitratedBus x = withTwoLengths();
        c.due("the oldest", x.receivedLength(1, 0), 4);
        c.due("the latest", x.receivedLength(1, 1), 0);
        x.discard(1);
        c.due("the oldest that is left", x.receivedLength(1, 0), 0);
    }

    @Edge(promise = 29, says = "the index in its received frames, 0 for the oldest")
    static void dataOfTheOldest(Check c) {
        ArbitratedBus x = withTwoLengths();
        c.due("the oldest", x.receivedData(1, 0), -1);
        c.due("the latest", x.receivedData(1, 1), 0);
        x.discard(1);
        c.due("the oldest that is left", x.receivedData(1, 0), 0);
    }

    @Edge(promise = 28, says = NO_ERROR_APPLIES)
    static void receivedLengthNodeBeforeIndex(Check c) {
        c.due("no node, no index", new ArbitratedBus().receivedLength(4, -1), NO_SUCH_NODE);
    }

    @Edge(promise = 29, says = "0 for a remote frame, and also if there is no such node or index.")
    static void receivedDataOfNothing(Check c) {
        c.due("an empty list", new ArbitratedBus().receivedData(1, 0), 0);
        ArbitratedBus x = new ArbitratedBus();
        for (int k = 0; k < 5; k++) {
            x.request(0, 5, false, 4, -1);
            x.settle();
        }
        x.request(0, 5, true, 4, 0);
        x.settle();
        for (int node : new int[] {-1, 4, LEAST, GREATEST}) {
            c.due("node " + node, x.receivedData(node, 0), 0);
        }
        for (int index : new int[] {-1, 6, LEAST, GREATEST}) {
            c.due("index " + index, x.receivedData(1, index), 0);
        }
        c.due("the data frame before", x.receivedData(1, 4), -1);
        c.due("the remote frame", x.receivedData(1, 5), 0);
        x.discard(1);
        c.due("index 5 of five", x.receivedData(1, 5), 0);
    }

    @Edge(promise = 29, says = "Returns the data of the frame")
    static void receivedDataLowestAndHighest(Check c) {
        ArbitratedBus x = new ArbitratedBus();
        int[] datas = {0, 1, -1, LEAST, GREATEST, 0x80000001};
        for (int data : datas) {
            x.request(0, 5, false, 4, data);
            x.settle();
        }
        for (int index = 0; index < 6; index++) {
            c.due("data " + datas[index], x.receivedData(1, index), datas[index]);
        }
    }

    @Edge(promise = 30, says = "Returns the number of received frames that are left")
    static void discardFromSixToNone(Check c) {
        ArbitratedBus x = withSixReceived();
        for (int left = 5; left >= 0; left--) {
            c.due("the oldest", x.receivedFrame(1, 0), 2 * (10 - left));
            c.due("left", x.discard(1), left);
        }
        c.due("of another node", x.received(2), 6);
    }

    @Edge(promise = 30, says = "NONE if there is none (nothing changes then).")
    static void discardFromAnEmptyList(Check c) {
        ArbitratedBus x = withSixReceived();
        c.due("the sender has none", x.discard(0), NONE);
        for (int k = 0; k < 6; k++) {
            x.discard(1);
        }
        c.due("none is left", x.discard(1), NONE);
        c.due("none still", x.discard(1), NONE);
        c.due("the number", x.received(1), 0);
        sendMany(x, 0, 5, 1);
        c.due("the next frame", x.received(1), 1);
    }

    @Edge(promise = 30, says = "(nothing changes then)")
    static void refusedDiscardChangesNothing(Check c) {
        changesNothing(c, EdgeKit::busyState, x -> {
            c.due("none", x.discard(3), NONE);
            c.due("no node", x.discard(4), NO_SUCH_NODE);
        });
    }

    @Edge(promise = 30, says = "Removes the oldest received frame of a node.")
    static void discardRemovesTheOldest(Check c) {
        ArbitratedBus x = withSixReceived();
        x.discard(1);
        for (int index = 0; index < 5; index++) {
            c.due("frame " + index, x.receivedFrame(1, index), 2 * (6 + index));
            c.due("data " + index, x.receivedData(1, index), 1 + index);
        }
        sendMany(x, 0, 77, 1);
        c.due("room for one more", x.receivedFrame(1, 5), 154);
        c.due("no overrun", x.overruns(1), 0);
    }

    // ---- promises 31 and 32

    @Edge(promise = 31, says = "Returns the time.")
    static void timeGoesBackWithASlot(Check c) {
        ArbitratedBus x = new ArbitratedBus();
        c.due("at first", x.time(), 0);
        x.run(7);
        x.save(0);
        x.run(200);
        c.due("later", x.time(), 207);
        x.restore(0);
        c.due("restored", x.time(), 7);
    }

    @Edge(promise = 31, says = "The time is the number of bit times that have passed.")
    static void timeOfRunAndSettle(Check c) {
        ArbitratedBus x = zeros();
        c.due("at first", x.time(), 0);
        x.run(1);
        c.due("one", x.time(), 1);
        x.run(200);
        c.due("201", x.time(), 201);
        x.settle();
        c.due("settled already", x.time(), 201);
        x.request(0, 0, false, 0, 0);
        x.settle();
        c.due("and a frame", x.time(), 201 + ZEROS_BITS);
        x.bitsUntilSent(0);
        c.due("a prediction takes no time", x.time(), 201 + ZEROS_BITS);
    }

    @Edge(promise = 31, says = "An object is used for at most 512 calls after it has been made")
    static void timeAfterAsManyCallsAsPromised(Check c) {
        ArbitratedBus x = alone();
        // Four calls so far; the 512th is time().
        for (int call = 5; call < 512; call++) {
            x.settle();
        }
        c.due("the 512th call", x.time(), 507 * 1000);
    }

    @Edge(promise = 32, says = "BAD_VALUE if back is not 1 to 256")
    static void backOutOfRange(Check c) {
        ArbitratedBus x = new ArbitratedBus();
        for (int back : new int[] {0, -1, 257, LEAST, GREATEST}) {
            c.due("back " + back + ", at the beginning", x.level(back), BAD_VALUE);
        }
        x.run(200);
        x.run(200);
        for (int back : new int[] {0, -1, 257, 400, LEAST, GREATEST}) {
            c.due("back " + back, x.level(back), BAD_VALUE);
        }
        c.due("back 1", x.level(1), 1);
        c.due("back 256", x.level(256), 1);
    }

    @Edge(promise = 32, says = "NONE if that bit time is before the beginning.")
    static void levelBeforeTheBeginning(Check c) {
        ArbitratedBus x = zeros();
        c.due("1, at the beginning", x.level(1), NONE);
        c.due("256, at the beginning", x.level(256), NONE);
        x.run(1);
        c.due("1 of one", x.level(1), 0);
        c.due("2 of one", x.level(2), NONE);
        x.run(200);
        x.run(54);
        c.due("255 of 255", x.level(255), 0);
        c.due("256 of 255", x.level(256), NONE);
        x.run(1);
        c.due("256 of 256", x.level(256), 0);
    }

    @Edge(promise = 32, says = "how many bit times ago, 1 for the latest, up to 256")
    static void levelsOverTheWrapAround(Check c) {
        ArbitratedBus x = zeros();
        x.run(200);
        x.run(56);
        // The frame began 256 bit times ago, its first stuff bit was the sixth.
        for (int shift = 0; shift < 12; shift++) {
            c.due("256 ago after " + shift, x.level(256), x.frameBit(0, false, 0, 0, shift));
            c.due("the latest after " + shift, x.level(1), 1);
            x.run(1);
        }
        x.request(0, 0, false, 0, 0);
        x.run(5);
        for (int back = 1; back <= 5; back++) {
            c.due("zero " + back + " ago", x.level(back), 0);
        }
        c.due("one before", x.level(6), 1);
    }

    @Edge(promise = 32, says = "Returns the level of the bus in that bit time")
    static void everyLevelOfAFrame(Check c) {
        ArbitratedBus x = zeros();
        x.run(50);
        for (int index = 0; index < 50; index++) {
            c.due("bit " + index, x.level(50 - index), index == 41 ? 0 : x.frameBit(0, false, 0, 0, index));
        }
    }

    @Edge(promise = 32, says = "A level is 0 (dominant) or 1 (recessive).")
    static void levelsAreNotSamples(Check c) {
        ArbitratedBus x = new ArbitratedBus();
        x.disturb(15, 0);
        x.run(1);
        c.due("all samples were 0, the level was not", x.level(1), 1);
        ArbitratedBus y = zeros();
        y.disturb(15, 0);
        y.run(1);
        c.due("all samples were 1, the level was not", y.level(1), 0);
    }
}
