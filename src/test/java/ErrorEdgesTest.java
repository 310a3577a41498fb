/** The boundary cases of the errors of nodes and of accepting, sentence by sentence, under the promises that show them. */
final class ErrorEdgesTest extends EdgeKit {
    private static final String ACCEPTED_COUNTER = "When a receiver accepts a frame, its receive error counter becomes the "
        + "passive limit minus 8 if it is at least the passive limit, and decreases by 1 otherwise if it is above 0.";
    private static final String TRANSMITTER_COUNTER = "If the node is transmitter, its transmit error counter increases by 8, "
        + "except for an ACK error of a node that is error-passive;";
    private static final String OFF = "Then, if the transmit error counter is at least the off limit, the node is in the "
        + "phase BUS_OFF;";
    private static final String ACTIVE = "otherwise it is in the phase FLAG, and the flag is active if it is not "
        + "error-passive.";
    private static final String ANSWERS = "If a remote frame passes and the node has an answer for its identifier, the data "
        + "frame with this identifier and the length and data of the answer becomes a waiting frame of the node, if it has "
        + "fewer than 4.";
    private static final String APPENDED = "Any other frame that passes is appended to the received frames, if there are "
        + "fewer than 6;";

    public static void main(String[] args) {
        Edges.runAll(ErrorEdgesTest.class);
    }

    // ---- errors of nodes

    @Edge(promise = 18, says = "If a node has an error, it is counted under its kind.")
    static void everyKindIsCountedByItself(Check c) {
        int[][] cases = {{BIT, 0, 0}, {STUFF, 1, 5}, {CRC, 1, 39}, {FORM, 1, 40}, {ACK, 0, 41}};
        for (int[] one : cases) {
            ArbitratedBus x = zeros();
            x.disturb(1 << one[1], one[2]);
            x.run(one[0] == CRC ? 43 : one[2] + 1);
            for (int kind = 1; kind <= 5; kind++) {
                c.due("kind " + kind + " after one of kind " + one[0], x.errors(one[1], kind), kind == one[0] ? 1 : 0);
            }
            c.due("the latest", x.lastError(one[1]), one[0]);
        }
    }

    @Edge(promise = 15, says = TRANSMITTER_COUNTER)
    static void transmitterErrorsByEight(Check c) {
        ArbitratedBus x = alone();
        for (int k = 1; k <= 5; k++) {
            failAtStart(x);
            c.due("after error " + k, x.transmitErrors(0), 8 * k);
        }
        c.due("its receive errors", x.receiveErrors(0), 0);
    }

    @Edge(promise = 15, says = TRANSMITTER_COUNTER)
    static void ackErrorAtThePassiveLimit(Check c) {
        // A passive limit of 9 lets the first two ACK errors count: 8 is below it, 16 is not.
        ArbitratedBus x = alone();
        x.setLimits(9, 200, 1);
        x.run(42);
        c.due("first ACK error", x.transmitErrors(0), 8);
        x.run(17 + 42);
        c.due("second ACK error", x.errors(0, ACK), 2);
        c.due("8 is below the limit", x.transmitErrors(0), 16);
        x.run(25 + 42);
        c.due("third ACK error", x.errors(0, ACK), 3);
        c.due("16 is not", x.transmitErrors(0), 16);
        ArbitratedBus y = alone();
        y.setLimits(8, 200, 1);
        y.run(42);
        c.due("first ACK error, limit 8", y.transmitErrors(0), 8);
        y.run(25 + 42);
        c.due("second ACK error, limit 8", y.errors(0, ACK), 2);
        c.due("8 is at the limit", y.transmitErrors(0), 8);
    }

    @Edge(promise = 15, says = TRANSMITTER_COUNTER)
    static void ackErrorOfANodeThatIsPassiveAsReceiver(Check c) {
        ArbitratedBus x = new ArbitratedBus();
        x.disturb(1, 0);
        x.run(60);
        c.due("receive errors", x.receiveErrors(0), 9);
        for (int node = 1; node < 4; node++) {
            x.detach(node);
        }
        x.setLimits(9, 200, 1);
        x.request(0, 0, false, 0, 0);
        x.run(42);
        c.due("the error is counted", x.errors(0, ACK), 1);
        c.due("but its transmit errors stay", x.transmitErrors(0), 0);
    }

    @Edge(promise = 15, says = "except for an ACK error of a node that is error-passive")
    static void otherErrorsOfAPassiveTransmitter(Check c) {
        ArbitratedBus x = alone();
        x.setLimits(8, 200, 1);
        failAtStart(x);
        c.due("passive", x.isPassive(0), 1);
        failAtStart(x);
        c.due("a BIT error counts", x.transmitErrors(0), 16);
        x.disturb(1, 0);
        x.run(8);
        x.disturb(1, 0);
        x.run(1);
        c.due("a FORM error in the delimiter", x.errors(0, FORM), 1);
        c.due("counts too", x.transmitErrors(0), 32);
    }

    @Edge(promise = 16, says = "if it is receiver, its receive error counter increases by 1.")
    static void receiverErrorsByOne(Check c) {
        int[][] cases = {{STUFF, 5, 6}, {CRC, 39, 43}, {FORM, 40, 41}};
        for (int[] one : cases) {
            ArbitratedBus x = zeros();
            x.disturb(2, one[1]);
            x.run(one[2]);
            c.due("kind " + one[0], x.errors(1, one[0]), 1);
            c.due("receive errors", x.receiveErrors(1), 1);
            c.due("transmit errors", x.transmitErrors(1), 0);
        }
    }

    @Edge(promise = 16, says = "The receive error counter is never above 255 (it stays 255 then).")
    static void receiveErrorsAtTheirGreatest(Check c) {
        ArbitratedBus x = new ArbitratedBus();
        for (int k = 1; k <= 28; k++) {
            addNineErrors(x);
        }
        c.due("28 times 9", x.receiveErrors(1), 252);
        x.disturb(2, 0);
        x.disturb(2, 13);
        x.run(7);
        c.due("one more", x.receiveErrors(1), 253);
        x.run(53);
        c.due("eight more", x.receiveErrors(1), 255);
        x.disturb(2, 0);
        x.disturb(2, 13);
        x.run(7);
        c.due("one more than 255", x.receiveErrors(1), 255);
        c.due("the error is counted", x.errors(1, STUFF), 30);
        x.run(53);
        c.due("eight more than 255", x.receiveErrors(1), 255);
    }

    @Edge(promise = 13, says = OFF)
    static void transmitErrorsAtTheOffLimit(Check c) {
        ArbitratedBus x = alone();
        x.setLimits(15, 16, 1);
        x.disturb(1, 0);
        x.run(1);
        c.due("8 of 16", x.phase(0), FLAG);
        x.run(17);
        x.disturb(1, 0);
        x.run(1);
        c.due("16 of 16", x.phase(0), BUS_OFF);
        ArbitratedBus y = alone();
        y.setLimits(8, 17, 1);
        failAtStart(y);
        y.disturb(1, 0);
        y.run(1);
        c.due("16 of 17", y.phase(0), FLAG);
        y.run(25);
        y.disturb(1, 0);
        y.run(1);
        c.due("24 of 17", y.phase(0), BUS_OFF);
    }

    @Edge(promise = 13, says = OFF)
    static void receiveErrorsLeadToNoBusOff(Check c) {
        ArbitratedBus x = new ArbitratedBus();
        x.setLimits(8, 16, 1);
        addNineErrors(x);
        addNineErrors(x);
        c.due("receive errors", x.receiveErrors(1), 18);
        c.due("no bus-off", x.phase(1), IDLE);
    }

    @Edge(promise = 13, says = OFF)
    static void errorOfAReceiverAboveTheOffLimit(Check c) {
        ArbitratedBus x = alone();
        failAtStart(x);
        failAtStart(x);
        x.cancel(0, 0);
        x.setLimits(8, 17, 1);
        x.disturb(1, 0);
        x.run(6);
        x.save(0);
        x.run(1);
        c.due("16 of 17, an error as receiver", x.phase(0), FLAG);
        x.restore(0);
        x.setLimits(8, 16, 1);
        c.due("not before the error", x.phase(0), FRAME);
        x.run(1);
        c.due("it was one as receiver", x.lastError(0), STUFF);
        c.due("16 of 16", x.phase(0), BUS_OFF);
    }

    @Edge(promise = 13, says = OFF)
    static void ackErrorOfAPassiveNodeAtTheOffLimit(Check c) {
        ArbitratedBus x = alone();
        failAtStart(x);
        failAtStart(x);
        x.setLimits(8, 16, 1);
        x.run(41);
        c.due("before the slot", x.phase(0), FRAME);
        x.run(1);
        c.due("no step of 8", x.transmitErrors(0), 16);
        c.due("but bus-off", x.phase(0), BUS_OFF);
    }

    @Edge(promise = 17, says = ACTIVE)
    static void flagOfTheErrorThatReachesThePassiveLimit(Check c) {
        ArbitratedBus x = alone();
        x.setLimits(8, 200, 1);
        x.disturb(1, 0);
        x.run(2);
        c.due("8 of 8: passive", x.level(1), 1);
        ArbitratedBus y = alone();
        y.setLimits(9, 200, 1);
        y.disturb(1, 0);
        y.run(2);
        c.due("8 of 9: active", y.level(1), 0);
    }

    @Edge(promise = 17, says = ACTIVE)
    static void flagOfAReceiverThatIsPassiveByItsTransmitErrors(Check c) {
        ArbitratedBus x = alone();
        failAtStart(x);
        x.cancel(0, 0);
        for (int passive = 8; passive <= 9; passive++) {
            x.setLimits(passive, 200, 1);
            x.save(0);
            x.disturb(1, 0);
            x.run(8);
            c.due("receiver", x.lastError(0), STUFF);
            c.due("8 of " + passive, x.level(1), passive == 8 ? 1 : 0);
            x.restore(0);
        }
    }

    @Edge(promise = 17, says = ACTIVE)
    static void flagStaysAsItBegan(Check c) {
        ArbitratedBus x = alone();
        x.disturb(1, 0);
        x.run(3);
        x.setLimits(8, 200, 1);
        x.run(4);
        c.due("active to its end", x.level(1), 0);
        ArbitratedBus y = alone();
        y.setLimits(8, 200, 1);
        y.disturb(1, 0);
        y.run(3);
        y.setLimits(128, 200, 1);
        y.run(4);
        c.due("passive to its end", y.level(1), 1);
    }

    @Edge(promise = 14, says = "The role stays;")
    static void roleAfterAnError(Check c) {
        ArbitratedBus x = zeros();
        x.disturb(3, 40);
        x.run(41);
        for (int bit = 41; bit < 60 && x.phase(0) != IDLE; bit++) {
            c.due("transmitter after " + bit, x.isTransmitter(0), 1);
            c.due("receiver after " + bit, x.isTransmitter(1), 0);
            x.run(1);
        }
    }

    @Edge(promise = 14, says = "in all other phases it counts as receiver.")
    static void noRoleInOtherPhases(Check c) {
        ArbitratedBus x = alone();
        c.due("idle with a frame", x.isTransmitter(0), 0);
        x.run(1);
        c.due("frame", x.isTransmitter(0), 1);
        x.detach(0);
        c.due("detached from its frame", x.isTransmitter(0), 0);
        x.attach(0);
        c.due("joining", x.isTransmitter(0), 0);
        x.run(11);
        c.due("idle", x.isTransmitter(0), 0);
        c.due("bus-off", busOff(1).isTransmitter(0), 0);
        ArbitratedBus y = alone();
        y.setLimits(8, 200, 1);
        y.disturb(1, 0);
        y.run(18);
        c.due("suspend", y.isTransmitter(0), 0);
        ArbitratedBus z = zeros();
        z.run(ZEROS_BITS);
        c.due("idle after the intermission", z.isTransmitter(0), 0);
    }

    @Edge(promise = 14, says = "In the phases FRAME to INTERMISSION a node has a role, transmitter or receiver;")
    static void roleFromFrameToIntermission(Check c) {
        ArbitratedBus x = zeros();
        x.disturb(1, 49);
        int[] until = {1, 50, 56, 65, 66};
        int[] phases = {FRAME, FLAG, DELIMITER, INTERMISSION, OVERLOAD};
        for (int k = 0; k < until.length; k++) {
            if (phases[k] == OVERLOAD) {
                x.disturb(1, 0);
            }
            x.run(until[k] - x.time());
            c.due("phase after " + until[k], x.phase(0), phases[k]);
            c.due("transmitter after " + until[k], x.isTransmitter(0), 1);
            c.due("receiver after " + until[k], x.isTransmitter(1), 0);
        }
    }

    @Edge(promise = 24, says = "the frame of a transmitter stays among its waiting frames, and the node sends the first of "
        + "its waiting frames when it begins the next time.")
    static void frameAfterAnError(Check c) {
        ArbitratedBus x = new ArbitratedBus();
        x.request(0, 9, false, 1, 9);
        x.run(3);
        x.request(0, 8, false, 1, 8);
        x.disturb(1, 0);
        x.run(1);
        c.due("an error", x.lastError(0), BIT);
        c.due("both wait", x.waiting(0), 2);
        x.settle();
        c.due("the first of them", x.receivedData(1, 0), 8);
        c.due("then the other", x.receivedData(1, 1), 9);
        c.due("no more", x.received(1), 2);
    }

    // ---- accepting

    @Edge(promise = 16, says = ACCEPTED_COUNTER)
    static void acceptingAtAndBelowThePassiveLimit(Check c) {
        int[][] cases = {{8, 0}, {9, 1}, {10, 8}, {128, 8}};
        for (int[] one : cases) {
            ArbitratedBus x = new ArbitratedBus();
            addNineErrors(x);
            c.due("receive errors before", x.receiveErrors(1), 9);
            x.setLimits(one[0], 200, 1);
            x.request(0, 0, false, 0, 0);
            x.run(48);
            c.due("before the sixth end bit", x.receiveErrors(1), 9);
            x.run(1);
            c.due("9 with the passive limit " + one[0], x.receiveErrors(1), one[1]);
        }
    }

    @Edge(promise = 16, says = ACCEPTED_COUNTER)
    static void acceptingFarAboveThePassiveLimit(Check c) {
        ArbitratedBus x = new ArbitratedBus();
        for (int k = 0; k < 30; k++) {
            addNineErrors(x);
        }
        c.due("receive errors before", x.receiveErrors(1), 255);
        x.request(0, 0, false, 0, 0);
        x.settle();
        c.due("the limit minus 8", x.receiveErrors(1), 120);
        c.due("not passive any more", x.isPassive(1), 0);
    }

    @Edge(promise = 16, says = "and decreases by 1 otherwise if it is above 0.")
    static void acceptingDownToZero(Check c) {
        ArbitratedBus x = new ArbitratedBus();
        addNineErrors(x);
        for (int due = 8; due >= -1; due--) {
            x.request(0, 0, false, 0, 0);
            x.settle();
            c.due("one more", x.receiveErrors(1), Math.max(due, 0));
        }
    }

    @Edge(promise = 26, says = "otherwise it is ignored.")
    static void ignoredFrames(Check c) {
        ArbitratedBus x = new ArbitratedBus();
        addNineErrors(x);
        x.setFilter(1, 2047, 1);
        x.setAnswer(1, 0, 0, 0);
        x.request(0, 0, false, 0, 0);
        x.request(0, 0, true, 0, 0);
        x.settle();
        c.due("not received", x.received(1), 0);
        c.due("not answered", x.sent(1), 0);
        c.due("no overrun", x.overruns(1), 0);
        c.due("but both are accepted", x.receiveErrors(1), 7);
        sendMany(x, 0, 1, 1);
        c.due("one that passes", x.received(1), 1);
    }

    @Edge(promise = 23, says = "otherwise it is ignored.")
    static void ignoredFramesAreNoOverruns(Check c) {
        ArbitratedBus x = new ArbitratedBus();
        sendMany(x, 0, 1, 6);
        x.setFilter(1, 2047, 2000);
        sendMany(x, 0, 1, 1);
        c.due("ignored although full", x.overruns(1), 0);
        c.due("an overrun of another node", x.overruns(2), 1);
    }

    @Edge(promise = 4, says = ANSWERS)
    static void answerWithRoomForOneMore(Check c) {
        ArbitratedBus x = new ArbitratedBus();
        x.setAnswer(1, 5, 4, -2);
        for (int k = 0; k < 3; k++) {
            x.request(1, 1000, false, 0, 0);
        }
        x.request(0, 5, true, 0, 0);
        int bits = x.frameBits(5, true, 0, 0);
        x.run(bits - 2);
        c.due("before the sixth end bit", x.waiting(1), 3);
        x.run(1);
        c.due("the fourth waiting frame", x.waiting(1), 4);
        c.due("is the answer", x.waitingFrame(1, 0), 10);
        x.settle();
        c.due("its identifier", x.receivedFrame(0, 0), 10);
        c.due("its length", x.receivedLength(0, 0), 4);
        c.due("its data", x.receivedData(0, 0), -2);
        c.due("the remote frame is not received", x.received(1), 0);
    }

    @Edge(promise = 4, says = "if it has fewer than 4.")
    static void answerWithoutRoom(Check c) {
        ArbitratedBus x = new ArbitratedBus();
        x.setAnswer(1, 5, 1, 7);
        fillWaiting(x, 1);
        x.request(0, 5, true, 0, 0);
        x.run(x.frameBits(5, true, 0, 0));
        c.due("the remote frame is sent", x.sent(0), 1);
        c.due("four wait", x.waiting(1), 4);
        c.due("none of them is the answer", x.waitingFrame(1, 0), 2000);
        c.due("the remote frame is not received", x.received(1), 0);
        c.due("nor an overrun", x.overruns(1), 0);
        x.settle();
        c.due("no answer comes", x.receivedFrame(0, 0), 2000);
    }

    @Edge(promise = 4, says = ANSWERS)
    static void answerForThisIdentifierAlone(Check c) {
        ArbitratedBus x = new ArbitratedBus();
        x.setAnswer(1, 5, 1, 7);
        x.request(0, 4, true, 0, 0);
        x.request(0, 6, true, 0, 0);
        x.request(0, 5, false, 0, 0);
        x.settle();
        c.due("nothing is answered", x.sent(1), 0);
        c.due("all are received", x.received(1), 3);
    }

    @Edge(promise = 4, says = ANSWERS)
    static void answerOfSeveralNodes(Check c) {
        ArbitratedBus x = new ArbitratedBus();
        x.setAnswer(1, 5, 1, 7);
        x.setAnswer(2, 5, 1, 7);
        x.request(0, 5, true, 4, 0);
        x.settle();
        c.due("node 1 answers", x.sent(1), 1);
        c.due("node 2 answers too", x.sent(2), 1);
        c.due("at the same time", x.received(0), 1);
        c.due("with its own length", x.receivedLength(0, 0), 1);
    }

    @Edge(promise = 4, says = ANSWERS)
    static void answerOfANodeWithFullReceivedFrames(Check c) {
        ArbitratedBus x = new ArbitratedBus();
        x.setAnswer(1, 5, 1, 7);
        sendMany(x, 0, 10, 6);
        x.request(0, 5, true, 0, 0);
        x.settle();
        c.due("it answers", x.receivedData(0, 0), 7);
        c.due("no overrun", x.overruns(1), 0);
    }

    @Edge(promise = 26, says = APPENDED)
    static void sixthAndSeventhReceivedFrame(Check c) {
        ArbitratedBus x = new ArbitratedBus();
        for (int k = 1; k <= 6; k++) {
            sendMany(x, 0, 10 + k, 1);
            c.due("frame " + k, x.received(1), k);
            c.due("appended", x.receivedFrame(1, k - 1), 2 * (10 + k));
        }
        sendMany(x, 0, 17, 1);
        c.due("a seventh", x.received(1), 6);
        for (int k = 1; k <= 6; k++) {
            c.due("frame " + k + " stays", x.receivedFrame(1, k - 1), 2 * (10 + k));
        }
    }

    @Edge(promise = 23, says = "otherwise it is an overrun.")
    static void overrunsFromTheSeventhOn(Check c) {
        ArbitratedBus x = new ArbitratedBus();
        sendMany(x, 0, 10, 6);
        c.due("six", x.overruns(1), 0);
        x.request(0, 20, true, 0, 0);
        x.settle();
        c.due("a seventh, remote", x.overruns(1), 1);
        sendMany(x, 0, 21, 1);
        c.due("an eighth", x.overruns(1), 2);
        x.discard(1);
        sendMany(x, 0, 22, 1);
        c.due("there is room again", x.overruns(1), 2);
        c.due("not in another node", x.overruns(2), 3);
        c.due("the sender has none", x.overruns(0), 0);
    }

    @Edge(promise = 29, says = "The data of a remote frame are 0, and it has no bytes on the bus.")
    static void remoteFrameWithLengthFour(Check c) {
        ArbitratedBus x = new ArbitratedBus();
        x.request(0, 5, false, 4, -1);
        x.request(0, 6, true, 4, 0);
        x.settle();
        c.due("length of the remote frame", x.receivedLength(1, 1), 4);
        c.due("its data", x.receivedData(1, 1), 0);
        c.due("as many bits as with length 0, but for stuff bits", x.frameBits(0x555, true, 4, 0) < 52 ? 1 : 0, 1);
    }
}
