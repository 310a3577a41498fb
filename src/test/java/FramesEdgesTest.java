/** The boundary cases of promises 8 to 12, sentence by sentence. */
final class FramesEdgesTest extends EdgeKit {
    private static final String WAITING_ORDER = "ordered by their identifiers (the lowest first), for equal identifiers "
        + "data frames before remote frames, and then in the order in which they were requested.";
    private static final String CANCELS = "Removes all waiting frames of a node that have an identifier, except the frame "
        + "that it is sending at the moment (as transmitter in the phase FRAME).";
    private static final String SETTLES = "Lets bit times pass until no node that is neither detached nor in the phase "
        + "BUS_OFF has a waiting frame and all these nodes are IDLE, but not more than 1000.";

    public static void main(String[] args) {
        Edges.runAll(FramesEdgesTest.class);
    }

    // ---- promise 8

    @Edge(promise = 8, says = "`identifier`: 0 to 2047")
    static void identifierOutOfRange(Check c) {
        ArbitratedBus x = new ArbitratedBus();
        for (int identifier : new int[] {-1, 2048, LEAST, GREATEST}) {
            c.due("identifier " + identifier, x.request(0, identifier, false, 0, 0), BAD_VALUE);
            c.due("remote, identifier " + identifier, x.request(0, identifier, true, 0, 0), BAD_VALUE);
        }
    }

    @Edge(promise = 8, says = "A frame has an identifier from 0 to 2047, a length from 0 to 4")
    static void lowestAndHighestFrames(Check c) {
        ArbitratedBus x = new ArbitratedBus();
        c.due("identifier 0, length 0", x.request(0, 0, false, 0, 0), 1);
        c.due("identifier 2047, length 4", x.request(0, 2047, false, 4, -1), 2);
        c.due("remote, identifier 0, length 0", x.request(0, 0, true, 0, 0), 3);
        c.due("remote, identifier 2047, length 4", x.request(0, 2047, true, 4, 0), 4);
        x.settle();
        c.due("all are sent", x.sent(0), 4);
        c.due("the lowest", x.receivedFrame(1, 0), 0);
        c.due("the remote one", x.receivedFrame(1, 1), 1);
        c.due("the highest", x.receivedFrame(1, 2), 4094);
        c.due("its length", x.receivedLength(1, 2), 4);
        c.due("its data", x.receivedData(1, 2), -1);
        c.due("the highest remote one", x.receivedFrame(1, 3), 4095);
        c.due("its length", x.receivedLength(1, 3), 4);
        c.due("its data", x.receivedData(1, 3), 0);
    }

    @Edge(promise = 8, says = "`length`: 0 to 4")
    static void lengthOutOfRange(Check c) {
        ArbitratedBus x = new ArbitratedBus();
        for (int length : new int[] {-1, 5, 8, 15, LEAST, GREATEST}) {
            c.due("length " + length, x.request(0, 0, false, length, 0), BAD_VALUE);
            c.due("remote, length " + length, x.request(0, 0, true, length, 0), BAD_VALUE);
        }
    }

    @Edge(promise = 8, says = "data has a bit that is not one of the lowest 8 * length")
    static void dataTooLarge(Check c) {
        for (int length = 0; length < 4; length++) {
            ArbitratedBus x = new ArbitratedBus();
            for (int bit = 8 * length; bit < 32; bit++) {
                c.due("length " + length + ", bit " + bit, x.request(0, 0, false, length, 1 << bit), BAD_VALUE);
            }
        }
    }

    @Edge(promise = 8, says = "Data are given as an int whose lowest 8 * length bits are the bytes")
    static void allBitsOfTheData(Check c) {
        for (int length = 0; length <= 4; length++) {
            int all = length == 4 ? -1 : (1 << (8 * length)) - 1;
            int highest = length == 0 ? 0 : 1 << (8 * length - 1);
            ArbitratedBus x = new ArbitratedBus();
            c.due("length " + length + ", all its bits", x.request(0, 0, false, length, all), 1);
            c.due("length " + length + ", its highest bit", x.request(0, 1, false, length, highest), 2);
            x.settle();
            c.due("all bits come", x.receivedData(1, 0), all);
            c.due("the highest bit comes", x.receivedData(1, 1), highest);
        }
    }

    @Edge(promise = 8, says = "all other bits are 0.")
    static void noOtherBitsOfTheData(Check c) {
        ArbitratedBus x = new ArbitratedBus();
        int[] highest = {0, 0x80, 0x8000, 0x800000};
        for (int length = 1; length <= 3; length++) {
            x.request(0, 5, false, length, highest[length]);
            x.settle();
            c.due("the highest bit of " + length + " bytes is no sign", x.receivedData(1, length - 1), highest[length]);
            c.due("with the sign", x.request(0, 5, false, length, -highest[length]), BAD_VALUE);
        }
    }

    @Edge(promise = 8, says = "They are reported by negative constants.")
    static void numbersOfErrors(Check c) {
        ArbitratedBus x = new ArbitratedBus();
        fillWaiting(x, 0);
        x.detach(1);
        c.due("no such node", x.request(4, 0, false, 0, 0), -1);
        c.due("bad value", x.request(0, -1, false, 0, 0), -2);
        c.due("full", x.request(0, 0, false, 0, 0), -3);
        c.due("not possible", x.detach(1), -4);
        c.due("none", x.waitingFrame(0, 4), -5);
    }

    @Edge(promise = 8, says = "or remote is true and data is not 0")
    static void remoteFrameWithData(Check c) {
        ArbitratedBus x = new ArbitratedBus();
        for (int length = 0; length <= 4; length++) {
            for (int data : new int[] {1, 255, -1, LEAST}) {
                c.due("length " + length + ", data " + data, x.request(0, 0, true, length, data), BAD_VALUE);
            }
        }
        c.due("nothing was requested", x.waiting(0), 0);
        c.due("data 0", x.request(0, 0, true, 4, 0), 1);
    }

    @Edge(promise = 8, says = "NO_SUCH_NODE")
    static void requestOfNoNode(Check c) {
        ArbitratedBus x = new ArbitratedBus();
        refusesOtherNodes(c, node -> x.request(node, 1, false, 0, 0));
    }

    @Edge(promise = 8, says = "FULL if the node has 4 waiting frames.")
    static void fifthWaitingFrame(Check c) {
        ArbitratedBus x = new ArbitratedBus();
        for (int k = 1; k <= 4; k++) {
            c.due("frame " + k, x.request(1, 7, false, 0, 0), k);
        }
        c.due("a fifth", x.request(1, 7, false, 0, 0), FULL);
        c.due("a fifth that would be first", x.request(1, 0, false, 0, 0), FULL);
        c.due("another node has room", x.request(2, 0, false, 0, 0), 1);
        x.run(51);
        c.due("the frame of node 2 is sent", x.sent(2), 1);
        c.due("node 1 is full", x.request(1, 0, false, 0, 0), FULL);
    }

    @Edge(promise = 8, says = "FULL if the node has 4 waiting frames.")
    static void frameOnTheBusStillWaits(Check c) {
        ArbitratedBus x = zeros();
        for (int k = 1; k < 4; k++) {
            x.request(0, k, false, 0, 0);
        }
        x.run(49);
        c.due("the frame on the bus counts", x.request(0, 9, false, 0, 0), FULL);
        x.run(1);
        c.due("room as soon as it is sent", x.request(0, 9, false, 0, 0), 4);
    }

    @Edge(promise = 8, says = "Returns the number of waiting frames of the node")
    static void numberOfWaitingFramesOfThatNode(Check c) {
        ArbitratedBus x = new ArbitratedBus();
        for (int k = 1; k <= 4; k++) {
            c.due("node 0", x.request(0, 9 - k, k % 2 == 0, 0, 0), k);
        }
        c.due("node 3", x.request(3, 9, false, 0, 0), 1);
    }

    @Edge(promise = 8, says = "it becomes a waiting frame of a node.")
    static void requestInEveryPhase(Check c) {
        ArbitratedBus x = new ArbitratedBus();
        x.detach(1);
        c.due("detached", x.request(1, 5, false, 0, 0), 1);
        x.attach(1);
        c.due("joining", x.request(1, 5, false, 0, 0), 2);
        c.due("bus-off", busOff(1).request(0, 5, false, 0, 0), 2);
        ArbitratedBus y = zeros();
        y.run(10);
        c.due("transmitter", y.request(0, 0, false, 0, 0), 2);
        c.due("receiver", y.request(1, 0, false, 0, 0), 1);
    }

    @Edge(promise = 8, says = ORDER)
    static void requestOrderOfChecks(Check c) {
        ArbitratedBus x = new ArbitratedBus();
        fillWaiting(x, 1);
        c.due("no node, bad identifier", x.request(4, 2048, false, 0, 0), NO_SUCH_NODE);
        c.due("no node, bad length", x.request(-1, 0, false, 5, 0), NO_SUCH_NODE);
        c.due("no node, bad data", x.request(4, 0, true, 4, 1), NO_SUCH_NODE);
        c.due("bad identifier, full", x.request(1, -1, false, 0, 0), BAD_VALUE);
        c.due("bad length, full", x.request(1, 0, false, -1, 0), BAD_VALUE);
        c.due("bad data, full", x.request(1, 0, false, 0, 1), BAD_VALUE);
        c.due("remote with data, full", x.request(1, 0, true, 1, 1), BAD_VALUE);
    }

    @Edge(promise = 8, says = CHANGES_NOTHING)
    static void refusedRequestChangesNothing(Check c) {
        changesNothing(c, EdgeKit::busyState, x -> {
            c.due("no node", x.request(4, 1, false, 0, 0), NO_SUCH_NODE);
            c.due("bad identifier", x.request(3, 2048, false, 0, 0), BAD_VALUE);
            c.due("bad length", x.request(3, 1, false, 5, 0), BAD_VALUE);
            c.due("bad data", x.request(3, 1, false, 3, -1), BAD_VALUE);
            c.due("remote with data", x.request(3, 1, true, 1, 1), BAD_VALUE);
            c.due("full", x.request(0, 1, false, 0, 0), FULL);
        });
    }

    @Edge(promise = 8, says = WAITING_ORDER)
    static void lowestIdentifierFirst(Check c) {
        ArbitratedBus x = new ArbitratedBus();
        x.request(0, 1024, false, 0, 0);
        x.request(0, 2047, false, 0, 0);
        x.request(0, 0, true, 0, 0);
        x.request(0, 1023, true, 0, 0);
        c.due("first", x.waitingFrame(0, 0), 1);
        c.due("second", x.waitingFrame(0, 1), 2047);
        c.due("third", x.waitingFrame(0, 2), 2048);
        c.due("fourth", x.waitingFrame(0, 3), 4094);
    }

    @Edge(promise = 8, says = WAITING_ORDER)
    static void dataBeforeRemote(Check c) {
        ArbitratedBus x = new ArbitratedBus();
        x.request(0, 5, true, 0, 0);
        x.request(0, 5, false, 0, 0);
        c.due("data first", x.waitingFrame(0, 0), 10);
        c.due("remote last", x.waitingFrame(0, 1), 11);
        x.request(0, 5, true, 1, 0);
        x.request(0, 5, false, 1, 7);
        c.due("data", x.waitingFrame(0, 1), 10);
        c.due("remote", x.waitingFrame(0, 2), 11);
    }

    @Edge(promise = 8, says = WAITING_ORDER)
    static void equalFramesInTheOrderOfRequests(Check c) {
        ArbitratedBus x = new ArbitratedBus();
        x.request(0, 5, false, 1, 200);
        x.request(0, 5, false, 1, 100);
        x.request(0, 5, false, 1, 150);
        x.request(0, 5, false, 0, 0);
        x.settle();
        c.due("first", x.receivedData(1, 0), 200);
        c.due("second", x.receivedData(1, 1), 100);
        c.due("third", x.receivedData(1, 2), 150);
        c.due("fourth", x.receivedLength(1, 3), 0);
        ArbitratedBus y = new ArbitratedBus();
        y.request(0, 5, true, 4, 0);
        y.request(0, 5, true, 0, 0);
        y.settle();
        c.due("first remote frame", y.receivedLength(1, 0), 4);
        c.due("second remote frame", y.receivedLength(1, 1), 0);
    }

    @Edge(promise = 8, says = "its frame is the one that was the first of its waiting frames when it drove the start bit.")
    static void lowerFrameBeforeAndAfterTheStartBit(Check c) {
        ArbitratedBus x = new ArbitratedBus();
        x.request(0, 9, false, 1, 9);
        x.request(0, 8, false, 1, 8);
        x.run(1);
        c.due("after the start bit", x.request(0, 7, false, 1, 7), 3);
        c.due("it is the first that waits", x.waitingFrame(0, 0), 14);
        x.settle();
        c.due("first on the bus", x.receivedData(1, 0), 8);
        c.due("second on the bus", x.receivedData(1, 1), 7);
        c.due("third on the bus", x.receivedData(1, 2), 9);
        c.due("each once", x.sent(0), 3);
    }

    // ---- promise 9

    @Edge(promise = 9, says = "NO_SUCH_NODE")
    static void cancelOfNoNode(Check c) {
        ArbitratedBus x = new ArbitratedBus();
        refusesOtherNodes(c, node -> x.cancel(node, 1));
    }

    @Edge(promise = 9, says = CHANGES_NOTHING)
    static void refusedCancelChangesNothing(Check c) {
        changesNothing(c, EdgeKit::busyState, x -> c.due("no node", x.cancel(4, 1000), NO_SUCH_NODE));
    }

    @Edge(promise = 9, says = "Returns the number of frames that are removed")
    static void cancelNothing(Check c) {
        ArbitratedBus x = new ArbitratedBus();
        c.due("nothing waits", x.cancel(0, 0), 0);
        x.request(0, 5, false, 0, 0);
        for (int identifier : new int[] {4, 6, -1, 2048, 5 + 2048, 5 - (1 << 31), LEAST, GREATEST}) {
            c.due("identifier " + identifier, x.cancel(0, identifier), 0);
        }
        for (int identifier = -20; identifier < 0; identifier++) {
            c.due("identifier " + identifier, x.cancel(0, identifier), 0);
        }
        c.due("another node", x.cancel(1, 5), 0);
        c.due("it waits", x.waiting(0), 1);
    }

    @Edge(promise = 9, says = "Returns the number of frames that are removed")
    static void cancelAllFour(Check c) {
        ArbitratedBus x = new ArbitratedBus();
        x.request(0, 5, false, 0, 0);
        x.request(0, 5, false, 1, 1);
        x.request(0, 5, true, 0, 0);
        x.request(0, 5, true, 1, 0);
        c.due("all four", x.cancel(0, 5), 4);
        c.due("nothing waits", x.waiting(0), 0);
        c.due("again", x.cancel(0, 5), 0);
        x.run(1);
        c.due("nothing is sent", x.level(1), 1);
        c.due("room again", x.request(0, 1, false, 0, 0), 1);
    }

    @Edge(promise = 9, says = CANCELS)
    static void cancelKeepsOtherIdentifiers(Check c) {
        ArbitratedBus x = new ArbitratedBus();
        x.request(0, 4, true, 0, 0);
        x.request(0, 5, false, 0, 0);
        x.request(0, 5, true, 0, 0);
        x.request(0, 6, false, 0, 0);
        c.due("both of them", x.cancel(0, 5), 2);
        c.due("the one before", x.waitingFrame(0, 0), 9);
        c.due("the one behind", x.waitingFrame(0, 1), 12);
        c.due("no more", x.waitingFrame(0, 2), NONE);
    }

    @Edge(promise = 9, says = CANCELS)
    static void cancelFromStartBitToLastBit(Check c) {
        ArbitratedBus x = zeros();
        x.save(0);
        c.due("before the start bit", x.cancel(0, 0), 1);
        x.restore(0);
        x.run(1);
        c.due("after the start bit", x.cancel(0, 0), 0);
        x.run(48);
        c.due("before its last bit", x.cancel(0, 0), 0);
        c.due("it waits", x.waiting(0), 1);
        x.run(1);
        c.due("it is sent", x.sent(0), 1);
        c.due("nothing to cancel", x.cancel(0, 0), 0);
    }

    @Edge(promise = 9, says = CANCELS)
    static void cancelEqualFramesOfTheOneOnTheBus(Check c) {
        ArbitratedBus x = new ArbitratedBus();
        x.request(0, 5, true, 2, 0);
        x.run(1);
        x.request(0, 5, false, 1, 1);
        x.request(0, 5, true, 3, 0);
        x.request(0, 5, false, 1, 2);
        c.due("three of four", x.cancel(0, 5), 3);
        c.due("the one on the bus", x.waitingFrame(0, 0), 11);
        x.settle();
        c.due("it is sent", x.sent(0), 1);
        c.due("it was that one", x.receivedLength(1, 0), 2);
        c.due("nothing waits", x.waiting(0), 0);
    }

    @Edge(promise = 9, says = CANCELS)
    static void cancelBeforeAndBehindTheOneOnTheBus(Check c) {
        ArbitratedBus x = new ArbitratedBus();
        x.request(0, 5, false, 1, 55);
        x.run(1);
        x.request(0, 4, false, 1, 44);
        x.request(0, 3, false, 1, 33);
        x.request(0, 6, false, 1, 66);
        c.due("one before it", x.cancel(0, 3), 1);
        c.due("one behind it", x.cancel(0, 6), 1);
        c.due("not itself", x.cancel(0, 5), 0);
        x.settle();
        c.due("the one on the bus", x.receivedData(1, 0), 55);
        c.due("then the other", x.receivedData(1, 1), 44);
        c.due("no more", x.received(1), 2);
    }

    @Edge(promise = 9, says = CANCELS)
    static void cancelAfterAnErrorOrALostArbitration(Check c) {
        ArbitratedBus x = zeros();
        x.disturb(1, 2);
        x.run(3);
        x.save(0);
        c.due("in the flag", x.phase(0), FLAG);
        c.due("it is not being sent", x.cancel(0, 0), 1);
        x.restore(0);
        x.detach(0);
        c.due("nor by a detached node", x.cancel(0, 0), 1);
        ArbitratedBus y = new ArbitratedBus();
        y.request(0, 2047, false, 0, 0);
        y.request(1, 1023, false, 0, 0);
        y.run(1);
        c.due("as long as it has not lost", y.cancel(0, 2047), 0);
        y.run(1);
        c.due("as soon as it has lost", y.cancel(0, 2047), 1);
        c.due("but not that of the winner", y.cancel(1, 1023), 0);
    }

    // ---- promise 10

    @Edge(promise = 10, says = "the set of nodes, bit k for node k, 1 to 15")
    static void setOfNodesOutOfRange(Check c) {
        ArbitratedBus x = new ArbitratedBus();
        for (int nodes : new int[] {0, -1, 16, 17, 31, LEAST, GREATEST}) {
            c.due("nodes " + nodes, x.disturb(nodes, 0), BAD_VALUE);
        }
        c.due("nodes 1", x.disturb(1, 0), 1);
        c.due("nodes 15", x.disturb(15, 0), 2);
    }

    @Edge(promise = 10, says = "the set of nodes, bit k for node k, 1 to 15")
    static void everySetOfNodes(Check c) {
        for (int nodes = 1; nodes <= 15; nodes++) {
            ArbitratedBus x = new ArbitratedBus();
            x.disturb(nodes, 0);
            x.run(1);
            for (int node = 0; node < 4; node++) {
                c.due("nodes " + nodes + ", node " + node, x.phase(node), (nodes >> node & 1) == 1 ? FRAME : IDLE);
            }
        }
    }

    @Edge(promise = 10, says = "`delay`: 0 (the next bit time) to 200")
    static void delayOutOfRange(Check c) {
        ArbitratedBus x = new ArbitratedBus();
        for (int delay : new int[] {-1, 201, LEAST, GREATEST}) {
            c.due("delay " + delay, x.disturb(1, delay), BAD_VALUE);
        }
        c.due("delay 0", x.disturb(1, 0), 1);
        c.due("delay 200", x.disturb(1, 200), 2);
    }

    @Edge(promise = 10, says = "at the bit time that begins after delay further bit times")
    static void shortestAndLongestDelay(Check c) {
        for (int delay : new int[] {0, 1, 199, 200}) {
            ArbitratedBus x = new ArbitratedBus();
            x.disturb(8, delay);
            if (delay > 0) {
                x.run(delay);
            }
            c.due("delay " + delay + ", before", x.phase(3), IDLE);
            x.run(1);
            c.due("delay " + delay + ", then", x.phase(3), FRAME);
        }
    }

    @Edge(promise = 10, says = "the samples of some nodes are inverted.")
    static void disturbancesKeepTheirNodes(Check c) {
        // Eight disturbances of one or two nodes each; those of node 3, which is detached, pass first.
        int[][] sets = {{8, 0}, {1, 3}, {8, 1}, {2, 4}, {8, 2}, {4, 5}, {8, 3}, {8, 6}};
        ArbitratedBus x = new ArbitratedBus();
        x.detach(3);
        for (int[] set : sets) {
            x.disturb(set[0], set[1]);
        }
        x.run(3);
        for (int node = 0; node < 3; node++) {
            c.due("node " + node + " is not yet disturbed", x.phase(node), IDLE);
            x.run(1);
            c.due("node " + node + " is disturbed", x.phase(node), FRAME);
        }
        c.due("one is left, and this one", x.disturb(8, 0), 2);
    }

    @Edge(promise = 10, says = "a disturbance inverts the sample of a node at one bit time.")
    static void onlyOneBitTimeIsInverted(Check c) {
        ArbitratedBus x = zeros();
        x.disturb(2, 0);
        x.run(1);
        c.due("a 0 is sampled as 1", x.phase(1), IDLE);
        x.run(1);
        c.due("the next sample is right", x.phase(1), FRAME);
        ArbitratedBus y = new ArbitratedBus();
        y.detach(1);
        y.attach(1);
        y.disturb(2, 0);
        y.run(11);
        c.due("a 1 is sampled as 0", y.phase(1), JOINING);
        y.run(1);
        c.due("and only that one", y.phase(1), IDLE);
        c.due("the level is as it was", y.level(12), 1);
    }

    @Edge(promise = 10, says = "A node is not inverted twice at the same bit time, even if several disturbances name it.")
    static void severalDisturbancesAtOnce(Check c) {
        for (int several = 1; several <= 8; several++) {
            ArbitratedBus x = new ArbitratedBus();
            for (int k = 0; k < several; k++) {
                x.disturb(k == 0 ? 5 : 4, 3);
            }
            x.run(4);
            c.due(several + " disturbances, node 2", x.phase(2), FRAME);
            c.due(several + " disturbances, node 0", x.phase(0), FRAME);
            c.due(several + " disturbances, node 1", x.phase(1), IDLE);
        }
    }

    @Edge(promise = 10, says = "A node is not inverted twice at the same bit time, even if several disturbances name it.")
    static void disturbancesAddedAtOtherTimes(Check c) {
        ArbitratedBus x = new ArbitratedBus();
        x.disturb(3, 10);
        x.run(7);
        c.due("for the same bit time", x.disturb(6, 3), 2);
        x.run(4);
        c.due("node 0", x.phase(0), FRAME);
        c.due("node 1, named twice", x.phase(1), FRAME);
        c.due("node 2", x.phase(2), FRAME);
        c.due("node 3", x.phase(3), IDLE);
    }

    @Edge(promise = 10, says = "Returns the number of disturbances whose bit times have not passed")
    static void disturbancesPass(Check c) {
        ArbitratedBus x = new ArbitratedBus();
        x.disturb(1, 0);
        x.disturb(1, 1);
        c.due("two, and this one", x.disturb(1, 200), 3);
        x.run(1);
        c.due("the first has passed", x.disturb(1, 199), 3);
        x.run(1);
        c.due("the second has passed", x.disturb(1, 198), 3);
        x.run(198);
        c.due("the bit time of the others is the next", x.disturb(1, 0), 4);
        x.run(1);
        c.due("all have passed", x.disturb(1, 0), 1);
    }

    @Edge(promise = 10, says = "FULL if there are 8 of them.")
    static void ninthDisturbance(Check c) {
        ArbitratedBus x = new ArbitratedBus();
        for (int k = 1; k <= 8; k++) {
            c.due("disturbance " + k, x.disturb(8, k == 1 ? 2 : 100), k);
        }
        c.due("a ninth", x.disturb(8, 0), FULL);
        x.run(2);
        c.due("none has passed", x.disturb(8, 0), FULL);
        x.run(1);
        c.due("one has passed", x.disturb(8, 0), 8);
        c.due("full again", x.disturb(8, 0), FULL);
    }

    @Edge(promise = 10, says = ORDER)
    static void badDisturbanceBeforeFull(Check c) {
        ArbitratedBus x = new ArbitratedBus();
        for (int k = 0; k < 8; k++) {
            x.disturb(1, 9);
        }
        c.due("no nodes, full", x.disturb(0, 0), BAD_VALUE);
        c.due("bad delay, full", x.disturb(1, 201), BAD_VALUE);
        c.due("full", x.disturb(1, 200), FULL);
    }

    @Edge(promise = 10, says = CHANGES_NOTHING)
    static void refusedDisturbanceChangesNothing(Check c) {
        changesNothing(c, EdgeKit::busyState, x -> {
            c.due("nodes 16", x.disturb(16, 0), BAD_VALUE);
            c.due("delay -1", x.disturb(1, -1), BAD_VALUE);
            c.due("full", x.disturb(1, 0), FULL);
        });
        changesNothing(c, x -> x.request(0, 5, false, 0, 0), x -> c.due("nodes 0", x.disturb(0, 0), BAD_VALUE));
    }

    // ---- promise 11

    @Edge(promise = 11, says = "the number of bit times, 1 to 200")
    static void bitsOutOfRange(Check c) {
        ArbitratedBus x = zeros();
        for (int bits : new int[] {0, -1, 201, LEAST, GREATEST}) {
            c.due("bits " + bits, x.run(bits), BAD_VALUE);
        }
        c.due("no time has passed", x.time(), 0);
        c.due("bits 1", x.run(1), 0);
        c.due("one has passed", x.time(), 1);
        c.due("bits 200", x.run(200), 1);
        c.due("and 200 more", x.time(), 201);
    }

    @Edge(promise = 11, says = "Lets bit times pass.")
    static void asManyBitTimesAsAskedFor(Check c) {
        ArbitratedBus x = new ArbitratedBus();
        ArbitratedBus y = new ArbitratedBus();
        x.detach(1);
        y.detach(1);
        x.attach(1);
        y.attach(1);
        for (int bit = 1; bit <= 11; bit++) {
            c.due("sample " + bit, x.phase(1), JOINING);
            x.run(1);
        }
        y.run(11);
        c.due("eleven by one", x.phase(1), IDLE);
        c.due("eleven at once", y.phase(1), IDLE);
    }

    @Edge(promise = 11, says = CHANGES_NOTHING)
    static void refusedRunChangesNothing(Check c) {
        changesNothing(c, EdgeKit::busyState, x -> {
            c.due("bits 0", x.run(0), BAD_VALUE);
            c.due("bits 201", x.run(201), BAD_VALUE);
        });
    }

    @Edge(promise = 11, says = "Returns the number of frames that are sent in them")
    static void framesSentInTheseBits(Check c) {
        ArbitratedBus x = zeros();
        c.due("up to the sixth end bit", x.run(49), 0);
        c.due("the seventh end bit", x.run(1), 1);
        c.due("after it", x.run(200), 0);
    }

    @Edge(promise = 11, says = "Returns the number of frames that are sent in them")
    static void framesOfAllNodesSentInTheseBits(Check c) {
        ArbitratedBus x = new ArbitratedBus();
        for (int node = 0; node < 4; node++) {
            x.request(node, 0, node % 2 == 1, 0, 0);
        }
        // Nodes 0 and 2 send the same data frame at once, then 1 and 3 the same remote frame.
        c.due("the data frame of two nodes", x.run(50), 2);
        c.due("the remote frame of two nodes", x.run(60), 2);
        for (int node = 0; node < 4; node++) {
            c.due("sent by node " + node, x.sent(node), 1);
        }
    }

    // ---- promise 12

    @Edge(promise = 12, says = "Returns the number of bit times that have passed")
    static void settledAlready(Check c) {
        ArbitratedBus x = new ArbitratedBus();
        c.due("a new bus", x.settle(), 0);
        c.due("no time has passed", x.time(), 0);
        x.request(0, 0, false, 0, 0);
        c.due("a frame with its intermission", x.settle(), ZEROS_BITS);
        c.due("settled", x.settle(), 0);
        c.due("the time", x.time(), ZEROS_BITS);
    }

    @Edge(promise = 12, says = SETTLES)
    static void settleWaitsForEveryPhase(Check c) {
        ArbitratedBus x = zeros();
        x.run(ZEROS_BITS - 1);
        c.due("the last bit of the intermission", x.settle(), 1);
        x.detach(3);
        x.attach(3);
        c.due("a node that joins", x.settle(), 11);
        ArbitratedBus y = alone();
        y.setLimits(8, 200, 1);
        y.disturb(1, 0);
        y.run(1);
        y.cancel(0, 0);
        c.due("flag, delimiter, intermission and suspension", y.settle(), 6 + 8 + 3 + 8);
    }

    @Edge(promise = 12, says = SETTLES)
    static void settleLeavesDetachedNodes(Check c) {
        ArbitratedBus x = zeros();
        x.detach(0);
        c.due("a detached node with a frame", x.settle(), 0);
        for (int node = 1; node < 4; node++) {
            x.detach(node);
        }
        c.due("no node at all", x.settle(), 0);
    }

    @Edge(promise = 12, says = SETTLES)
    static void settleLeavesNodesInBusOff(Check c) {
        ArbitratedBus x = busOff(16);
        c.due("it has a frame", x.waiting(0), 1);
        c.due("a node in bus-off with a frame", x.settle(), 0);
        x.attach(1);
        c.due("only the other is waited for", x.settle(), 11);
        c.due("it is in bus-off still", x.phase(0), BUS_OFF);
    }

    /** Twelve frames of four bytes; then a slot keeps the state from which settle() needs some bit times. */
    private static ArbitratedBus settlingAfter(int bits) {
        ArbitratedBus x = new ArbitratedBus();
        for (int k = 0; k < 12; k++) {
            x.request(k % 4, k, false, 4, 0x01010101);
        }
        x.save(0);
        int all = 0;
        for (int k = 0; k < 3; k++) {
            int passed = x.settle();
            all += passed == NONE ? 1000 : passed;
        }
        x.restore(0);
        for (int left = all - bits; left > 0; left -= 200) {
            x.run(Math.min(left, 200));
        }
        return x;
    }

    @Edge(promise = 12, says = "but not more than 1000.")
    static void settleAfterThousand(Check c) {
        ArbitratedBus x = settlingAfter(1000);
        int before = x.time();
        c.due("1000", x.settle(), 1000);
        c.due("1000 have passed", x.time() - before, 1000);
        c.due("settled", x.settle(), 0);
        c.due("999", settlingAfter(999).settle(), 999);
    }

    @Edge(promise = 12, says = "NONE if it is not so after 1000 (they have passed nevertheless).")
    static void settleNotAfterThousand(Check c) {
        ArbitratedBus x = settlingAfter(1001);
        int before = x.time();
        c.due("1001", x.settle(), NONE);
        c.due("1000 have passed", x.time() - before, 1000);
        c.due("one is left", x.settle(), 1);
        ArbitratedBus y = alone();
        c.due("never", y.settle(), NONE);
        c.due("1000 have passed", y.time(), 1000);
        c.due("never", y.settle(), NONE);
        c.due("1000 more have passed", y.time(), 2000);
    }
}
