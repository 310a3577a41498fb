/** The boundary cases of promises 1 to 7, sentence by sentence. */
final class ConfigurationEdgesTest extends EdgeKit {
    public static void main(String[] args) {
        Edges.runAll(ConfigurationEdgesTest.class);
    }

    // ---- promise 1

    @Edge(promise = 1, says = "Creates a bus with four idle nodes")
    static void newBusHasFourIdleNodes(Check c) {
        ArbitratedBus x = new ArbitratedBus();
        for (int node = 0; node < 4; node++) {
            c.due("phase of node " + node, x.phase(node), IDLE);
        }
        c.due("phase of node 4", x.phase(4), NO_SUCH_NODE);
        c.due("settle()", x.settle(), 0);
    }

    @Edge(promise = 1, says = "Each node is in one of these phases: DETACHED, BUS_OFF, JOINING, IDLE (at first)")
    static void idleNodesStayIdle(Check c) {
        ArbitratedBus x = new ArbitratedBus();
        x.run(200);
        for (int node = 0; node < 4; node++) {
            c.due("phase of node " + node, x.phase(node), IDLE);
        }
        for (int back = 1; back <= 200; back++) {
            c.due("level " + back + " ago", x.level(back), 1);
        }
    }

    @Edge(promise = 1, says = "without frames, filters and answers")
    static void newBusHasNoFrames(Check c) {
        ArbitratedBus x = new ArbitratedBus();
        for (int node = 0; node < 4; node++) {
            c.due("waiting", x.waiting(node), 0);
            c.due("waitingFrame", x.waitingFrame(node, 0), NONE);
            c.due("received", x.received(node), 0);
            c.due("receivedFrame", x.receivedFrame(node, 0), NONE);
            c.due("cancel", x.cancel(node, 0), 0);
        }
        c.due("winner", x.winner(), NONE);
    }

    @Edge(promise = 1, says = "without frames, filters and answers")
    static void newBusHasNoFilters(Check c) {
        ArbitratedBus x = new ArbitratedBus();
        x.request(0, 0, false, 0, 0);
        x.request(0, 2047, false, 0, 0);
        x.settle();
        for (int node = 1; node < 4; node++) {
            c.due("received by node " + node, x.received(node), 2);
        }
        for (int node = 0; node < 4; node++) {
            c.due("mask of node " + node, x.setFilter(node, 5, 5), 0);
        }
    }

    @Edge(promise = 1, says = "without frames, filters and answers")
    static void newBusHasNoAnswers(Check c) {
        ArbitratedBus x = new ArbitratedBus();
        for (int node = 0; node < 4; node++) {
            c.due("removeAnswer of node " + node, x.removeAnswer(node, 0), NONE);
        }
        x.request(0, 0, true, 0, 0);
        x.settle();
        c.due("no answer comes", x.received(0), 0);
        c.due("the remote frame is received", x.receivedFrame(1, 0), 1);
    }

    @Edge(promise = 1, says = "without disturbances and messages")
    static void newBusHasNoDisturbances(Check c) {
        c.due("the first disturbance", new ArbitratedBus().disturb(1, 0), 1);
    }

    @Edge(promise = 1, says = "without disturbances and messages")
    static void newBusHasNoMessages(Check c) {
        ArbitratedBus x = new ArbitratedBus();
        c.due("misses", x.misses(), 0);
        c.due("responseTime(0)", x.responseTime(0), BAD_VALUE);
        c.due("removeMessage(0)", x.removeMessage(0), NONE);
        c.due("the first message", x.addMessage(0, 0, 1, 0), 1);
    }

    @Edge(promise = 1, says = "with all counters and the time 0")
    static void newBusHasCountersAndTimeZero(Check c) {
        ArbitratedBus x = new ArbitratedBus();
        for (int node = 0; node < 4; node++) {
            c.due("transmitErrors", x.transmitErrors(node), 0);
            c.due("receiveErrors", x.receiveErrors(node), 0);
            for (int kind = 1; kind <= 5; kind++) {
                c.due("errors of kind " + kind, x.errors(node, kind), 0);
            }
            c.due("lostArbitrations", x.lostArbitrations(node), 0);
            c.due("overloads", x.overloads(node), 0);
            c.due("sent", x.sent(node), 0);
            c.due("overruns", x.overruns(node), 0);
        }
        c.due("time", x.time(), 0);
    }

    @Edge(promise = 1, says = "an empty text and empty slots")
    static void newBusHasEmptyText(Check c) {
        ArbitratedBus x = new ArbitratedBus();
        c.due("faultPosition", x.faultPosition(), NONE);
        c.due("load", x.load(), 0);
        c.due("clearText", x.clearText(), 0);
        c.due("the first byte", x.append('0'), 1);
    }

    @Edge(promise = 1, says = "an empty text and empty slots")
    static void newBusHasEmptySlots(Check c) {
        ArbitratedBus x = new ArbitratedBus();
        c.due("slot 0", x.restore(0), NONE);
        c.due("slot 1", x.restore(1), NONE);
    }

    // ---- promise 2

    @Edge(promise = 2, says = "the passive limit, 8 to 128")
    static void passiveLimitTooSmall(Check c) {
        ArbitratedBus x = new ArbitratedBus();
        for (int passive : new int[] {7, 0, -1, -8, LEAST}) {
            c.due("passive limit " + passive, x.setLimits(passive, 200, 1), BAD_VALUE);
        }
        c.due("passive limit 8", x.setLimits(8, 200, 1), 128);
    }

    @Edge(promise = 2, says = "the passive limit, 8 to 128")
    static void passiveLimitTooLarge(Check c) {
        ArbitratedBus x = new ArbitratedBus();
        for (int passive : new int[] {129, 255, GREATEST}) {
            c.due("passive limit " + passive, x.setLimits(passive, 256, 1), BAD_VALUE);
        }
        x.setLimits(9, 256, 1);
        c.due("passive limit 128", x.setLimits(128, 256, 1), 9);
        c.due("it was set", x.setLimits(8, 16, 1), 128);
    }

    @Edge(promise = 2, says = "the off limit, 16 to 256, greater than the passive limit")
    static void offLimitTooSmall(Check c) {
        ArbitratedBus x = new ArbitratedBus();
        for (int off : new int[] {15, 9, 0, -1, LEAST}) {
            c.due("off limit " + off, x.setLimits(8, off, 1), BAD_VALUE);
        }
        c.due("off limit 16", x.setLimits(8, 16, 1), 128);
    }

    @Edge(promise = 2, says = "the off limit, 16 to 256, greater than the passive limit")
    static void offLimitTooLarge(Check c) {
        ArbitratedBus x = new ArbitratedBus();
        for (int off : new int[] {257, 264, GREATEST}) {
            c.due("off limit " + off, x.setLimits(8, off, 1), BAD_VALUE);
        }
        c.due("off limit 256", x.setLimits(8, 256, 1), 128);
    }

    @Edge(promise = 2, says = "greater than the passive limit")
    static void offLimitNotGreaterThanPassiveLimit(Check c) {
        ArbitratedBus x = new ArbitratedBus();
        c.due("off limit equal, 16", x.setLimits(16, 16, 1), BAD_VALUE);
        c.due("off limit equal, 128", x.setLimits(128, 128, 1), BAD_VALUE);
        c.due("off limit one below", x.setLimits(100, 99, 1), BAD_VALUE);
        c.due("off limit one above", x.setLimits(100, 101, 1), 128);
        c.due("off limit one above its least", x.setLimits(15, 16, 1), 100);
    }

    @Edge(promise = 2, says = "the recovery, 1 to 16")
    static void recoveryTooSmall(Check c) {
        ArbitratedBus x = new ArbitratedBus();
        for (int recovery : new int[] {0, -1, LEAST}) {
            c.due("recovery " + recovery, x.setLimits(8, 16, recovery), BAD_VALUE);
        }
        c.due("recovery 1", x.setLimits(8, 16, 1), 128);
    }

    @Edge(promise = 2, says = "the recovery, 1 to 16")
    static void recoveryTooLarge(Check c) {
        ArbitratedBus x = new ArbitratedBus();
        for (int recovery : new int[] {17, 100, GREATEST}) {
            c.due("recovery " + recovery, x.setLimits(8, 16, recovery), BAD_VALUE);
        }
        c.due("recovery 16", x.setLimits(8, 16, 16), 128);
    }

    @Edge(promise = 2, says = "Sets the limits.")
    static void lowestLimitsHold(Check c) {
        ArbitratedBus x = alone();
        x.setLimits(8, 16, 1);
        failAtStart(x);
        c.due("passive with 8", x.isPassive(0), 1);
        c.due("not off with 8", x.phase(0), IDLE);
        x.disturb(1, 0);
        x.run(1);
        c.due("off with 16", x.phase(0), BUS_OFF);
        x.run(10);
        c.due("ten samples", x.phase(0), BUS_OFF);
        x.run(1);
        c.due("one sequence", x.phase(0), IDLE);
    }

    @Edge(promise = 2, says = "Sets the limits.")
    static void highestLimitsHold(Check c) {
        ArbitratedBus x = alone();
        x.setLimits(8, 16, 1);
        x.setLimits(128, 256, 16);
        for (int k = 0; k < 15; k++) {
            failAtStart(x);
        }
        c.due("not passive with 120", x.isPassive(0), 0);
        for (int k = 0; k < 16; k++) {
            failAtStart(x);
        }
        c.due("not off with 248", x.phase(0), IDLE);
        x.disturb(1, 0);
        x.run(1);
        c.due("off with 256", x.phase(0), BUS_OFF);
        x.run(175);
        c.due("175 samples", x.phase(0), BUS_OFF);
        x.run(1);
        c.due("sixteen sequences", x.phase(0), IDLE);
    }

    @Edge(promise = 2, says = "Returns the previous passive limit")
    static void previousPassiveLimit(Check c) {
        ArbitratedBus x = new ArbitratedBus();
        c.due("at first", x.setLimits(8, 16, 1), 128);
        c.due("the same again", x.setLimits(8, 16, 1), 8);
        c.due("after it", x.setLimits(50, 60, 1), 8);
        x.setLimits(7, 16, 1);
        c.due("after a refused call", x.setLimits(51, 60, 1), 50);
    }

    @Edge(promise = 2, says = "BAD_VALUE")
    static void refusedLimitsChangeNothing(Check c) {
        changesNothing(c, EdgeKit::busyState, x -> {
            c.due("passive limit 7", x.setLimits(7, 200, 9), BAD_VALUE);
            c.due("passive limit 129", x.setLimits(129, 200, 9), BAD_VALUE);
            c.due("off limit 15", x.setLimits(8, 15, 9), BAD_VALUE);
            c.due("off limit 257", x.setLimits(8, 257, 9), BAD_VALUE);
            c.due("off limit equal", x.setLimits(64, 64, 9), BAD_VALUE);
            c.due("recovery 0", x.setLimits(64, 128, 0), BAD_VALUE);
            c.due("recovery 17", x.setLimits(64, 128, 17), BAD_VALUE);
        });
    }

    @Edge(promise = 2, says = "No phase changes by this.")
    static void limitsBelowTheCountersChangeNoPhase(Check c) {
        ArbitratedBus x = alone();
        failAtStart(x);
        failAtStart(x);
        c.due("transmit errors", x.transmitErrors(0), 16);
        x.setLimits(8, 16, 1);
        c.due("off limit reached, but idle", x.phase(0), IDLE);
        x.run(10);
        c.due("it sends", x.phase(0), FRAME);
        x.setLimits(9, 17, 1);
        c.due("in the frame", x.phase(0), FRAME);
    }

    @Edge(promise = 2, says = "No phase changes by this.")
    static void limitsEndNoBusOffAndNoSuspend(Check c) {
        ArbitratedBus x = busOff(16);
        x.run(30);
        x.setLimits(128, 256, 1);
        c.due("bus-off stays", x.phase(0), BUS_OFF);
        ArbitratedBus y = alone();
        y.setLimits(8, 200, 1);
        y.disturb(1, 0);
        y.run(18);
        c.due("suspended", y.phase(0), SUSPEND);
        y.setLimits(128, 256, 1);
        c.due("not passive any more", y.isPassive(0), 0);
        c.due("but suspended", y.phase(0), SUSPEND);
        y.run(7);
        c.due("for eight samples", y.phase(0), SUSPEND);
    }

    @Edge(promise = 2, says = "The off limit is at first 256, the recovery at first 4.")
    static void offLimitAtFirst(Check c) {
        ArbitratedBus x = alone();
        for (int k = 0; k < 31; k++) {
            failAtStart(x);
        }
        c.due("transmit errors", x.transmitErrors(0), 248);
        c.due("not off", x.phase(0), IDLE);
        x.disturb(1, 0);
        x.run(1);
        c.due("transmit errors", x.transmitErrors(0), 256);
        c.due("off", x.phase(0), BUS_OFF);
        x.run(43);
        c.due("one sample less than four sequences", x.phase(0), BUS_OFF);
        x.run(1);
        c.due("four sequences", x.phase(0), IDLE);
    }

    @Edge(promise = 2, says = "The off limit is at first 256, the recovery at first 4.")
    static void oneBelowTheOffLimitAtFirst(Check c) {
        ArbitratedBus x = alone();
        for (int k = 0; k < 31; k++) {
            failAtStart(x);
        }
        x.attach(1);
        x.settle();
        c.due("248, and a frame was sent", x.transmitErrors(0), 247);
        x.request(0, 0, false, 0, 0);
        x.disturb(1, 0);
        x.run(1);
        c.due("255", x.transmitErrors(0), 255);
        c.due("is not off", x.phase(0), FLAG);
    }

    // ---- promise 3

    @Edge(promise = 3, says = "the mask, 0 to 2047")
    static void maskOutOfRange(Check c) {
        ArbitratedBus x = new ArbitratedBus();
        for (int mask : new int[] {-1, 2048, 4095, LEAST, GREATEST}) {
            c.due("mask " + mask, x.setFilter(0, mask, 0), BAD_VALUE);
        }
        c.due("mask 2047", x.setFilter(0, 2047, 0), 0);
        c.due("mask 0", x.setFilter(0, 0, 0), 2047);
    }

    @Edge(promise = 3, says = "the code, 0 to 2047")
    static void codeOutOfRange(Check c) {
        ArbitratedBus x = new ArbitratedBus();
        for (int code : new int[] {-1, 2048, 4095, LEAST, GREATEST}) {
            c.due("code " + code, x.setFilter(0, 1, code), BAD_VALUE);
        }
        c.due("code 2047", x.setFilter(0, 2, 2047), 0);
        c.due("code 0", x.setFilter(0, 3, 0), 2);
    }

    @Edge(promise = 3, says = "NO_SUCH_NODE")
    static void filterOfNoNode(Check c) {
        ArbitratedBus x = new ArbitratedBus();
        refusesOtherNodes(c, node -> x.setFilter(node, 1, 1));
    }

    @Edge(promise = 3, says = ORDER)
    static void filterNodeBeforeValues(Check c) {
        ArbitratedBus x = new ArbitratedBus();
        c.due("no node, bad mask", x.setFilter(4, 2048, 0), NO_SUCH_NODE);
        c.due("no node, bad code", x.setFilter(-1, 0, -1), NO_SUCH_NODE);
    }

    @Edge(promise = 3, says = "Returns the previous mask")
    static void previousMaskOfThatNode(Check c) {
        ArbitratedBus x = new ArbitratedBus();
        c.due("node 0 at first", x.setFilter(0, 7, 1), 0);
        c.due("node 3 at first", x.setFilter(3, 9, 2), 0);
        c.due("node 0", x.setFilter(0, 0, 0), 7);
        c.due("node 3", x.setFilter(3, 0, 0), 9);
    }

    @Edge(promise = 3, says = CHANGES_NOTHING)
    static void refusedFilterChangesNothing(Check c) {
        changesNothing(c, EdgeKit::busyState, x -> {
            c.due("no node", x.setFilter(4, 0, 0), NO_SUCH_NODE);
            c.due("good mask, bad code", x.setFilter(1, 0, 2048), BAD_VALUE);
            c.due("bad mask, good code", x.setFilter(1, -1, 6), BAD_VALUE);
        });
    }

    @Edge(promise = 3, says = "If identifier and code agree in all bits of the mask, the frame passes the filter")
    static void everyBitOfTheMaskCounts(Check c) {
        for (int bit = 0; bit < 11; bit++) {
            ArbitratedBus x = new ArbitratedBus();
            x.setFilter(1, 1 << bit, 1 << bit);
            x.setFilter(2, 2047 ^ (1 << bit), 2047);
            x.setFilter(3, 1 << bit, 0);
            x.request(0, 1 << bit, false, 0, 0);
            x.request(0, 2047 ^ (1 << bit), false, 0, 0);
            x.settle();
            c.due("only with bit " + bit, x.received(1), 1);
            c.due("the frame with bit " + bit, x.receivedFrame(1, 0), 2 << bit);
            c.due("whatever bit " + bit + " is", x.received(2), 1);
            c.due("only without bit " + bit, x.receivedFrame(3, 0), 2 * (2047 ^ (1 << bit)));
        }
    }

    @Edge(promise = 3, says = "Sets the filter of a node.")
    static void emptyAndWholeMask(Check c) {
        ArbitratedBus x = new ArbitratedBus();
        x.setFilter(1, 0, 2047);
        x.setFilter(2, 2047, 2047);
        x.setFilter(3, 2047, 0);
        x.request(0, 0, false, 0, 0);
        x.request(0, 2047, false, 0, 0);
        x.settle();
        c.due("mask 0 lets all pass", x.received(1), 2);
        c.due("mask 2047, code 2047", x.receivedFrame(2, 0), 4094);
        c.due("nothing else", x.received(2), 1);
        c.due("mask 2047, code 0", x.receivedFrame(3, 0), 0);
        c.due("nothing else", x.received(3), 1);
    }

    // ---- promise 4

    @Edge(promise = 4, says = "`identifier`: 0 to 2047")
    static void answerIdentifierOutOfRange(Check c) {
        ArbitratedBus x = new ArbitratedBus();
        for (int identifier : new int[] {-1, 2048, LEAST, GREATEST}) {
            c.due("identifier " + identifier, x.setAnswer(0, identifier, 0, 0), BAD_VALUE);
        }
        c.due("identifier 0", x.setAnswer(0, 0, 0, 0), 1);
        c.due("identifier 2047", x.setAnswer(0, 2047, 0, 0), 2);
    }

    @Edge(promise = 4, says = "`length`: 0 to 4")
    static void answerLengthOutOfRange(Check c) {
        ArbitratedBus x = new ArbitratedBus();
        for (int length : new int[] {-1, 5, 8, LEAST, GREATEST}) {
            c.due("length " + length, x.setAnswer(0, 1, length, 0), BAD_VALUE);
        }
        c.due("length 0", x.setAnswer(0, 1, 0, 0), 1);
        c.due("length 4", x.setAnswer(0, 2, 4, 0), 2);
    }

    @Edge(promise = 4, says = "data has a bit that is not one of the lowest 8 * length")
    static void answerDataTooLarge(Check c) {
        for (int length = 0; length < 4; length++) {
            ArbitratedBus x = new ArbitratedBus();
            for (int bit = 8 * length; bit < 32; bit++) {
                c.due("length " + length + ", bit " + bit, x.setAnswer(0, 1, length, 1 << bit), BAD_VALUE);
            }
            c.due("length " + length + ", all its bits", x.setAnswer(0, 1, length, (1 << (8 * length)) - 1), 1);
        }
        c.due("length 4, all bits", new ArbitratedBus().setAnswer(0, 1, 4, -1), 1);
        c.due("length 4, the sign bit", new ArbitratedBus().setAnswer(0, 1, 4, LEAST), 1);
    }

    @Edge(promise = 4, says = "NO_SUCH_NODE")
    static void answerOfNoNode(Check c) {
        ArbitratedBus x = new ArbitratedBus();
        refusesOtherNodes(c, node -> x.setAnswer(node, 1, 1, 1));
    }

    @Edge(promise = 4, says = "FULL if it would have more than 4 answers.")
    static void fifthAnswer(Check c) {
        ArbitratedBus x = new ArbitratedBus();
        for (int k = 0; k < 4; k++) {
            c.due("answer " + k, x.setAnswer(1, 10 + k, 0, 0), k + 1);
        }
        c.due("a fifth", x.setAnswer(1, 14, 0, 0), FULL);
        c.due("of another node", x.setAnswer(2, 14, 0, 0), 1);
        x.removeAnswer(1, 12);
        c.due("room again", x.setAnswer(1, 14, 0, 0), 4);
        c.due("and full again", x.setAnswer(1, 12, 0, 0), FULL);
    }

    @Edge(promise = 4, says = "in place of its answer for this identifier")
    static void answerInPlaceAlthoughFull(Check c) {
        ArbitratedBus x = new ArbitratedBus();
        for (int k = 0; k < 4; k++) {
            x.setAnswer(1, 10 + k, 1, k);
        }
        for (int k = 0; k < 4; k++) {
            c.due("answer " + k + " in place", x.setAnswer(1, 10 + k, 2, 500 + k), 4);
        }
        for (int k = 0; k < 4; k++) {
            x.request(0, 10 + k, true, 0, 0);
            x.settle();
            c.due("length of answer " + k, x.receivedLength(0, k), 2);
            c.due("data of answer " + k, x.receivedData(0, k), 500 + k);
        }
        c.due("one is left out by removing", x.removeAnswer(1, 10), 3);
        c.due("it was there once", x.removeAnswer(1, 10), NONE);
    }

    @Edge(promise = 4, says = "Returns the number of answers of the node")
    static void numberOfAnswersOfThatNode(Check c) {
        ArbitratedBus x = new ArbitratedBus();
        c.due("first of node 0", x.setAnswer(0, 1, 0, 0), 1);
        c.due("first of node 3", x.setAnswer(3, 1, 0, 0), 1);
        c.due("the same again", x.setAnswer(0, 1, 0, 0), 1);
        c.due("second of node 0", x.setAnswer(0, 2, 0, 0), 2);
    }

    @Edge(promise = 4, says = ORDER)
    static void answerOrderOfChecks(Check c) {
        ArbitratedBus x = new ArbitratedBus();
        for (int k = 0; k < 4; k++) {
            x.setAnswer(1, k, 0, 0);
        }
        c.due("no node, bad identifier", x.setAnswer(4, -1, 0, 0), NO_SUCH_NODE);
        c.due("no node, bad length", x.setAnswer(-1, 0, 5, 0), NO_SUCH_NODE);
        c.due("no node, bad data", x.setAnswer(4, 0, 0, 1), NO_SUCH_NODE);
        c.due("bad identifier, full", x.setAnswer(1, 2048, 0, 0), BAD_VALUE);
        c.due("bad length, full", x.setAnswer(1, 9, 5, 0), BAD_VALUE);
        c.due("bad data, full", x.setAnswer(1, 9, 1, 256), BAD_VALUE);
    }

    @Edge(promise = 4, says = CHANGES_NOTHING)
    static void refusedAnswerChangesNothing(Check c) {
        changesNothing(c, EdgeKit::busyState, x -> {
            c.due("no node", x.setAnswer(4, 1, 0, 0), NO_SUCH_NODE);
            c.due("bad data in place", x.setAnswer(2, 1, 1, 256), BAD_VALUE);
            c.due("bad length in place", x.setAnswer(2, 1, 5, 0), BAD_VALUE);
            c.due("full", x.setAnswer(2, 9, 0, 0), FULL);
        });
    }

    // ---- promise 5

    @Edge(promise = 5, says = "Returns the number of answers that are left")
    static void answersThatAreLeft(Check c) {
        ArbitratedBus x = new ArbitratedBus();
        for (int k = 0; k < 4; k++) {
            x.setAnswer(1, k, 0, 0);
        }
        c.due("one in the middle", x.removeAnswer(1, 2), 3);
        c.due("the first", x.removeAnswer(1, 0), 2);
        c.due("the last", x.removeAnswer(1, 3), 1);
        c.due("the only one", x.removeAnswer(1, 1), 0);
    }

    @Edge(promise = 5, says = "NO_SUCH_NODE")
    static void removeAnswerOfNoNode(Check c) {
        ArbitratedBus x = new ArbitratedBus();
        refusesOtherNodes(c, node -> x.removeAnswer(node, 1));
    }

    @Edge(promise = 5, says = "NONE if the node has no answer for this identifier")
    static void removeAnswerThatIsNotThere(Check c) {
        ArbitratedBus x = new ArbitratedBus();
        c.due("none at all", x.removeAnswer(1, 5), NONE);
        x.setAnswer(1, 5, 0, 0);
        c.due("one below", x.removeAnswer(1, 4), NONE);
        c.due("one above", x.removeAnswer(1, 6), NONE);
        c.due("of another node", x.removeAnswer(2, 5), NONE);
        for (int identifier : new int[] {-1, 2048, 5 - (1 << 31), 5 + 2048, -5, LEAST, GREATEST}) {
            c.due("identifier " + identifier, x.removeAnswer(1, identifier), NONE);
        }
        c.due("removed", x.removeAnswer(1, 5), 0);
        c.due("removed already", x.removeAnswer(1, 5), NONE);
    }

    @Edge(promise = 5, says = "(nothing changes then)")
    static void removeAnswerThatIsNotThereChangesNothing(Check c) {
        changesNothing(c, EdgeKit::busyState, x -> {
            c.due("no such answer", x.removeAnswer(2, 9), NONE);
            c.due("no answer at all", x.removeAnswer(1, 1), NONE);
            c.due("no node", x.removeAnswer(4, 1), NO_SUCH_NODE);
        });
    }

    @Edge(promise = 5, says = NO_ERROR_APPLIES)
    static void removeAnswerNodeBeforeNone(Check c) {
        c.due("no node, no answer", new ArbitratedBus().removeAnswer(4, 9), NO_SUCH_NODE);
    }

    @Edge(promise = 5, says = "Removes an answer of a node.")
    static void removedAnswerDoesNotAnswer(Check c) {
        ArbitratedBus x = new ArbitratedBus();
        x.setAnswer(1, 5, 1, 7);
        x.setAnswer(1, 6, 1, 8);
        x.setAnswer(2, 7, 1, 9);
        x.removeAnswer(1, 5);
        x.request(0, 5, true, 1, 0);
        x.request(0, 6, true, 1, 0);
        x.settle();
        c.due("only the other is answered", x.received(0), 1);
        c.due("the other", x.receivedData(0, 0), 8);
        c.due("the remote frame is received then", x.receivedFrame(1, 0), 11);
    }

    // ---- promise 6

    @Edge(promise = 6, says = "Returns the phase in which it was")
    static void detachTellsEveryPhase(Check c) {
        ArbitratedBus x = zeros();
        c.due("idle", x.detach(3), IDLE);
        x.attach(3);
        c.due("joining", x.detach(3), JOINING);
        x.run(1);
        c.due("frame of a receiver", x.detach(2), FRAME);
        c.due("frame of the transmitter", x.detach(0), FRAME);
        c.due("bus-off", busOff(1).detach(0), BUS_OFF);
        ArbitratedBus y = alone();
        y.setLimits(8, 200, 1);
        y.disturb(1, 0);
        y.run(1);
        y.save(0);
        c.due("flag", y.detach(0), FLAG);
        y.restore(0);
        y.run(6);
        c.due("delimiter", y.detach(0), DELIMITER);
        y.restore(0);
        y.run(14);
        c.due("intermission", y.detach(0), INTERMISSION);
        y.restore(0);
        y.run(17);
        c.due("suspend", y.detach(0), SUSPEND);
        ArbitratedBus z = zeros();
        z.disturb(2, 49);
        z.run(50);
        c.due("overload", z.detach(1), OVERLOAD);
    }

    @Edge(promise = 6, says = "NO_SUCH_NODE")
    static void detachNoNode(Check c) {
        ArbitratedBus x = new ArbitratedBus();
        refusesOtherNodes(c, x::detach);
    }

    @Edge(promise = 6, says = "NOT_POSSIBLE if it is detached already.")
    static void detachTwice(Check c) {
        ArbitratedBus x = new ArbitratedBus();
        for (int node = 0; node < 4; node++) {
            c.due("first", x.detach(node), IDLE);
            c.due("again", x.detach(node), NOT_POSSIBLE);
            c.due("it is detached", x.phase(node), DETACHED);
        }
    }

    @Edge(promise = 6, says = CHANGES_NOTHING)
    static void refusedDetachChangesNothing(Check c) {
        changesNothing(c, x -> {
            busyState(x);
            x.detach(2);
        }, x -> {
            c.due("no node", x.detach(4), NO_SUCH_NODE);
            c.due("detached already", x.detach(2), NOT_POSSIBLE);
        });
    }

    @Edge(promise = 6, says = "Its counters, frames, filter and answers stay.")
    static void detachedNodeKeepsAll(Check c) {
        ArbitratedBus x = new ArbitratedBus();
        x.setFilter(1, 3, 3);
        x.setAnswer(1, 3, 0, 0);
        x.request(0, 3, false, 0, 0);
        x.settle();
        addNineErrors(x);
        x.request(1, 0, false, 0, 0);
        x.disturb(2, 0);
        x.run(1);
        x.detach(1);
        c.due("transmit errors", x.transmitErrors(1), 8);
        c.due("receive errors", x.receiveErrors(1), 9);
        c.due("errors of the kind", x.errors(1, BIT), 1);
        c.due("latest error", x.lastError(1), BIT);
        c.due("waiting frames", x.waitingFrame(1, 0), 0);
        c.due("received frames", x.receivedFrame(1, 0), 6);
        c.due("answers", x.removeAnswer(1, 3), 0);
        c.due("filter", x.setFilter(1, 0, 0), 3);
    }

    @Edge(promise = 6, says = "it is in the phase DETACHED")
    static void detachedNodeDrivesNothing(Check c) {
        ArbitratedBus x = zeros();
        x.run(4);
        x.detach(0);
        x.run(1);
        c.due("a transmitter", x.level(1), 1);
        ArbitratedBus y = zeros();
        y.disturb(1, 0);
        y.run(2);
        c.due("an active flag", y.level(1), 0);
        y.detach(0);
        y.run(1);
        c.due("no flag any more", y.level(1), 1);
    }

    @Edge(promise = 6, says = "Then each node that is not DETACHED samples the bus and acts as follows")
    static void detachedNodeSamplesNothing(Check c) {
        ArbitratedBus x = zeros();
        x.detach(1);
        x.disturb(2, 0);
        x.disturb(2, 60);
        x.run(100);
        c.due("it is detached", x.phase(1), DETACHED);
        c.due("it has received nothing", x.received(1), 0);
        c.due("it has had no error", x.lastError(1), NONE);
    }

    // ---- promise 7

    @Edge(promise = 7, says = "Returns the number of nodes that are not detached then")
    static void nodesThatAreNotDetached(Check c) {
        ArbitratedBus x = new ArbitratedBus();
        x.detach(2);
        c.due("all four", x.attach(2), 4);
        for (int node = 0; node < 4; node++) {
            x.detach(node);
        }
        for (int node = 0; node < 4; node++) {
            c.due("node " + node, x.attach(node), node + 1);
        }
    }

    @Edge(promise = 7, says = "Returns the number of nodes that are not detached then")
    static void nodesInBusOffAreNotDetached(Check c) {
        c.due("one in bus-off, one joining", busOff(1).attach(1), 2);
    }

    @Edge(promise = 7, says = "NO_SUCH_NODE")
    static void attachNoNode(Check c) {
        ArbitratedBus x = new ArbitratedBus();
        refusesOtherNodes(c, x::attach);
    }

    @Edge(promise = 7, says = "NOT_POSSIBLE if it is not detached.")
    static void attachWhatIsAttached(Check c) {
        ArbitratedBus x = zeros();
        c.due("idle", x.attach(1), NOT_POSSIBLE);
        x.run(1);
        c.due("in a frame", x.attach(1), NOT_POSSIBLE);
        c.due("transmitter", x.attach(0), NOT_POSSIBLE);
        x.detach(1);
        x.attach(1);
        c.due("joining", x.attach(1), NOT_POSSIBLE);
        c.due("bus-off", busOff(1).attach(0), NOT_POSSIBLE);
    }

    @Edge(promise = 7, says = CHANGES_NOTHING)
    static void refusedAttachChangesNothing(Check c) {
        changesNothing(c, x -> {
            busyState(x);
            x.detach(2);
            x.attach(2);
            x.run(5);
        }, x -> {
            c.due("no node", x.attach(-1), NO_SUCH_NODE);
            c.due("in a frame", x.attach(1), NOT_POSSIBLE);
            c.due("joining", x.attach(2), NOT_POSSIBLE);
        });
    }

    @Edge(promise = 7, says = "it is in the phase JOINING, with no samples counted")
    static void attachedNodeCountsAnew(Check c) {
        ArbitratedBus x = new ArbitratedBus();
        x.detach(1);
        x.run(20);
        x.attach(1);
        c.due("joining", x.phase(1), JOINING);
        x.run(10);
        c.due("samples while it was detached do not count", x.phase(1), JOINING);
        x.detach(1);
        x.attach(1);
        x.run(10);
        c.due("nor those before it was detached", x.phase(1), JOINING);
        x.run(1);
        c.due("eleven", x.phase(1), IDLE);
    }

    @Edge(promise = 7, says = "it is in the phase JOINING, with no samples counted")
    static void attachedNodeForgetsItsBusOff(Check c) {
        ArbitratedBus x = busOff(2);
        x.run(15);
        x.detach(0);
        x.attach(0);
        x.run(10);
        c.due("ten samples", x.phase(0), JOINING);
        x.run(1);
        c.due("eleven samples", x.phase(0), IDLE);
        c.due("its counter stays", x.transmitErrors(0), 16);
    }
}
