/**
 * The boundary cases of a bit time, sentence by sentence: what nodes drive, and how they act in their
 * phases. They stand under promise 11, since run() lets bit times pass.
 */
final class BitTimeEdgesTest extends EdgeKit {
    private static final String STUFF_BIT = "if the five samples before, all of this frame, are equal, the sample is a "
        + "stuff bit (this also holds for the bit after the last bit of the CRC).";
    private static final String LOST = "If a basic bit is not what a transmitter drove, then, if it drove 1 and the bit is "
        + "a bit of the identifier or the remote bit, it has lost the arbitration: it becomes receiver, and the sample "
        + "counts as the basic bit;";
    private static final String FIXED_BITS = "CRC delimiter, acknowledge delimiter and the end bits 1 to 6: if the sample is "
        + "0, a transmitter has a BIT error and a receiver a FORM error.";
    private static final String AFTER_FLAG = "As long as it has none: if the sample is 0, and this is the first bit time "
        + "after a FLAG, and it is receiver, its receive error counter increases by 8.";
    private static final String SENT = "If it is 1, a transmitter has sent its frame: it is removed from its waiting frames, "
        + "and its transmit error counter decreases by 1 if it is above 0;";
    private static final String RECOVERED = "As soon as at the end of a sequence there have been at least as many sequences "
        + "in this phase as the recovery says, both counters become 0, and the node is IDLE.";
    private static final String ACKNOWLEDGES = "A receiver drives 0 in the acknowledge slot if the CRC that it has sampled is "
        + "that of the basic bits before it as it has sampled them, and 1 in all other cases.";

    public static void main(String[] args) {
        Edges.runAll(BitTimeEdgesTest.class);
    }

    // ---- driving

    @Edge(promise = 11, says = "the level of the bus is 0 if at least one node drives 0, and 1 otherwise.")
    static void levelOfOneAndOfAllNodes(Check c) {
        for (int set = 0; set <= 15; set++) {
            ArbitratedBus x = new ArbitratedBus();
            for (int node = 0; node < 4; node++) {
                if ((set >> node & 1) == 1) {
                    x.request(node, 0, false, 0, 0);
                }
            }
            x.run(1);
            c.due("nodes " + set + " drive 0", x.level(1), set == 0 ? 1 : 0);
        }
    }

    @Edge(promise = 11, says = "In each bit time each node drives a level")
    static void higherNodesDriveAsLowerOnes(Check c) {
        ArbitratedBus x = new ArbitratedBus();
        ArbitratedBus y = new ArbitratedBus();
        x.request(0, 0x2aa, false, 1, 1);
        x.request(1, 0x2ab, false, 1, 2);
        y.request(3, 0x2aa, false, 1, 1);
        y.request(2, 0x2ab, false, 1, 2);
        for (int delay : new int[] {9, 30, 80, 110}) {
            x.disturb(1, delay);
            x.disturb(2, delay + 1);
            y.disturb(8, delay);
            y.disturb(4, delay + 1);
        }
        x.run(200);
        y.run(200);
        for (int back = 1; back <= 200; back++) {
            c.due("level " + back + " ago", y.level(back), x.level(back));
        }
        for (int node = 0; node < 4; node++) {
            c.due("phase of node " + node, y.phase(3 - node), x.phase(node));
            c.due("transmit errors of node " + node, y.transmitErrors(3 - node), x.transmitErrors(node));
            c.due("receive errors of node " + node, y.receiveErrors(3 - node), x.receiveErrors(node));
        }
    }

    @Edge(promise = 11, says = "- IDLE: 0 if it has waiting frames, 1 otherwise.")
    static void idleNodeWithAndWithoutFrames(Check c) {
        ArbitratedBus x = new ArbitratedBus();
        x.run(1);
        c.due("no frame", x.level(1), 1);
        x.request(3, 2047, true, 4, 0);
        x.run(1);
        c.due("one frame", x.level(1), 0);
    }

    @Edge(promise = 11, says = "a transmitter drives the next bit of its frame, with stuff bits by the bits that it has "
        + "sampled in this frame, and 1 in the acknowledge slot;")
    static void everyBitOfATransmitter(Check c) {
        ArbitratedBus x = alone();
        x.run(42);
        for (int index = 0; index < 42; index++) {
            c.due("bit " + index, x.level(42 - index), x.frameBit(0, false, 0, 0, index));
        }
        c.due("1 in the acknowledge slot", x.level(1), 1);
        c.due("and so no acknowledgement", x.lastError(0), ACK);
    }

    @Edge(promise = 11, says = ACKNOWLEDGES)
    static void receiversAcknowledgeInTheSlotAlone(Check c) {
        ArbitratedBus x = zeros();
        x.run(50);
        c.due("CRC delimiter", x.level(10), 1);
        c.due("acknowledge slot", x.level(9), 0);
        c.due("acknowledge delimiter", x.level(8), 1);
    }

    @Edge(promise = 11, says = ACKNOWLEDGES)
    static void receiverWithAnotherCrc(Check c) {
        for (int index : new int[] {25, 30, 37, 39}) {
            ArbitratedBus x = alone();
            x.attach(1);
            x.cancel(0, 0);
            x.run(11);
            x.request(0, 0x555, false, 0, 0);
            int tail = x.frameBits(0x555, false, 0, 0) - 10;
            x.disturb(2, tail - 40 + index);
            x.run(tail + 2);
            c.due("a wrong bit " + (40 - index) + " before the tail: the slot", x.level(1), 1);
            c.due("the transmitter", x.lastError(0), ACK);
        }
    }

    /** The stuffed part of the frame with the identifier 0x555 and these four bytes, as a text. */
    private static String stuffedPart(int data) {
        ArbitratedBus x = new ArbitratedBus();
        StringBuilder out = new StringBuilder();
        for (int index = 0; index < x.frameBits(0x555, false, 4, data) - 10; index++) {
            out.append(x.frameBit(0x555, false, 4, data, index));
        }
        return out.toString();
    }

    private static boolean hasFiveEqualBits(String bits) {
        return bits.contains("00000") || bits.contains("11111");
    }

    private static String withInverted(String bits, int index) {
        return bits.substring(0, index) + (char) ('1' + '0' - bits.charAt(index)) + bits.substring(index + 1);
    }

    /**
     * Four bytes whose frame has no stuff bits, 66 bits in all, even if the first bit or the last bit of the
     * CRC is wrong, or if the last bit of the data is another and the CRC is that of the other data.
     */
    private static int dataWithoutStuffBits() {
        for (int k = 0; k < 1000; k++) {
            int data = 0x55555554 ^ (k << 1);
            String bits = stuffedPart(data);
            if (bits.length() == 66 && !hasFiveEqualBits(withInverted(bits, 51)) && !hasFiveEqualBits(withInverted(bits, 65))
                && stuffedPart(data + 1).length() == 66) {
                return data;
            }
        }
        return -1;
    }

    /**
     * The last bit of the data and the seven bits of the CRC that it changes are disturbed: node 1 samples
     * another frame, whose CRC is right, and so acknowledges and accepts it.
     */
    @Edge(promise = 11, says = ACKNOWLEDGES)
    static void receiverOfAnotherFrameWithItsCrc(Check c) {
        int data = dataWithoutStuffBits();
        c.holds("there is such a frame: it", data != -1);
        String bits = stuffedPart(data);
        String others = stuffedPart(data + 1);
        ArbitratedBus x = new ArbitratedBus();
        x.detach(2);
        x.detach(3);
        x.request(0, 0x555, false, 4, data);
        for (int index = 0; index < 66; index++) {
            if (bits.charAt(index) != others.charAt(index)) {
                c.holds("there is room for the disturbance: it", x.disturb(2, index) > 0);
            }
        }
        c.due("settle()", x.settle(), 66 + 10 + 3);
        c.due("sent", x.sent(0), 1);
        c.due("data of the other frame", x.receivedData(1, 0), data + 1);
        c.due("no error", x.lastError(1), NONE);
    }

    @Edge(promise = 11, says = "- FLAG: 0 if the flag is active, 1 if it is passive.")
    static void levelsOfFlags(Check c) {
        ArbitratedBus x = alone();
        x.disturb(1, 0);
        x.run(8);
        c.due("before the active flag, its start bit", x.level(8), 0);
        for (int back = 2; back <= 7; back++) {
            c.due("active flag, " + back + " ago", x.level(back), 0);
        }
        c.due("after the active flag", x.level(1), 1);
        ArbitratedBus y = alone();
        y.setLimits(8, 200, 1);
        y.disturb(1, 0);
        y.run(8);
        for (int back = 1; back <= 7; back++) {
            c.due("passive flag, " + back + " ago", y.level(back), 1);
        }
    }

    @Edge(promise = 11, says = "OVERLOAD: 0.")
    static void levelsOfOverload(Check c) {
        ArbitratedBus x = zeros();
        x.disturb(1, 50);
        x.run(51);
        c.due("overload", x.phase(0), OVERLOAD);
        // The others follow one bit time later, so the bus is dominant for seven bit times.
        x.run(8);
        for (int back = 2; back <= 8; back++) {
            c.due("level " + back + " ago", x.level(back), 0);
        }
        c.due("after it", x.level(1), 1);
    }

    @Edge(promise = 11, says = "OVERLOAD: 0.")
    static void passiveNodeOverloadsAllTheSame(Check c) {
        ArbitratedBus x = alone();
        x.setLimits(8, 200, 1);
        x.disturb(1, 0);
        x.disturb(1, 15);
        x.run(16);
        c.due("passive", x.isPassive(0), 1);
        c.due("overload", x.phase(0), OVERLOAD);
        x.run(7);
        for (int back = 2; back <= 7; back++) {
            c.due("level " + back + " ago", x.level(back), 0);
        }
        c.due("after it", x.level(1), 1);
    }

    @Edge(promise = 11, says = "All other phases: 1.")
    static void otherPhasesDriveNothing(Check c) {
        ArbitratedBus x = alone();
        x.setLimits(8, 200, 1);
        x.disturb(1, 0);
        x.run(26);
        for (int back = 1; back <= 25; back++) {
            c.due("passive flag, delimiter, intermission, suspension: " + back + " ago", x.level(back), 1);
        }
        ArbitratedBus y = busOff(2);
        y.run(22);
        for (int back = 1; back <= 22; back++) {
            c.due("bus-off: " + back + " ago", y.level(back), 1);
        }
        ArbitratedBus z = alone();
        z.detach(0);
        z.attach(0);
        z.run(11);
        for (int back = 1; back <= 11; back++) {
            c.due("joining: " + back + " ago", z.level(back), 1);
        }
    }

    // ---- idle

    @Edge(promise = 11, says = "- IDLE: if the sample is 0, a frame begins: the node is in the phase FRAME, as transmitter "
        + "if it drove 0, and as receiver otherwise;")
    static void startBitOfBothRoles(Check c) {
        ArbitratedBus x = zeros();
        x.request(1, 2047, false, 0, 0);
        x.run(1);
        c.due("node 0", x.phase(0), FRAME);
        c.due("transmitter", x.isTransmitter(0), 1);
        c.due("node 1, with a higher identifier", x.isTransmitter(1), 1);
        c.due("node 2", x.phase(2), FRAME);
        c.due("receiver", x.isTransmitter(2), 0);
    }

    @Edge(promise = 11, says = "If the sample is 1 and it drove 0, it has a BIT error as transmitter.")
    static void startBitThatIsNotThere(Check c) {
        ArbitratedBus x = zeros();
        x.disturb(1, 0);
        x.run(1);
        c.due("error", x.lastError(0), BIT);
        c.due("phase", x.phase(0), FLAG);
        c.due("role", x.isTransmitter(0), 1);
        c.due("transmit errors", x.transmitErrors(0), 8);
        c.due("receive errors", x.receiveErrors(0), 0);
        c.due("no lost arbitration", x.lostArbitrations(0), 0);
        c.due("its frame stays", x.waiting(0), 1);
    }

    @Edge(promise = 11, says = "Otherwise nothing happens.")
    static void idleSampleOfOne(Check c) {
        ArbitratedBus x = zeros();
        x.disturb(2, 0);
        x.run(1);
        c.due("a start bit that was not seen", x.phase(1), IDLE);
        c.due("is no error", x.lastError(1), NONE);
    }

    // ---- the stuffed part

    @Edge(promise = 11, says = "All other samples are basic bits.")
    static void fourEqualSamplesAreNoStuffing(Check c) {
        // The remote bit, the extension bit, the reserved bit and the first bit of the length are four zeros.
        ArbitratedBus x = fives();
        x.run(17);
        c.due("the bit after four zeros is basic", x.level(1), 1);
        x.settle();
        c.due("it is received as such", x.receivedLength(1, 0), 4);
    }

    @Edge(promise = 11, says = STUFF_BIT)
    static void fiveEqualSamplesFromTheStartBitOn(Check c) {
        ArbitratedBus x = zeros();
        x.run(5);
        c.due("the fifth bit", x.level(1), 0);
        x.run(1);
        c.due("the stuff bit", x.level(1), 1);
        // Four zeros of the identifier before a 1: with the start bit they are five.
        ArbitratedBus y = new ArbitratedBus();
        y.request(0, 0x07f, false, 0, 0);
        y.settle();
        c.due("a stuff bit is no basic bit", y.receivedFrame(1, 0), 2 * 0x07f);
    }

    @Edge(promise = 11, says = "all of this frame")
    static void samplesBeforeTheFrameDoNotCount(Check c) {
        // Node 1 begins late, with the bit 1 of the frame as its start bit: it counts from there.
        ArbitratedBus x = zeros();
        x.disturb(2, 0);
        x.run(5);
        c.due("it has sampled four bits of its frame", x.phase(1), FRAME);
        x.run(1);
        c.due("so the 1 is a basic bit", x.lastError(1), NONE);
        // It samples the stuff bits at 5 and 11 as basic bits, and the zeros at 6 to 10 as five equal ones.
        x.run(6);
        c.due("the 1 at 11 is a stuff bit", x.lastError(1), NONE);
        // All ones before the start bit: the first bits 1 of the identifier are basic bits.
        ArbitratedBus y = new ArbitratedBus();
        y.run(20);
        y.request(0, 0x780, false, 0, 0);
        y.run(6);
        c.due("five ones after the start bit would be six with those before", y.lastError(1), NONE);
        y.settle();
        c.due("received", y.receivedFrame(1, 0), 2 * 0x780);
    }

    @Edge(promise = 11, says = "Whenever five successive bits, stuff bits included, are equal, a stuff bit of the other "
        + "level follows, also after the last bit of the CRC.")
    static void stuffBitsCountThemselves(Check c) {
        // Five zeros with the start bit, a stuff bit 1, and four ones more: five ones.
        ArbitratedBus x = new ArbitratedBus();
        x.request(0, 0x078, false, 0, 0);
        x.run(11);
        int[] due = {0, 0, 0, 0, 0, 1, 1, 1, 1, 1, 0};
        for (int index = 0; index <= 10; index++) {
            c.due("bit " + index, x.level(11 - index), due[index]);
        }
        x.settle();
        c.due("received", x.receivedFrame(1, 0), 2 * 0x078);
    }

    /** The lowest frame without bytes that ends in five equal bits of this level, with a stuff bit after them. */
    private static int endingInFive(int level) {
        ArbitratedBus x = new ArbitratedBus();
        for (int identifier = 0; identifier < 400; identifier++) {
            int crc = x.crc(identifier, false, 0, 0) & 0x7f;
            if (crc == (level == 0 ? 0x20 : 0x5f)) {
                return identifier;
            }
        }
        return -1;
    }

    @Edge(promise = 11, says = "(this also holds for the bit after the last bit of the CRC)")
    static void stuffBitAfterTheCrc(Check c) {
        for (int level = 0; level <= 1; level++) {
            int identifier = endingInFive(level);
            c.holds("there is such a frame: it", identifier >= 0);
            ArbitratedBus x = new ArbitratedBus();
            x.request(0, identifier, false, 0, 0);
            int bits = x.frameBits(identifier, false, 0, 0);
            x.save(0);
            x.run(bits - 10);
            c.due("the stuff bit", x.level(1), 1 - level);
            c.due("the last bit of the CRC", x.level(2), level);
            c.due("all of them as sent", x.run(10), 1);
            x.restore(0);
            x.disturb(2, bits - 11);
            x.run(bits - 10);
            c.due("a receiver", x.lastError(1), STUFF);
            x.restore(0);
            x.disturb(1, bits - 11);
            x.run(bits - 10);
            c.due("the transmitter", x.lastError(0), BIT);
        }
    }

    @Edge(promise = 11, says = "A transmitter has a BIT error if a stuff bit is not what it drove;")
    static void stuffBitOfATransmitter(Check c) {
        for (int place : new int[] {5, 11, 17, 23, 29, 35}) {
            ArbitratedBus x = zeros();
            x.disturb(1, place);
            x.run(place);
            c.due("before " + place, x.lastError(0), NONE);
            x.run(1);
            c.due("at " + place, x.lastError(0), BIT);
            c.due("no lost arbitration", x.lostArbitrations(0), 0);
            c.due("the receivers go on", x.lastError(1), NONE);
        }
    }

    @Edge(promise = 11, says = "a receiver has a STUFF error if a stuff bit is equal to the sample before.")
    static void stuffBitOfAReceiver(Check c) {
        for (int place : new int[] {5, 11, 17, 23, 29, 35}) {
            ArbitratedBus x = zeros();
            x.disturb(2, place);
            x.run(place);
            c.due("before " + place, x.lastError(1), NONE);
            x.run(1);
            c.due("at " + place, x.lastError(1), STUFF);
            c.due("the transmitter goes on", x.lastError(0), NONE);
        }
    }

    @Edge(promise = 11, says = LOST)
    static void everyBitOfTheIdentifier(Check c) {
        for (int place = 1; place <= 11; place++) {
            ArbitratedBus x = fives();
            x.disturb(1, place);
            x.run(place + 1);
            int lost = place % 2;
            c.due("lost at " + place, x.lostArbitrations(0), lost);
            c.due("error at " + place, x.errors(0, BIT), 1 - lost);
            c.due("role at " + place, x.isTransmitter(0), 1 - lost);
            c.due("phase at " + place, x.phase(0), lost == 1 ? FRAME : FLAG);
        }
    }

    @Edge(promise = 11, says = LOST)
    static void remoteBit(Check c) {
        ArbitratedBus x = new ArbitratedBus();
        x.request(0, 0x555, true, 0, 0);
        x.request(1, 0x555, false, 0, 0);
        x.run(12);
        c.due("both send", x.isTransmitter(0) + x.isTransmitter(1), 2);
        x.run(1);
        c.due("the remote frame loses", x.isTransmitter(0), 0);
        c.due("it has lost", x.lostArbitrations(0), 1);
        c.due("no error", x.lastError(0), NONE);
        c.due("the data frame goes on", x.isTransmitter(1), 1);
        ArbitratedBus y = fives();
        y.disturb(1, 12);
        y.run(13);
        c.due("a remote bit 0 that is sampled as 1", y.lastError(0), BIT);
        c.due("is not lost", y.lostArbitrations(0), 0);
    }

    @Edge(promise = 11, says = "it becomes receiver, and the sample counts as the basic bit;")
    static void loserReceives(Check c) {
        for (int identifier : new int[] {0x3ff, 0x7fe}) {
            ArbitratedBus x = new ArbitratedBus();
            x.request(0, 0x7ff, false, 4, -1);
            x.request(1, identifier, false, 2, 4660);
            x.detach(2);
            x.detach(3);
            x.settle();
            c.due("lost once to " + identifier, x.lostArbitrations(0), 1);
            c.due("no error", x.lastError(0), NONE);
            c.due("it acknowledged", x.sent(1), 1);
            c.due("it has received the frame", x.receivedFrame(0, 0), 2 * identifier);
            c.due("its data", x.receivedData(0, 0), 4660);
            c.due("its own frame came then", x.receivedData(1, 0), -1);
        }
    }

    @Edge(promise = 11, says = "otherwise it has a BIT error.")
    static void basicBitsAfterTheRemoteBit(Check c) {
        // 16 is the 1 of the length, 20 the first 1 of the data; 13, 14, 15 and 19 are zeros.
        for (int place : new int[] {13, 14, 15, 16, 18, 19, 20, 50}) {
            ArbitratedBus x = fives();
            x.disturb(1, place);
            x.run(place);
            c.due("before " + place, x.lastError(0), NONE);
            x.run(1);
            c.due("at " + place, x.lastError(0), BIT);
            c.due("not lost at " + place, x.lostArbitrations(0), 0);
            c.due("role at " + place, x.isTransmitter(0), 1);
        }
    }

    @Edge(promise = 11, says = "otherwise it has a BIT error.")
    static void bitsOfTheCrc(Check c) {
        for (int place : new int[] {24, 39}) {
            ArbitratedBus x = zeros();
            x.disturb(1, place);
            x.run(place + 1);
            c.due("at " + place, x.lastError(0), BIT);
        }
    }

    @Edge(promise = 11, says = "A receiver has a FORM error if the extension bit is 1, and if the length is above 4 (at the "
        + "last bit of the length).")
    static void extensionBit(Check c) {
        ArbitratedBus x = fives();
        x.disturb(2, 13);
        x.run(13);
        c.due("before it", x.lastError(1), NONE);
        x.run(1);
        c.due("at it", x.lastError(1), FORM);
        c.due("the others", x.lastError(2), NONE);
        ArbitratedBus y = fives();
        y.disturb(2, 14);
        y.run(15);
        c.due("the reserved bit is free", y.lastError(1), NONE);
    }

    @Edge(promise = 11, says = "and if the length is above 4 (at the last bit of the length)")
    static void lengthAboveFour(Check c) {
        // A single wrong bit makes 5, 6 and 12 of the length 4.
        for (int place : new int[] {18, 17, 15}) {
            for (int remote = 0; remote <= 1; remote++) {
                ArbitratedBus x = new ArbitratedBus();
                x.request(0, 0x555, remote == 1, 4, 0);
                x.disturb(2, place);
                x.run(18);
                c.due("wrong bit " + place + ", before the last bit of the length", x.lastError(1), NONE);
                x.run(1);
                c.due("wrong bit " + place + ", at the last bit", x.lastError(1), FORM);
            }
        }
        ArbitratedBus y = fives();
        y.run(19);
        c.due("length 4", y.lastError(1), NONE);
        ArbitratedBus z = new ArbitratedBus();
        z.request(0, 0x555, false, 1, 0x55);
        z.disturb(2, 15);
        z.run(19);
        c.due("length 9", z.lastError(1), FORM);
    }

    /** The bits 1 and 0 in turn from 19 on; a 1 as reserved bit keeps a length that is not 4 free of stuff bits. */
    private static ArbitratedBus withTurns() {
        ArbitratedBus x = new ArbitratedBus();
        x.request(0, 0x555, false, 4, 0xaaaaaaaa);
        return x;
    }

    @Edge(promise = 11, says = "The length that was sampled and the remote bit decide how many bits of data follow.")
    static void lengthThatWasSampled(Check c) {
        // Node 1 samples the length 0 or 2, so that a 0 of the data stands where it expects the CRC delimiter.
        for (int length = 0; length <= 2; length += 2) {
            ArbitratedBus x = withTurns();
            x.disturb(2, 14);
            x.disturb(2, 16);
            if (length == 2) {
                x.disturb(2, 17);
            }
            int delimiter = 19 + 8 * length + 15;
            x.run(delimiter);
            c.due("length " + length + ", before that delimiter", x.lastError(1), NONE);
            x.run(1);
            c.due("length " + length + ", at that delimiter", x.lastError(1), FORM);
            c.due("the others take 32 bits of data", x.lastError(2), NONE);
        }
    }

    @Edge(promise = 11, says = "The length that was sampled and the remote bit decide how many bits of data follow.")
    static void remoteBitThatWasSampled(Check c) {
        ArbitratedBus x = withTurns();
        x.disturb(2, 12);
        x.run(19 + 15);
        c.due("before the delimiter that it expects", x.lastError(1), NONE);
        x.run(1);
        c.due("at that delimiter", x.lastError(1), FORM);
        ArbitratedBus y = new ArbitratedBus();
        y.request(0, 0x555, true, 4, 0);
        c.due("a remote frame of length 4 has no bits of data", y.settle(), y.frameBits(0x555, true, 4, 0) + 3);
        c.due("its length", y.receivedLength(1, 0), 4);
    }

    // ---- the tail

    @Edge(promise = 11, says = FIXED_BITS)
    static void fixedBitsOfAReceiver(Check c) {
        for (int place : new int[] {40, 42, 43, 44, 45, 46, 47, 48}) {
            ArbitratedBus x = zeros();
            x.disturb(2, place);
            x.run(place);
            c.due("before " + place, x.lastError(1), NONE);
            x.run(1);
            c.due("at " + place, x.lastError(1), FORM);
            c.due("not accepted", x.received(1), 0);
        }
    }

    @Edge(promise = 11, says = FIXED_BITS)
    static void fixedBitsOfATransmitter(Check c) {
        for (int place : new int[] {40, 42, 43, 44, 45, 46, 47, 48}) {
            ArbitratedBus x = zeros();
            x.disturb(1, place);
            x.run(place);
            c.due("before " + place, x.lastError(0), NONE);
            x.run(1);
            c.due("at " + place, x.lastError(0), BIT);
            c.due("not sent", x.waiting(0), 1);
        }
    }

    @Edge(promise = 11, says = "If the sample of the acknowledge delimiter is 1 and the CRC that a receiver has sampled is "
        + "not that of the basic bits before it, it has a CRC error.")
    static void wrongCrcAtTheAcknowledgeDelimiter(Check c) {
        // The reserved bit, and the first and the last bit of the CRC.
        int data = dataWithoutStuffBits();
        for (int place : new int[] {14, 51, 65}) {
            ArbitratedBus x = new ArbitratedBus();
            x.request(0, 0x555, false, 4, data);
            x.disturb(2, place);
            x.run(68);
            c.due("wrong bit " + place + ", up to the slot", x.lastError(1), NONE);
            x.run(1);
            c.due("wrong bit " + place + ", at the delimiter", x.lastError(1), CRC);
            c.due("the others", x.lastError(2), NONE);
            c.due("not accepted", x.received(1), 0);
        }
    }

    @Edge(promise = 11, says = "If the sample of the acknowledge delimiter is 1 and the CRC that a receiver has sampled is "
        + "not that of the basic bits before it, it has a CRC error.")
    static void wrongCrcAndWrongDelimiter(Check c) {
        ArbitratedBus x = zeros();
        x.disturb(2, 39);
        x.disturb(2, 42);
        x.run(43);
        c.due("the form comes first", x.lastError(1), FORM);
        c.due("no CRC error", x.errors(1, CRC), 0);
        c.due("one error", x.receiveErrors(1), 1);
    }

    @Edge(promise = 11, says = "If the sample of the sixth end bit is 1, a receiver accepts the frame (see below).")
    static void sixthEndBit(Check c) {
        ArbitratedBus x = zeros();
        x.run(48);
        c.due("after the fifth end bit", x.received(1), 0);
        x.run(1);
        c.due("after the sixth end bit", x.received(1), 1);
        x.disturb(2, 0);
        x.run(1);
        c.due("a wrong seventh end bit takes nothing back", x.received(1), 1);
        c.due("the transmitter accepts nothing", x.received(0), 0);
    }

    @Edge(promise = 11, says = "- FRAME, acknowledge slot: if the sample is 1, a transmitter has an ACK error.")
    static void slotOfTheTransmitter(Check c) {
        ArbitratedBus x = zeros();
        x.disturb(1, 41);
        x.run(41);
        c.due("before the slot", x.lastError(0), NONE);
        x.run(1);
        c.due("a 1 in the slot", x.lastError(0), ACK);
        ArbitratedBus y = alone();
        y.disturb(1, 41);
        y.run(50);
        c.due("a 0 in the slot, from nobody", y.sent(0), 1);
    }

    @Edge(promise = 11, says = "A receiver does not look at its sample.")
    static void slotOfTheReceivers(Check c) {
        ArbitratedBus x = zeros();
        x.disturb(14, 41);
        c.due("settle()", x.settle(), ZEROS_BITS);
        for (int node = 1; node < 4; node++) {
            c.due("no error of node " + node, x.lastError(node), NONE);
            c.due("received by node " + node, x.received(node), 1);
        }
    }

    @Edge(promise = 11, says = "- FRAME, seventh end bit: if the sample is 0, a transmitter has a BIT error, and a receiver "
        + "is in the phase OVERLOAD.")
    static void wrongSeventhEndBit(Check c) {
        ArbitratedBus x = zeros();
        x.disturb(3, 49);
        x.run(50);
        c.due("transmitter", x.lastError(0), BIT);
        c.due("its phase", x.phase(0), FLAG);
        c.due("its frame waits", x.waiting(0), 1);
        c.due("it is not sent", x.sent(0), 0);
        c.due("receiver", x.phase(1), OVERLOAD);
        c.due("no error of it", x.lastError(1), NONE);
        c.due("it is counted", x.overloads(1), 1);
        c.due("the others", x.phase(2), INTERMISSION);
    }

    @Edge(promise = 11, says = SENT)
    static void sentWithTheSeventhEndBit(Check c) {
        ArbitratedBus x = zeros();
        x.run(49);
        c.due("before", x.sent(0), 0);
        c.due("it waits", x.waiting(0), 1);
        x.run(1);
        c.due("sent", x.sent(0), 1);
        c.due("nothing waits", x.waiting(0), 0);
        c.due("a counter of 0 stays", x.transmitErrors(0), 0);
    }

    @Edge(promise = 11, says = "its transmit error counter decreases by 1 if it is above 0;")
    static void transmitCounterDownToZero(Check c) {
        ArbitratedBus x = zeros();
        x.disturb(1, 0);
        x.settle();
        c.due("8, and the frame was sent", x.transmitErrors(0), 7);
        for (int due = 6; due >= -1; due--) {
            x.request(0, 0, false, 0, 0);
            x.settle();
            c.due("one more", x.transmitErrors(0), Math.max(due, 0));
        }
    }

    @Edge(promise = 11, says = "and both are in the phase INTERMISSION.")
    static void intermissionOfBothRoles(Check c) {
        ArbitratedBus x = zeros();
        x.run(49);
        c.due("before, transmitter", x.phase(0), FRAME);
        c.due("before, receiver", x.phase(1), FRAME);
        x.run(1);
        c.due("transmitter", x.phase(0), INTERMISSION);
        c.due("receiver", x.phase(1), INTERMISSION);
    }

    // ---- flags and delimiters

    @Edge(promise = 11, says = "- FLAG and OVERLOAD: after six bit times, whatever is sampled, the node is in the phase "
        + "DELIMITER.")
    static void sixBitTimesOfAFlag(Check c) {
        ArbitratedBus x = alone();
        x.disturb(1, 0);
        for (int delay = 1; delay <= 6; delay++) {
            x.disturb(1, delay);
        }
        x.run(6);
        c.due("after five", x.phase(0), FLAG);
        x.run(1);
        c.due("after six, whatever is sampled", x.phase(0), DELIMITER);
        c.due("one error", x.errors(0, BIT), 1);
        ArbitratedBus y = alone();
        y.setLimits(8, 200, 1);
        y.disturb(1, 0);
        y.disturb(1, 4);
        y.run(6);
        c.due("passive, after five", y.phase(0), FLAG);
        y.run(1);
        c.due("passive, after six", y.phase(0), DELIMITER);
    }

    @Edge(promise = 11, says = "- FLAG and OVERLOAD: after six bit times, whatever is sampled, the node is in the phase "
        + "DELIMITER.")
    static void sixBitTimesOfAnOverload(Check c) {
        ArbitratedBus x = zeros();
        x.disturb(2, 49);
        x.disturb(2, 51);
        x.disturb(2, 55);
        x.run(55);
        c.due("after five", x.phase(1), OVERLOAD);
        x.run(1);
        c.due("after six", x.phase(1), DELIMITER);
        c.due("one overload", x.overloads(1), 1);
    }

    /** Node 1 has a STUFF error at 5, the others at 11; all flags have ended after 18 bits, and 18 is the first 1. */
    private static ArbitratedBus untilDelimiter() {
        ArbitratedBus x = zeros();
        x.disturb(2, 5);
        x.run(18);
        return x;
    }

    @Edge(promise = 11, says = "- DELIMITER: the node waits for eight recessive samples.")
    static void delimiterWithoutRecessiveSamples(Check c) {
        ArbitratedBus x = untilDelimiter();
        x.cancel(0, 0);
        for (int delay = 0; delay < 8; delay++) {
            x.disturb(4, delay);
        }
        x.run(8);
        c.due("eight zeros", x.phase(2), DELIMITER);
        c.due("the others are through", x.phase(3), INTERMISSION);
        x.run(7);
        c.due("seven ones", x.phase(2), DELIMITER);
        x.run(1);
        c.due("eight ones", x.phase(2), INTERMISSION);
    }

    @Edge(promise = 11, says = AFTER_FLAG)
    static void zeroInTheFirstBitTimeAfterAFlag(Check c) {
        ArbitratedBus x = untilDelimiter();
        c.due("node 1 was before the others", x.receiveErrors(1), 9);
        c.due("node 2 has its flag behind it", x.receiveErrors(2), 1);
        x.disturb(4, 0);
        x.disturb(4, 1);
        x.run(1);
        c.due("the first bit time", x.receiveErrors(2), 9);
        x.run(1);
        c.due("not the second", x.receiveErrors(2), 9);
        c.due("no error is counted for it", x.errors(2, STUFF) + x.errors(2, FORM), 1);
        c.due("a 1 in the first bit time", x.receiveErrors(3), 1);
    }

    @Edge(promise = 11, says = AFTER_FLAG)
    static void zeroInALaterBitTimeAfterAFlag(Check c) {
        // Node 2 samples a 1 first; a 0 after it is a FORM error, not one more step of 8.
        ArbitratedBus x = untilDelimiter();
        x.disturb(4, 1);
        x.run(2);
        c.due("a FORM error", x.errors(2, FORM), 1);
        c.due("one more, not eight", x.receiveErrors(2), 2);
    }

    @Edge(promise = 11, says = AFTER_FLAG)
    static void zeroAfterTheFlagOfATransmitter(Check c) {
        ArbitratedBus x = untilDelimiter();
        x.disturb(1, 0);
        x.run(1);
        c.due("transmitter", x.isTransmitter(0), 1);
        c.due("its receive errors", x.receiveErrors(0), 0);
        c.due("its transmit errors", x.transmitErrors(0), 8);
        c.due("it waits", x.phase(0), DELIMITER);
    }

    @Edge(promise = 11, says = AFTER_FLAG)
    static void zeroAfterAnOverload(Check c) {
        ArbitratedBus x = zeros();
        x.disturb(2, 49);
        x.disturb(2, 57);
        x.run(57);
        c.due("the others are one bit time later", x.level(1), 0);
        c.due("node 1 is in its delimiter", x.phase(1), DELIMITER);
        x.run(1);
        c.due("no step of 8", x.receiveErrors(1), 0);
    }

    @Edge(promise = 11, says = AFTER_FLAG)
    static void zeroAfterAnOverloadThatFollowsAFlag(Check c) {
        // Node 2 has seven ones after its flag, then an overload flag, and zeros after that.
        ArbitratedBus x = untilDelimiter();
        x.disturb(4, 7);
        x.run(8);
        c.due("overload", x.phase(2), OVERLOAD);
        int before = x.receiveErrors(2);
        x.disturb(4, 6);
        x.run(7);
        c.due("delimiter", x.phase(2), DELIMITER);
        c.due("no step of 8", x.receiveErrors(2), before);
    }

    @Edge(promise = 11, says = "If the sample is 0 after one to six recessive samples, it has a FORM error;")
    static void zeroAfterOneToSixOnes(Check c) {
        for (int ones = 1; ones <= 6; ones++) {
            ArbitratedBus x = untilDelimiter();
            x.disturb(5, ones);
            x.run(ones);
            c.due(ones + " ones", x.phase(2), DELIMITER);
            x.run(1);
            c.due("receiver after " + ones, x.errors(2, FORM), 1);
            c.due("its counter", x.receiveErrors(2), 2);
            c.due("its phase", x.phase(2), FLAG);
            c.due("transmitter after " + ones, x.errors(0, FORM), 1);
            c.due("its counter", x.transmitErrors(0), 16);
            c.due("its phase", x.phase(0), FLAG);
        }
    }

    @Edge(promise = 11, says = "after seven, it is in the phase OVERLOAD.")
    static void zeroAfterSevenOnes(Check c) {
        ArbitratedBus x = untilDelimiter();
        x.disturb(5, 7);
        x.run(8);
        c.due("receiver", x.phase(2), OVERLOAD);
        c.due("no FORM error", x.errors(2, FORM), 0);
        c.due("overloads", x.overloads(2), 1);
        c.due("transmitter", x.phase(0), OVERLOAD);
        c.due("no FORM error", x.errors(0, FORM), 0);
        c.due("it stays transmitter", x.isTransmitter(0), 1);
    }

    @Edge(promise = 11, says = "After the eighth recessive sample it is in the phase INTERMISSION.")
    static void eightOnes(Check c) {
        ArbitratedBus x = untilDelimiter();
        x.run(7);
        c.due("seven", x.phase(2), DELIMITER);
        x.run(1);
        c.due("eight", x.phase(2), INTERMISSION);
        c.due("transmitter too", x.phase(0), INTERMISSION);
    }

    // ---- intermission, suspend, joining, bus-off

    @Edge(promise = 11, says = "- INTERMISSION: it lasts three bit times.")
    static void threeBitTimesOfIntermission(Check c) {
        ArbitratedBus x = zeros();
        x.run(52);
        c.due("two", x.phase(0), INTERMISSION);
        c.due("two, receiver", x.phase(1), INTERMISSION);
        x.run(1);
        c.due("three", x.phase(0), IDLE);
        c.due("three, receiver", x.phase(1), IDLE);
    }

    @Edge(promise = 11, says = "If the first or second sample is 0, the node is in the phase OVERLOAD.")
    static void zeroInTheFirstTwoBitTimesOfIntermission(Check c) {
        for (int place = 50; place <= 51; place++) {
            ArbitratedBus x = zeros();
            x.disturb(3, place);
            x.run(place + 1);
            c.due("receiver at " + place, x.phase(1), OVERLOAD);
            c.due("transmitter at " + place, x.phase(0), OVERLOAD);
            c.due("it stays transmitter", x.isTransmitter(0), 1);
            c.due("counted", x.overloads(0) + x.overloads(1), 2);
            c.due("the others at " + place, x.phase(2), INTERMISSION);
        }
    }

    @Edge(promise = 11, says = "If the third sample is 0, a frame begins, and the node is in the phase FRAME as receiver;")
    static void zeroInTheThirdBitTimeOfIntermission(Check c) {
        ArbitratedBus x = zeros();
        x.request(0, 7, false, 0, 0);
        x.request(1, 7, false, 0, 0);
        x.disturb(3, 52);
        x.run(53);
        for (int node = 0; node <= 1; node++) {
            c.due("phase of node " + node, x.phase(node), FRAME);
            c.due("receiver, although it has a frame: node " + node, x.isTransmitter(node), 0);
            c.due("no overload of node " + node, x.overloads(node), 0);
        }
        c.due("the others", x.phase(2), IDLE);
    }

    @Edge(promise = 11, says = "the sample is the start bit.")
    static void thirdSampleIsTheStartBit(Check c) {
        // Node 1 begins at 52 and samples only ones: five of them, and a sixth as a wrong stuff bit at 58.
        ArbitratedBus x = zeros();
        x.disturb(2, 52);
        x.run(58);
        c.due("five ones", x.lastError(1), NONE);
        x.run(1);
        c.due("six ones", x.lastError(1), STUFF);
        // Node 3 takes the bit 40 for a 0 and 41 for a 1, and so is idle after 51, one bit time before the others.
        ArbitratedBus y = zeros();
        y.detach(3);
        y.run(30);
        y.attach(3);
        y.request(3, 0x2aa, false, 1, 170);
        y.disturb(8, 10);
        y.disturb(8, 11);
        y.run(22);
        c.due("node 3 is idle", y.phase(3), IDLE);
        y.run(1);
        c.due("it sends", y.isTransmitter(3), 1);
        c.due("its start bit was the third bit of the intermission", y.phase(1), FRAME);
        y.settle();
        c.due("its frame is received", y.receivedData(1, 1), 170);
        c.due("also by the transmitter before", y.receivedData(0, 0), 170);
        c.due("no error", y.lastError(1), NONE);
    }

    @Edge(promise = 11, says = "If the third sample is 1, the node is in the phase SUSPEND if it is transmitter and "
        + "error-passive, and IDLE otherwise.")
    static void suspendedOrIdle(Check c) {
        ArbitratedBus x = zeros();
        x.disturb(1, 0);
        x.settle();
        c.due("transmit errors", x.transmitErrors(0), 7);
        x.setLimits(8, 200, 1);
        x.request(0, 0, false, 0, 0);
        x.run(53);
        c.due("transmitter, not passive", x.phase(0), IDLE);
        ArbitratedBus y = alone();
        y.setLimits(8, 200, 1);
        y.disturb(1, 0);
        y.run(17);
        c.due("passive transmitter, two bit times", y.phase(0), INTERMISSION);
        y.run(1);
        c.due("passive transmitter", y.phase(0), SUSPEND);
        c.due("it counts as receiver then", y.isTransmitter(0), 0);
        ArbitratedBus z = new ArbitratedBus();
        addNineErrors(z);
        z.setLimits(8, 200, 1);
        z.request(0, 0, false, 0, 0);
        z.disturb(2, 42);
        z.run(43);
        c.due("passive receiver", z.isPassive(1), 1);
        z.run(6 + 8 + 2);
        c.due("its intermission", z.phase(1), INTERMISSION);
        z.run(1);
        c.due("passive receiver", z.phase(1), IDLE);
    }

    @Edge(promise = 11, says = "If the third sample is 1, the node is in the phase SUSPEND if it is transmitter and "
        + "error-passive, and IDLE otherwise.")
    static void suspendedByTheLimitOfThatMoment(Check c) {
        ArbitratedBus x = alone();
        x.disturb(1, 0);
        x.run(17);
        x.setLimits(8, 200, 1);
        x.run(1);
        c.due("passive since the limit is 8", x.phase(0), SUSPEND);
        ArbitratedBus y = alone();
        y.setLimits(8, 200, 1);
        y.disturb(1, 0);
        y.run(17);
        y.setLimits(9, 200, 1);
        y.run(1);
        c.due("not passive since the limit is 9", y.phase(0), IDLE);
    }

    /** Node 0 is alone, passive, and has just been suspended. */
    private static ArbitratedBus suspended() {
        ArbitratedBus x = alone();
        x.setLimits(8, 200, 1);
        x.disturb(1, 0);
        x.run(18);
        return x;
    }

    @Edge(promise = 11, says = "- SUSPEND: if the sample is 0, a frame begins as after the INTERMISSION.")
    static void zeroWhileSuspended(Check c) {
        for (int place = 0; place <= 7; place++) {
            ArbitratedBus x = suspended();
            x.disturb(1, place);
            x.run(place + 1);
            c.due("a 0 as sample " + place, x.phase(0), FRAME);
            c.due("as receiver", x.isTransmitter(0), 0);
            c.due("no overload", x.overloads(0), 0);
            // The 0 was the start bit: five ones follow, and a sixth is a wrong stuff bit.
            x.run(5);
            c.due("five ones", x.errors(0, STUFF), 0);
            x.run(1);
            c.due("six ones", x.errors(0, STUFF), 1);
        }
    }

    @Edge(promise = 11, says = "After eight samples 1 the node is IDLE.")
    static void eightSamplesWhileSuspended(Check c) {
        ArbitratedBus x = suspended();
        x.run(7);
        c.due("seven", x.phase(0), SUSPEND);
        x.run(1);
        c.due("eight", x.phase(0), IDLE);
        c.due("nothing was driven", x.level(1), 1);
        x.run(1);
        c.due("its frame begins", x.isTransmitter(0), 1);
    }

    @Edge(promise = 11, says = "- JOINING: after eleven successive samples 1 the node is IDLE.")
    static void elevenSuccessiveSamplesWhileJoining(Check c) {
        for (int place = 0; place <= 10; place++) {
            ArbitratedBus x = new ArbitratedBus();
            x.detach(1);
            x.attach(1);
            x.disturb(2, place);
            x.run(place + 11);
            c.due("ten ones after a 0 as sample " + place, x.phase(1), JOINING);
            x.run(1);
            c.due("eleven ones after it", x.phase(1), IDLE);
        }
        ArbitratedBus y = new ArbitratedBus();
        y.detach(1);
        y.attach(1);
        y.run(10);
        c.due("ten", y.phase(1), JOINING);
        y.run(1);
        c.due("eleven", y.phase(1), IDLE);
    }

    @Edge(promise = 11, says = "- JOINING: after eleven successive samples 1 the node is IDLE.")
    static void joiningWhileAFrameIsOnTheBus(Check c) {
        ArbitratedBus x = zeros();
        x.detach(3);
        x.attach(3);
        x.run(52);
        // The slot at 41 is the last 0; the eleventh 1 after it is the last bit of the intermission.
        c.due("ten ones", x.phase(3), JOINING);
        x.run(1);
        c.due("eleven ones", x.phase(3), IDLE);
        c.due("it has received nothing", x.received(3), 0);
    }

    @Edge(promise = 11, says = "- BUS_OFF: each eleven successive samples 1 are one sequence (the next eleven begin after "
        + "it).")
    static void sequencesOfElevenSamples(Check c) {
        for (int recovery = 1; recovery <= 16; recovery++) {
            ArbitratedBus x = busOff(recovery);
            x.run(11 * recovery - 1);
            c.due("one sample before, recovery " + recovery, x.phase(0), BUS_OFF);
            x.run(1);
            c.due("recovery " + recovery, x.phase(0), IDLE);
        }
    }

    @Edge(promise = 11, says = "- BUS_OFF: each eleven successive samples 1 are one sequence (the next eleven begin after "
        + "it).")
    static void zeroWithinASequence(Check c) {
        for (int place : new int[] {0, 5, 10, 11, 21}) {
            ArbitratedBus x = busOff(2);
            x.disturb(1, place);
            // Sequences before the 0 stay.
            int bits = place < 11 ? place + 1 + 22 : place + 1 + 11;
            x.run(bits - 1);
            c.due("a 0 as sample " + place + ", one sample before", x.phase(0), BUS_OFF);
            x.run(1);
            c.due("a 0 as sample " + place, x.phase(0), IDLE);
        }
    }

    @Edge(promise = 11, says = RECOVERED)
    static void recoveryThatIsLowered(Check c) {
        ArbitratedBus x = busOff(16);
        x.run(40);
        x.setLimits(8, 16, 1);
        x.run(3);
        c.due("three sequences, but the fourth has not ended", x.phase(0), BUS_OFF);
        x.run(1);
        c.due("at the end of the fourth", x.phase(0), IDLE);
    }

    @Edge(promise = 11, says = RECOVERED)
    static void recoveryThatIsRaised(Check c) {
        ArbitratedBus x = busOff(2);
        x.run(21);
        x.setLimits(8, 16, 3);
        x.run(1);
        c.due("two sequences are not enough any more", x.phase(0), BUS_OFF);
        x.run(10);
        c.due("one sample before the third", x.phase(0), BUS_OFF);
        x.run(1);
        c.due("three", x.phase(0), IDLE);
    }

    @Edge(promise = 11, says = RECOVERED)
    static void countersAfterTheRecovery(Check c) {
        ArbitratedBus x = new ArbitratedBus();
        x.disturb(1, 0);
        x.run(60);
        c.due("receive errors before", x.receiveErrors(0), 9);
        for (int node = 1; node < 4; node++) {
            x.detach(node);
        }
        x.setLimits(8, 16, 1);
        x.request(0, 0, false, 0, 0);
        failAtStart(x);
        x.disturb(1, 0);
        x.run(1);
        c.due("bus-off", x.phase(0), BUS_OFF);
        c.due("receive errors", x.receiveErrors(0), 9);
        c.due("transmit errors", x.transmitErrors(0), 16);
        x.run(10);
        c.due("they stay until the end", x.transmitErrors(0) + x.receiveErrors(0), 25);
        x.run(1);
        c.due("receive errors then", x.receiveErrors(0), 0);
        c.due("transmit errors then", x.transmitErrors(0), 0);
        c.due("errors of the kind stay", x.errors(0, BIT), 2);
        c.due("its frame stays", x.waiting(0), 1);
    }

    @Edge(promise = 11, says = "in this phase")
    static void secondBusOffCountsAnew(Check c) {
        ArbitratedBus x = busOff(3);
        x.run(33);
        c.due("recovered", x.phase(0), IDLE);
        failAtStart(x);
        x.disturb(1, 0);
        x.run(1);
        c.due("bus-off again", x.phase(0), BUS_OFF);
        x.run(32);
        c.due("one sample before the third sequence", x.phase(0), BUS_OFF);
        x.run(1);
        c.due("recovered again", x.phase(0), IDLE);
        ArbitratedBus y = busOff(2);
        y.run(21);
        y.detach(0);
        y.attach(0);
        y.run(11);
        c.due("out of bus-off by joining", y.phase(0), IDLE);
        y.disturb(1, 0);
        y.run(1);
        c.due("off again with the next error", y.phase(0), BUS_OFF);
        y.run(21);
        c.due("the sequence of the first time does not count", y.phase(0), BUS_OFF);
        y.run(1);
        c.due("two new ones", y.phase(0), IDLE);
    }
}
