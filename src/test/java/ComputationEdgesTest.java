/** The boundary cases of promises 33 to 38, sentence by sentence. */
final class ComputationEdgesTest extends EdgeKit {
    private static final String WINS = "of all nodes that have waiting frames and are neither detached nor in the phase "
        + "BUS_OFF, the one whose first waiting frame comes first in the order by identifiers and kinds;";
    private static final String BAD_FRAME = "BAD_VALUE as for request()";
    private static final String FORECAST = "if no frames are requested (except by answers) and nothing else happens than the "
        + "disturbances that have been added.";
    private static final String STUFFING = "Whenever five successive bits, stuff bits included, are equal, a stuff bit of the "
        + "other level follows, also after the last bit of the CRC.";

    public static void main(String[] args) {
        Edges.runAll(ComputationEdgesTest.class);
    }

    /** A computation of a frame. */
    private interface FrameCall {
        int of(int identifier, boolean remote, int length, int data);
    }

    private static void refusesOtherIdentifiers(Check c, FrameCall call) {
        for (int identifier : new int[] {-1, 2048, LEAST, GREATEST}) {
            c.due("identifier " + identifier, call.of(identifier, false, 0, 0), BAD_VALUE);
            c.due("remote, identifier " + identifier, call.of(identifier, true, 0, 0), BAD_VALUE);
        }
        c.holds("identifier 0: it", call.of(0, false, 0, 0) >= 0);
        c.holds("identifier 2047: it", call.of(2047, false, 0, 0) >= 0);
    }

    private static void refusesOtherLengths(Check c, FrameCall call) {
        for (int length : new int[] {-1, 5, 8, 15, LEAST, GREATEST}) {
            c.due("length " + length, call.of(0, false, length, 0), BAD_VALUE);
            c.due("remote, length " + length, call.of(0, true, length, 0), BAD_VALUE);
        }
        c.holds("length 0: it", call.of(0, true, 0, 0) >= 0);
        c.holds("length 4: it", call.of(0, true, 4, 0) >= 0);
    }

    private static void refusesOtherData(Check c, FrameCall call) {
        for (int length = 0; length < 4; length++) {
            for (int bit = 8 * length; bit < 32; bit++) {
                c.due("length " + length + ", bit " + bit, call.of(0, false, length, 1 << bit), BAD_VALUE);
            }
            c.holds("length " + length + ", all its bits: it", call.of(0, false, length, (1 << (8 * length)) - 1) >= 0);
        }
        c.holds("length 4, all bits: it", call.of(0, false, 4, -1) >= 0);
        c.holds("length 4, the sign bit: it", call.of(0, false, 4, LEAST) >= 0);
        for (int data : new int[] {1, -1, LEAST}) {
            c.due("remote, data " + data, call.of(0, true, 4, data), BAD_VALUE);
        }
    }

    // ---- promise 33

    @Edge(promise = 33, says = "NONE if there is none.")
    static void winnerOfNoNodes(Check c) {
        ArbitratedBus x = new ArbitratedBus();
        c.due("nothing waits", x.winner(), NONE);
        x.request(2, 5, false, 0, 0);
        c.due("one waits", x.winner(), 2);
        x.detach(2);
        c.due("it is detached", x.winner(), NONE);
        c.due("it is in bus-off", busOff(1).winner(), NONE);
    }

    @Edge(promise = 33, says = WINS)
    static void winnerInTheOrderOfFrames(Check c) {
        ArbitratedBus x = new ArbitratedBus();
        x.request(0, 2047, true, 0, 0);
        c.due("the highest of all", x.winner(), 0);
        x.request(1, 2047, false, 0, 0);
        c.due("data before remote", x.winner(), 1);
        x.request(2, 2046, true, 0, 0);
        c.due("a lower identifier before data", x.winner(), 2);
        x.request(3, 0, true, 0, 0);
        c.due("identifier 0", x.winner(), 3);
        x.request(0, 0, false, 0, 0);
        c.due("its first frame counts, not its oldest", x.winner(), 0);
    }

    @Edge(promise = 33, says = "of several the lowest one.")
    static void winnerOfEqualFrames(Check c) {
        ArbitratedBus x = new ArbitratedBus();
        for (int node = 3; node >= 0; node--) {
            x.request(node, 5, false, node, 0);
            c.due("nodes from " + node + " on", x.winner(), node);
        }
        x.detach(0);
        c.due("without node 0", x.winner(), 1);
    }

    @Edge(promise = 33, says = WINS)
    static void winnerInOtherPhases(Check c) {
        ArbitratedBus x = new ArbitratedBus();
        x.request(1, 9, false, 0, 0);
        x.request(2, 5, false, 0, 0);
        x.detach(2);
        c.due("not a detached node", x.winner(), 1);
        x.attach(2);
        c.due("but one that joins", x.winner(), 2);
        ArbitratedBus y = busOff(1);
        y.attach(1);
        y.request(1, 2047, true, 0, 0);
        c.due("not a node in bus-off", y.winner(), 1);
        y.run(11);
        c.due("but one that has recovered", y.winner(), 0);
    }

    // ---- promise 34

    @Edge(promise = 34, says = "NO_SUCH_NODE")
    static void bitsUntilSentOfNoNode(Check c) {
        refusesOtherNodes(c, new ArbitratedBus()::bitsUntilSent);
    }

    @Edge(promise = 34, says = "NONE if it is not so after 1000 bit times.")
    static void neverSent(Check c) {
        ArbitratedBus x = zeros();
        c.due("nothing waits", x.bitsUntilSent(1), NONE);
        x.detach(0);
        c.due("detached", x.bitsUntilSent(0), NONE);
        c.due("nobody acknowledges", alone().bitsUntilSent(0), NONE);
    }

    /** Twelve frames of four bytes; then some bit times pass, until the last of them will have been sent in others. */
    private static ArbitratedBus sentAfter(int bits) {
        ArbitratedBus x = new ArbitratedBus();
        for (int k = 0; k < 12; k++) {
            x.request(k == 11 ? 3 : k / 4, k == 11 ? 2047 : k, false, 4, 0x01010101);
        }
        x.save(0);
        int all = 0;
        for (int k = 0; k < 20 && x.sent(3) == 0; k++) {
            x.run(100);
            int left = x.bitsUntilSent(3);
            if (left != NONE) {
                all = 100 * (k + 1) + left;
                break;
            }
        }
        x.restore(0);
        for (int left = all - bits; left > 0; left -= 200) {
            x.run(Math.min(left, 200));
        }
        return x;
    }

    @Edge(promise = 34, says = "Returns the number of bit times, 1 to 1000")
    static void sentAfterOneAndAfterThousand(Check c) {
        ArbitratedBus x = zeros();
        c.due("a whole frame", x.bitsUntilSent(0), 50);
        x.run(49);
        c.due("its last bit", x.bitsUntilSent(0), 1);
        x.run(1);
        c.due("it was sent", x.bitsUntilSent(0), NONE);
        c.due("999", sentAfter(999).bitsUntilSent(3), 999);
        c.due("1000", sentAfter(1000).bitsUntilSent(3), 1000);
        c.due("1001", sentAfter(1001).bitsUntilSent(3), NONE);
    }

    @Edge(promise = 34, says = "a node will have sent one more frame")
    static void oneMoreFrame(Check c) {
        ArbitratedBus x = zeros();
        x.request(0, 0, false, 0, 0);
        x.run(50);
        c.due("one was sent", x.sent(0), 1);
        c.due("one more", x.bitsUntilSent(0), ZEROS_BITS);
    }

    @Edge(promise = 34, says = FORECAST)
    static void forecastWithAnswers(Check c) {
        ArbitratedBus x = new ArbitratedBus();
        x.setAnswer(1, 0, 0, 0);
        x.request(0, 0, true, 0, 0);
        int before = x.frameBits(0, true, 0, 0) + 3;
        c.due("by an answer", x.bitsUntilSent(1), before + 50);
        fillWaiting(x, 1);
        int other = x.frameBits(1000, false, 0, 0);
        c.holds("it can be told from the answer: it", other != 50);
        c.due("without room for the answer", x.bitsUntilSent(1), before + other);
        x.cancel(1, 1003);
        c.due("with room for it", x.bitsUntilSent(1), before + 50);
    }

    @Edge(promise = 34, says = FORECAST)
    static void forecastWithDisturbances(Check c) {
        ArbitratedBus x = zeros();
        x.disturb(1, 0);
        // The flags of the others end at 11, eight ones and the intermission follow.
        c.due("an error in the start bit", x.bitsUntilSent(0), 12 + 8 + 3 + 50);
        x.settle();
        c.due("so it was", x.time(), 12 + 8 + 3 + ZEROS_BITS);
    }

    @Edge(promise = 34, says = "predictions and computations (nothing is changed)")
    static void predictionsChangeNothing(Check c) {
        changesNothing(c, EdgeKit::busyState, x -> {
            for (int node = -1; node <= 4; node++) {
                x.bitsUntilSent(node);
            }
            x.winner();
            c.due("crc", x.crc(0, false, 0, 0), 0);
            c.due("frameBits", x.frameBits(0, false, 0, 0), 50);
            c.due("frameBit", x.frameBit(0, false, 0, 0, 5), 1);
            c.due("worstBits", x.worstBits(0), 55);
        });
    }

    // ---- promise 35

    @Edge(promise = 35, says = "`identifier`: 0 to 2047")
    static void crcIdentifierOutOfRange(Check c) {
        refusesOtherIdentifiers(c, new ArbitratedBus()::crc);
    }

    @Edge(promise = 35, says = "`length`: 0 to 4")
    static void crcLengthOutOfRange(Check c) {
        refusesOtherLengths(c, new ArbitratedBus()::crc);
    }

    @Edge(promise = 35, says = BAD_FRAME)
    static void crcOfBadData(Check c) {
        refusesOtherData(c, new ArbitratedBus()::crc);
    }

    /** The CRC of a text of basic bits, by the words of the document. */
    private static int crcOf(String bits) {
        int r = 0;
        for (int k = 0; k < bits.length(); k++) {
            int x = (bits.charAt(k) - '0') ^ (r >> 14 & 1);
            r = (r << 1) & 0x7fff;
            r = x == 1 ? r ^ 0x4599 : r;
        }
        return r;
    }

    private static String binary(int value, int count) {
        StringBuilder out = new StringBuilder();
        for (int bit = count - 1; bit >= 0; bit--) {
            out.append(value >> bit & 1);
        }
        return out.toString();
    }

    private static String basicBits(int identifier, boolean remote, int length, int data) {
        String bits = "0" + binary(identifier, 11) + (remote ? "1" : "0") + "00" + binary(length, 4);
        return remote ? bits : bits + binary(data, 8 * length);
    }

    @Edge(promise = 35, says = "Returns the CRC of the frame")
    static void crcOfTheWords(Check c) {
        ArbitratedBus x = new ArbitratedBus();
        c.due("a single 1 before six zeros", x.crc(0, true, 0, 0), crcOf("0000001000000"));
        c.due("its length counts", x.crc(0, false, 1, 0), crcOf("100000000"));
        c.due("its data count", x.crc(0, false, 1, 1), crcOf("100000001"));
    }

    @Edge(promise = 35, says = "The CRC is computed from all basic bits before it: r is 0 at first;")
    static void crcOfTheShortestAndTheLongestFrames(Check c) {
        ArbitratedBus x = new ArbitratedBus();
        c.due("all zeros", x.crc(0, false, 0, 0), 0);
        c.due("the last bit of the length", x.crc(0, true, 1, 0), crcOf(basicBits(0, true, 1, 0)));
        c.due("all ones, no bytes", x.crc(2047, false, 0, 0), crcOf(basicBits(2047, false, 0, 0)));
        c.due("all ones, four bytes", x.crc(2047, false, 4, -1), crcOf(basicBits(2047, false, 4, -1)));
        c.due("the lowest bit of four bytes", x.crc(0, false, 4, 1), crcOf(basicBits(0, false, 4, 1)));
        c.due("the highest bit of four bytes", x.crc(0, false, 4, LEAST), crcOf(basicBits(0, false, 4, LEAST)));
        c.due("remote, length 4", x.crc(2047, true, 4, 0), crcOf(basicBits(2047, true, 4, 0)));
    }

    @Edge(promise = 35, says = "for each of these bits, let x be the bit xor bit 14 of r; r becomes (r << 1) & 0x7fff, and "
        + "then, if x is 1, r ^ 0x4599. The CRC is r at the end.")
    static void crcHasFifteenBits(Check c) {
        ArbitratedBus x = new ArbitratedBus();
        for (int k = 0; k < 200; k++) {
            int data = k * 0x9e3779b9;
            int crc = x.crc(k * 7, false, 4, data);
            c.holds("15 bits: it", crc >= 0 && crc <= 0x7fff);
            c.due("data " + data, crc, crcOf(basicBits(k * 7, false, 4, data)));
        }
    }

    // ---- promise 36

    @Edge(promise = 36, says = "`identifier`: 0 to 2047")
    static void frameBitsIdentifierOutOfRange(Check c) {
        refusesOtherIdentifiers(c, new ArbitratedBus()::frameBits);
    }

    @Edge(promise = 36, says = "`length`: 0 to 4")
    static void frameBitsLengthOutOfRange(Check c) {
        refusesOtherLengths(c, new ArbitratedBus()::frameBits);
    }

    @Edge(promise = 36, says = BAD_FRAME)
    static void frameBitsOfBadData(Check c) {
        refusesOtherData(c, new ArbitratedBus()::frameBits);
    }

    /** The stuffed part of a frame, by the words of the document. */
    private static String stuffed(int identifier, boolean remote, int length, int data) {
        String basic = basicBits(identifier, remote, length, data);
        basic += binary(crcOf(basic), 15);
        StringBuilder out = new StringBuilder();
        for (int k = 0; k < basic.length(); k++) {
            out.append(basic.charAt(k));
            int size = out.length();
            if (size >= 5 && "00000".contentEquals(out.subSequence(size - 5, size))) {
                out.append('1');
            } else if (size >= 5 && "11111".contentEquals(out.subSequence(size - 5, size))) {
                out.append('0');
            }
        }
        return out.toString();
    }

    @Edge(promise = 36, says = "Returns the number of bits of the frame on the bus, from the start bit to the seventh end "
        + "bit, with stuff bits")
    static void numbersOfBits(Check c) {
        ArbitratedBus x = new ArbitratedBus();
        c.due("no bytes, six stuff bits", x.frameBits(0, false, 0, 0), 34 + 6 + 10);
        c.due("four bytes, thirteen stuff bits", x.frameBits(0x3e0, false, 4, 0x1f07c1f0), 66 + 13 + 10);
        int[][] frames = {{2047, 4, -1}, {0, 4, 0}, {0x555, 4, 0x55555555}, {2047, 0, 0}, {0x078, 1, 0xf0}};
        for (int[] f : frames) {
            int due = stuffed(f[0], false, f[1], f[2]).length() + 10;
            c.due("identifier " + f[0], x.frameBits(f[0], false, f[1], f[2]), due);
            due = stuffed(f[0], true, f[1], 0).length() + 10;
            c.due("remote, identifier " + f[0], x.frameBits(f[0], true, f[1], 0), due);
        }
    }

    @Edge(promise = 36, says = STUFFING)
    static void stuffBitAfterTheLastBitOfTheCrc(Check c) {
        ArbitratedBus x = new ArbitratedBus();
        int found = 0;
        for (int identifier = 0; identifier < 250; identifier++) {
            String bits = stuffed(identifier, false, 0, 0);
            c.due("identifier " + identifier, x.frameBits(identifier, false, 0, 0), bits.length() + 10);
            int crc = x.crc(identifier, false, 0, 0) & 0x3f;
            found += crc == 0x20 || crc == 0x1f ? 1 : 0;
        }
        c.holds("some end in five equal bits: it", found > 0);
    }

    // ---- promise 37

    @Edge(promise = 37, says = "`identifier`: 0 to 2047")
    static void frameBitIdentifierOutOfRange(Check c) {
        ArbitratedBus x = new ArbitratedBus();
        refusesOtherIdentifiers(c, (identifier, remote, length, data) -> x.frameBit(identifier, remote, length, data, 0));
    }

    @Edge(promise = 37, says = "`length`: 0 to 4")
    static void frameBitLengthOutOfRange(Check c) {
        ArbitratedBus x = new ArbitratedBus();
        refusesOtherLengths(c, (identifier, remote, length, data) -> x.frameBit(identifier, remote, length, data, 0));
    }

    @Edge(promise = 37, says = BAD_FRAME)
    static void frameBitOfBadData(Check c) {
        ArbitratedBus x = new ArbitratedBus();
        refusesOtherData(c, (identifier, remote, length, data) -> x.frameBit(identifier, remote, length, data, 0));
    }

    @Edge(promise = 37, says = "NONE if the frame has no bit with this index.")
    static void frameBitIndexOutOfRange(Check c) {
        ArbitratedBus x = new ArbitratedBus();
        int[][] frames = {{0, 0, 0}, {2047, 4, -1}, {0, 4, 0}, {0x555, 4, 0x55555555}};
        for (int[] f : frames) {
            int bits = x.frameBits(f[0], false, f[1], f[2]);
            c.due("the first bit", x.frameBit(f[0], false, f[1], f[2], 0), 0);
            c.due("the last bit", x.frameBit(f[0], false, f[1], f[2], bits - 1), 1);
            for (int index : new int[] {-1, bits, bits + 1, 99, LEAST, GREATEST}) {
                c.due("index " + index, x.frameBit(f[0], false, f[1], f[2], index), NONE);
            }
        }
    }

    @Edge(promise = 37, says = NO_ERROR_APPLIES)
    static void frameBitBadFrameBeforeIndex(Check c) {
        ArbitratedBus x = new ArbitratedBus();
        c.due("bad identifier, no index", x.frameBit(2048, false, 0, 0, -1), BAD_VALUE);
        c.due("bad length, no index", x.frameBit(0, false, 5, 0, 999), BAD_VALUE);
        c.due("bad data, no index", x.frameBit(0, false, 0, 1, -1), BAD_VALUE);
        c.due("remote with data, no index", x.frameBit(0, true, 1, 1, -1), BAD_VALUE);
    }

    private static void hasBits(Check c, int identifier, boolean remote, int length, int data) {
        ArbitratedBus x = new ArbitratedBus();
        String due = stuffed(identifier, remote, length, data) + "1111111111";
        for (int index = 0; index < due.length(); index++) {
            c.due("bit " + index + " of " + identifier, x.frameBit(identifier, remote, length, data, index),
                due.charAt(index) - '0');
        }
    }

    /** The basic bits of a frame, read from frameBit() without the stuff bits. */
    private static String basicBitsOnTheBus(int identifier, boolean remote, int length, int data) {
        ArbitratedBus x = new ArbitratedBus();
        StringBuilder out = new StringBuilder();
        int equal = 0;
        int latest = -1;
        for (int index = 0; index < x.frameBits(identifier, remote, length, data) - 10; index++) {
            int bit = x.frameBit(identifier, remote, length, data, index);
            if (equal < 5) {
                out.append(bit);
            }
            equal = bit == latest ? equal + 1 : 1;
            latest = bit;
        }
        return out.toString();
    }

    private static void hasField(Check c, String what, String bits, int from, String want) {
        c.holds(what + " is " + want + " in " + bits + ": it", bits.startsWith(want, from));
    }

    @Edge(promise = 37, says = "The basic bits of a frame are, one after the other: a start bit 0;")
    static void startBitOfLowestAndHighestFrame(Check c) {
        hasField(c, "start bit", basicBitsOnTheBus(0, false, 0, 0), 0, "0");
        hasField(c, "start bit", basicBitsOnTheBus(2047, true, 4, 0), 0, "0");
    }

    @Edge(promise = 37, says = "the 11 bits of the identifier, the highest first;")
    static void bitsOfTheIdentifier(Check c) {
        for (int identifier : new int[] {0, 1, 1024, 2046, 2047, 0x555}) {
            hasField(c, "identifier", basicBitsOnTheBus(identifier, false, 0, 0), 1, binary(identifier, 11) + "000");
        }
    }

    @Edge(promise = 37, says = "the remote bit, 1 for a remote frame and 0 for a data frame;")
    static void remoteBitOfBothKinds(Check c) {
        hasField(c, "remote bit", basicBitsOnTheBus(2047, false, 0, 0), 12, "0");
        hasField(c, "remote bit", basicBitsOnTheBus(0, true, 0, 0), 12, "1");
    }

    @Edge(promise = 37, says = "an extension bit 0; a reserved bit 0;")
    static void extensionAndReservedBit(Check c) {
        hasField(c, "both bits", basicBitsOnTheBus(2047, true, 4, 0), 13, "00");
        hasField(c, "both bits", basicBitsOnTheBus(2047, false, 4, -1), 13, "00");
    }

    @Edge(promise = 37, says = "the 4 bits of the length, the highest first;")
    static void bitsOfTheLength(Check c) {
        String[] due = {"0000", "0001", "0010", "0011", "0100"};
        for (int length = 0; length <= 4; length++) {
            hasField(c, "length", basicBitsOnTheBus(2047, true, length, 0), 15, due[length]);
            hasField(c, "length", basicBitsOnTheBus(2047, false, length, 0), 15, due[length]);
        }
    }

    @Edge(promise = 37, says = "for a data frame the 8 * length bits of data, the highest first;")
    static void bitsOfTheData(Check c) {
        int[] datas = {0, 0x81, 0x8001, 0x800001, 0x80000001};
        for (int length = 0; length <= 4; length++) {
            String bits = basicBitsOnTheBus(0x555, false, length, datas[length]);
            hasField(c, "data", bits, 19, binary(datas[length], 8 * length));
            c.due("basic bits of length " + length, bits.length(), 19 + 8 * length + 15);
            c.due("basic bits of the remote frame", basicBitsOnTheBus(0x555, true, length, 0).length(), 19 + 15);
        }
    }

    @Edge(promise = 37, says = "and the 15 bits of the CRC, the highest first.")
    static void bitsOfTheCrc(Check c) {
        ArbitratedBus x = new ArbitratedBus();
        hasField(c, "CRC", basicBitsOnTheBus(0, false, 0, 0), 19, binary(0, 15));
        hasField(c, "CRC", basicBitsOnTheBus(0x555, true, 1, 0), 19, binary(x.crc(0x555, true, 1, 0), 15));
        hasField(c, "CRC", basicBitsOnTheBus(2047, false, 4, -1), 51, binary(x.crc(2047, false, 4, -1), 15));
    }

    @Edge(promise = 37, says = "the index of a bit on the bus, 0 for the start bit, stuff bits counted")
    static void everyBitOfLowestAndHighestFrames(Check c) {
        hasBits(c, 0, false, 0, 0);
        hasBits(c, 0, true, 0, 0);
        hasBits(c, 2047, false, 4, -1);
        hasBits(c, 2047, true, 4, 0);
        hasBits(c, 0, false, 4, 0);
        hasBits(c, 0x078, false, 3, 0x0f83e0);
        hasBits(c, 0x555, false, 4, LEAST);
        hasBits(c, 0x2aa, false, 1, 0x80);
        hasBits(c, 1, false, 2, 1);
        hasBits(c, 0x3e0, false, 4, 0x1f07c1f0);
    }

    @Edge(promise = 37, says = "Returns the bit (1 in the acknowledge slot)")
    static void bitOfTheAcknowledgeSlot(Check c) {
        ArbitratedBus x = new ArbitratedBus();
        c.due("before the tail", x.frameBit(0, false, 0, 0, 39), 0);
        for (int index = 40; index <= 49; index++) {
            c.due("bit " + index + " of the tail", x.frameBit(0, false, 0, 0, index), 1);
        }
    }

    @Edge(promise = 37, says = "the CRC delimiter 1, the acknowledge slot, the acknowledge delimiter 1, and seven end bits 1.")
    static void tailOfTenBits(Check c) {
        ArbitratedBus x = new ArbitratedBus();
        for (int length = 0; length <= 4; length++) {
            int stuffed = stuffed(0x555, false, length, 0).length();
            c.due("the last, length " + length, x.frameBit(0x555, false, length, 0, stuffed + 9), 1);
            c.due("behind it, length " + length, x.frameBit(0x555, false, length, 0, stuffed + 10), NONE);
        }
    }

    // ---- promise 38

    @Edge(promise = 38, says = "`length`: 0 to 4")
    static void worstBitsLengthOutOfRange(Check c) {
        ArbitratedBus x = new ArbitratedBus();
        for (int length : new int[] {-1, 5, LEAST, GREATEST}) {
            c.due("length " + length, x.worstBits(length), BAD_VALUE);
        }
    }

    @Edge(promise = 38, says = "47 + 8 * length + (33 + 8 * length) / 4, truncated")
    static void worstBitsOfEveryLength(Check c) {
        ArbitratedBus x = new ArbitratedBus();
        int[] due = {55, 65, 75, 85, 95};
        for (int length = 0; length <= 4; length++) {
            c.due("length " + length, x.worstBits(length), due[length]);
        }
    }

    @Edge(promise = 38, says = "the greatest possible number of bits on the bus of a data frame of this length, with the "
        + "three bits of the intermission")
    static void noFrameIsLonger(Check c) {
        ArbitratedBus x = new ArbitratedBus();
        for (int k = 0; k < 100; k++) {
            int length = k % 5;
            int data = length == 4 ? k * 0x01f07c1f : k * 0x01f07c1f & ((1 << (8 * length)) - 1);
            c.holds("within it: it", x.frameBits(k, false, length, data) + 3 <= x.worstBits(length));
        }
    }
}
