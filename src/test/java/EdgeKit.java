import java.util.ArrayList;
import java.util.List;
import java.util.function.Consumer;
import java.util.function.IntUnaryOperator;

/**
 * What the tests of boundary cases share.
 *
 * Many of them send the frame of zeros(): 40 bits of the stuffed part (a stuff bit 1 at 5, 11, 17, 23, 29
 * and 35, all others 0), the CRC delimiter at 40, the acknowledge slot at 41, its delimiter at 42, the end
 * bits from 43 to 49, the intermission from 50 to 52. The frame of fives() has no stuff bits before its
 * CRC: the identifier at 1 to 11 (1 at odd places), the remote bit at 12, the extension bit at 13, the
 * reserved bit at 14, the length at 15 to 18.
 *
 * No object gets more than 512 calls, since the document leaves free what later ones answer.
 */
abstract class EdgeKit {
    static final String ORDER = "Where several can apply, the order of the @return line is the order of the checks.";
    static final String NO_ERROR_APPLIES = "NONE is not an error and is returned only if no error applies.";
    static final String CHANGES_NOTHING = "A call that reports an error changes nothing.";

    static final int NO_SUCH_NODE = ArbitratedBus.NO_SUCH_NODE;
    static final int BAD_VALUE = ArbitratedBus.BAD_VALUE;
    static final int FULL = ArbitratedBus.FULL;
    static final int NOT_POSSIBLE = ArbitratedBus.NOT_POSSIBLE;
    static final int NONE = ArbitratedBus.NONE;
    static final int BIT = ArbitratedBus.BIT;
    static final int STUFF = ArbitratedBus.STUFF;
    static final int CRC = ArbitratedBus.CRC;
    static final int FORM = ArbitratedBus.FORM;
    static final int ACK = ArbitratedBus.ACK;
    static final int DETACHED = ArbitratedBus.DETACHED;
    static final int BUS_OFF = ArbitratedBus.BUS_OFF;
    static final int JOINING = ArbitratedBus.JOINING;
    static final int IDLE = ArbitratedBus.IDLE;
    static final int FRAME = ArbitratedBus.FRAME;
    static final int FLAG = ArbitratedBus.FLAG;
    static final int OVERLOAD = ArbitratedBus.OVERLOAD;
    static final int DELIMITER = ArbitratedBus.DELIMITER;
    static final int INTERMISSION = ArbitratedBus.INTERMISSION;
    static final int SUSPEND = ArbitratedBus.SUSPEND;

    static final int LEAST = Integer.MIN_VALUE;
    static final int GREATEST = Integer.MAX_VALUE;
    /** The frame of zeros(), with the intermission. */
    static final int ZEROS_BITS = 53;
    /** How long a node that is alone needs to be idle again after an error in its start bit. */
    private static final int BITS_AFTER_FAILURE = 18;
    private static final int SUSPEND_BITS = 8;

    /** Node 0 has the frame with identifier 0 and no bytes. */
    static ArbitratedBus zeros() {
        ArbitratedBus x = new ArbitratedBus();
        x.request(0, 0, false, 0, 0);
        return x;
    }

    static ArbitratedBus fives() {
        ArbitratedBus x = new ArbitratedBus();
        x.request(0, 0x555, false, 4, 0x55555555);
        return x;
    }

    /** Node 0 has the frame of zeros(), and the others are detached. */
    static ArbitratedBus alone() {
        ArbitratedBus x = zeros();
        x.detach(1);
        x.detach(2);
        x.detach(3);
        return x;
    }

    static ArbitratedBus withText(String text) {
        ArbitratedBus x = new ArbitratedBus();
        write(x, text);
        return x;
    }

    static void write(ArbitratedBus x, String text) {
        for (int k = 0; k < text.length(); k++) {
            x.append(text.charAt(k));
        }
    }

    /** Node 0, which is alone, has a BIT error in its start bit, and is idle again unless it is in bus-off. */
    static void failAtStart(ArbitratedBus x) {
        x.disturb(1, 0);
        x.run(BITS_AFTER_FAILURE);
        if (x.phase(0) == SUSPEND) {
            x.run(SUSPEND_BITS);
        }
    }

    /** Node 0 is alone and has just come into the phase BUS_OFF, with the transmit error counter 16. */
    static ArbitratedBus busOff(int recovery) {
        ArbitratedBus x = alone();
        x.setLimits(8, 16, recovery);
        failAtStart(x);
        x.disturb(1, 0);
        x.run(1);
        return x;
    }

    /**
     * The receive error counter of node 1 increases by 9. A disturbed sample makes it begin a frame, which
     * ends with a STUFF error at the seventh sample; the flags of the others follow its active flag, and
     * after its passive flag another disturbance stands for them.
     */
    static void addNineErrors(ArbitratedBus x) {
        x.disturb(2, 0);
        if (x.isPassive(1) == 1) {
            x.disturb(2, 13);
        }
        x.run(60);
    }

    /** Sends some frames with the identifiers from first on and settles after each. */
    static void sendMany(ArbitratedBus x, int node, int first, int count) {
        for (int k = 0; k < count; k++) {
            x.request(node, first + k, false, 1, k);
            x.settle();
        }
    }

    static void fillWaiting(ArbitratedBus x, int node) {
        for (int k = 0; k < 4; k++) {
            x.request(node, 1000 + k, false, 0, 0);
        }
    }

    /** A call with a node answers NO_SUCH_NODE just below, just above, and far from the nodes. */
    static void refusesOtherNodes(Check c, IntUnaryOperator call) {
        for (int node : new int[] {-1, 4, LEAST, GREATEST}) {
            c.due("node " + node, call.applyAsInt(node), NO_SUCH_NODE);
        }
        for (int node = 0; node < 4; node++) {
            c.holds("node " + node + " is one: it", call.applyAsInt(node) != NO_SUCH_NODE);
        }
    }

/** The checksum by the words of the document. */
    static long checksumOf(ArbitratedBus x) {
        long h = 31 * 11 + x.time();
        for (int node = 0; node < 4; node++) {
            h = 31 * h + x.phase(node);
            h = 31 * h + x.isTransmitter(node);
            h = 31 * h + x.transmitErrors(node);
            h = 31 * h + x.receiveErrors(node);
            for (int kind = 1; kind <= 5; kind++) {
                h = 31 * h + x.errors(node, kind);
            }
            h = 31 * h + x.lastError(node);
            h = 31 * h + x.lostArbitrations(node);
            h = 31 * h + x.overloads(node);
            h = 31 * h + x.sent(node);
            h = 31 * h + x.overruns(node);
            h = 31 * h + x.waiting(node);
            for (int index = 0; index < x.waiting(node); index++) {
                h = 31 * h + x.waitingFrame(node, index);
            }
            h = 31 * h + x.received(node);
            for (int index = 0; index < x.received(node); index++) {
                h = 31 * h + x.receivedFrame(node, index);
                h = 31 * h + x.receivedLength(node, index);
                h = 31 * h + x.receivedData(node, index);
            }
        }
        for (int back = 1; back <= 32; back++) {
            h = 31 * h + x.level(back);
        }
        return h;
    }

    /** Two buses have had the same calls, but for some more on the second: they must answer alike ever after. */
    static void changesNothing(Check c, Consumer<ArbitratedBus> before, Consumer<ArbitratedBus> more) {
        ArbitratedBus plain = new ArbitratedBus();
        ArbitratedBus other = new ArbitratedBus();
        before.accept(plain);
        before.accept(other);
        more.accept(other);
        List<Long> want = laterAnswers(plain);
        List<Long> got = laterAnswers(other);
        c.due("number of later answers", got.size(), want.size());
        for (int k = 0; k < Math.min(got.size(), want.size()); k++) {
            c.due("later answer " + k, got.get(k), want.get(k));
        }
    }

    /** A state with something of everything: the calls that are refused must leave it as it is. */
    static void busyState(ArbitratedBus x) {
        x.setLimits(20, 40, 2);
        x.setFilter(1, 2047, 5);
        x.setFilter(2, 3, 1);
        for (int k = 0; k < 4; k++) {
            x.setAnswer(2, k, 1, 10 + k);
            x.addMessage(k, k, 900, k);
            x.addMessage(4 + k, 0, 2000, 0);
        }
        write(x, "1:005#aabb;");
        sendMany(x, 3, 5, 3);
        x.save(0);
        fillWaiting(x, 0);
        x.request(3, 5, false, 2, 99);
        for (int k = 0; k < 8; k++) {
            x.disturb(1 + k, 150 + k);
        }
        x.run(9);
    }

    /** Answers from which the whole state can be seen, also what no call shows by itself. */
    private static List<Long> laterAnswers(ArbitratedBus x) {
        List<Long> out = new ArrayList<>();
        addPresent(x, out);
        addTraffic(x, out);
        addLimits(x, out);
        for (int slot = 0; slot < 2; slot++) {
            out.add((long) x.restore(slot));
            out.add(x.checksum());
        }
        return out;
    }

    private static void addPresent(ArbitratedBus x, List<Long> out) {
        out.add(x.checksum());
        for (int node = 0; node < 4; node++) {
            out.add((long) x.isPassive(node));
            out.add((long) x.bitsUntilSent(node));
            out.add((long) x.receivedData(node, 0));
        }
        out.add((long) x.winner());
        out.add((long) x.disturb(1, 200));
        out.add((long) x.misses());
        for (int identifier = 0; identifier < 10; identifier++) {
            out.add((long) x.responseTime(identifier));
        }
        out.add((long) x.removeMessage(0));
        out.add((long) x.faultPosition());
    }

    private static void addTraffic(ArbitratedBus x, List<Long> out) {
        out.add((long) x.load());
        out.add((long) x.clearText());
        out.add((long) x.settle());
        out.add(x.checksum());
        for (int identifier = 0; identifier < 10; identifier++) {
            x.discard(1);
            x.discard(2);
            out.add((long) x.request(0, identifier, true, 1, 0));
            out.add((long) x.settle());
            out.add(x.checksum());
        }
        for (int node = 0; node < 4; node++) {
            out.add((long) x.setFilter(node, 0, 0));
            out.add((long) x.removeAnswer(node, 1));
        }
    }

    /** Node 0, alone, fails until it is in bus-off, and recovers. */
    private static void addLimits(ArbitratedBus x, List<Long> out) {
        for (int node = 0; node < 4; node++) {
            x.detach(node);
        }
        x.attach(0);
        x.run(11);
        x.request(0, 0, false, 0, 0);
        for (int k = 0; k < 33 && x.phase(0) != BUS_OFF; k++) {
            failAtStart(x);
            out.add((long) x.isPassive(0));
        }
        out.add((long) x.transmitErrors(0));
        x.cancel(0, 0);
        for (int k = 0; k < 16 && x.phase(0) == BUS_OFF; k++) {
            x.run(11);
            out.add((long) x.phase(0));
        }
        out.add((long) x.setLimits(128, 256, 4));
    }
}
