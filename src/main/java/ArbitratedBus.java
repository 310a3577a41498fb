/**
 * A bit-level simulator of a serial bus with four nodes, in the manner of CAN.
 *
 * All rows are made in the constructors and used again, so that no call makes an object.
 */
public final class ArbitratedBus {
    public static final int NO_SUCH_NODE = -1;
    public static final int BAD_VALUE = -2;
    public static final int FULL = -3;
    public static final int NOT_POSSIBLE = -4;
    public static final int NONE = -5;
    public static final int BIT = 1;
    public static final int STUFF = 2;
    public static final int CRC = 3;
    public static final int FORM = 4;
    public static final int ACK = 5;
    public static final int DETACHED = 0, BUS_OFF = 1, JOINING = 2, IDLE = 3, FRAME = 4, FLAG = 5, OVERLOAD = 6,
        DELIMITER = 7, INTERMISSION = 8, SUSPEND = 9;

    private static final int NODES = 4;
    private static final int SLOTS = 2;
    private static final int MAX_IDENTIFIER = 2047;
    private static final int MAX_LENGTH = 4;
    private static final int MAX_RUN = 200;
    private static final int MAX_DELAY = 200;
    private static final int MAX_PASS = 1000;
    private static final int MAX_STUFFED_BITS = 82;
    private static final int TAIL_BITS = 10;
    private static final int LEVELS_IN_CHECKSUM = 32;
    private static final int FAULT_BASE = -1000;

    private final Bus bus;
    private final Bus forecast;
    private final Bus[] slots;
    private final boolean[] isSaved;
    private final FrameBits walker;
    private final Messages messages;
    private final Text text;

    public ArbitratedBus() {
        bus = new Bus();
        forecast = new Bus();
        slots = new Bus[SLOTS];
        for (int slot = 0; slot < SLOTS; slot++) {
            slots[slot] = new Bus();
        }
        isSaved = new boolean[SLOTS];
        walker = new FrameBits();
        messages = new Messages();
        text = new Text();
    }

    // ---- configuration

    public int setLimits(int passive, int off, int recovery) {
        if (!isWithin(passive, 8, 128) || !isWithin(off, 16, 256) || off <= passive || !isWithin(recovery, 1, 16)) {
            return BAD_VALUE;
        }
        Limits limits = bus.limits;
        int previous = limits.passive;
        limits.passive = passive;
        limits.off = off;
        limits.recovery = recovery;
        return previous;
    }

    public int setFilter(int node, int mask, int code) {
        if (!isNode(node)) {
            return NO_SUCH_NODE;
        }
        if (!isIdentifier(mask) || !isIdentifier(code)) {
            return BAD_VALUE;
        }
        Node chosen = bus.nodes[node];
        int previous = chosen.mask;
        chosen.mask = mask;
        chosen.code = code;
        return previous;
    }

    public int setAnswer(int node, int identifier, int length, int data) {
        if (!isNode(node)) {
            return NO_SUCH_NODE;
        }
        if (!isFrame(identifier, false, length, data)) {
            return BAD_VALUE;
        }
        FrameList answers = bus.nodes[node].answers;
        int key = keyOf(identifier, false);
        int old = answers.indexOf(key);
        if (old < 0 && answers.isFull()) {
            return FULL;
        }
        answers.removeAt(old);
        answers.insertAt(answers.size, key, length, data);
        return answers.size;
    }

    public int removeAnswer(int node, int identifier) {
        if (!isNode(node)) {
            return NO_SUCH_NODE;
        }
        FrameList answers = bus.nodes[node].answers;
        int index = isIdentifier(identifier) ? answers.indexOf(keyOf(identifier, false)) : -1;
        if (index < 0) {
            return NONE;
        }
        answers.removeAt(index);
        return answers.size;
    }

    public int detach(int node) {
        if (!isNode(node)) {
            return NO_SUCH_NODE;
        }
        Node chosen = bus.nodes[node];
        int previous = chosen.phase;
        if (previous == DETACHED) {
            return NOT_POSSIBLE;
        }
        chosen.enter(DETACHED);
        return previous;
    }

    public int attach(int node) {
        if (!isNode(node)) {
            return NO_SUCH_NODE;
        }
        Node chosen = bus.nodes[node];
        if (chosen.phase != DETACHED) {
            return NOT_POSSIBLE;
        }
        chosen.enter(JOINING);
        return bus.countAttached();
    }

    // ---- frames and time

    public int request(int node, int identifier, boolean remote, int length, int data) {
        if (!isNode(node)) {
            return NO_SUCH_NODE;
        }
        if (!isFrame(identifier, remote, length, data)) {
            return BAD_VALUE;
        }
        Node chosen = bus.nodes[node];
        if (!chosen.enqueue(keyOf(identifier, remote), length, data)) {
            return FULL;
        }
        return chosen.waitingFrames.size;
    }

    public int cancel(int node, int identifier) {
        if (!isNode(node)) {
            return NO_SUCH_NODE;
        }
        return bus.nodes[node].withdraw(identifier);
    }

    public int disturb(int nodes, int delay) {
        if (!isWithin(nodes, 1, 15) || !isWithin(delay, 0, MAX_DELAY)) {
            return BAD_VALUE;
        }
        Disturbances disturbances = bus.disturbances;
        if (!disturbances.add(nodes, bus.now + delay)) {
            return FULL;
        }
        return disturbances.size;
    }

    public int run(int bits) {
        if (!isWithin(bits, 1, MAX_RUN)) {
            return BAD_VALUE;
        }
        int before = bus.countSent();
        for (int bit = 0; bit < bits; bit++) {
            bus.passBit();
        }
        return bus.countSent() - before;
    }

    public int settle() {
        for (int passed = 0; passed < MAX_PASS; passed++) {
            if (bus.isSettled()) {
                return passed;
            }
            bus.passBit();
        }
        return bus.isSettled() ? MAX_PASS : NONE;
    }

    // ---- nodes

    public int phase(int node) {
        return isNode(node) ? bus.nodes[node].phase : NO_SUCH_NODE;
    }

    public int isTransmitter(int node) {
        return isNode(node) ? asInt(bus.nodes[node].transmitter) : NO_SUCH_NODE;
    }

    public int transmitErrors(int node) {
        return isNode(node) ? bus.nodes[node].transmitCounter : NO_SUCH_NODE;
    }

    public int receiveErrors(int node) {
        return isNode(node) ? bus.nodes[node].receiveCounter : NO_SUCH_NODE;
    }

    public int isPassive(int node) {
        return isNode(node) ? asInt(bus.nodes[node].isErrorPassive()) : NO_SUCH_NODE;
    }

    public int errors(int node, int kind) {
        if (!isNode(node)) {
            return NO_SUCH_NODE;
        }
        if (!isWithin(kind, BIT, ACK)) {
            return BAD_VALUE;
        }
        return bus.nodes[node].tally.errorCounts[kind];
    }

    public int lastError(int node) {
        return isNode(node) ? bus.nodes[node].tally.latestError : NO_SUCH_NODE;
    }

    public int lostArbitrations(int node) {
        return isNode(node) ? bus.nodes[node].tally.lost : NO_SUCH_NODE;
    }

    public int overloads(int node) {
        return isNode(node) ? bus.nodes[node].tally.overloaded : NO_SUCH_NODE;
    }

    public int sent(int node) {
        return isNode(node) ? bus.nodes[node].tally.sentFrames : NO_SUCH_NODE;
    }

    public int overruns(int node) {
        return isNode(node) ? bus.nodes[node].tally.overrun : NO_SUCH_NODE;
    }

    public int waiting(int node) {
        return isNode(node) ? bus.nodes[node].waitingFrames.size : NO_SUCH_NODE;
    }

    public int waitingFrame(int node, int index) {
        return isNode(node) ? bus.nodes[node].waitingFrames.keyAt(index) : NO_SUCH_NODE;
    }

    public int received(int node) {
        return isNode(node) ? bus.nodes[node].receivedFrames.size : NO_SUCH_NODE;
    }

    public int receivedFrame(int node, int index) {
        return isNode(node) ? bus.nodes[node].receivedFrames.keyAt(index) : NO_SUCH_NODE;
    }

    public int receivedLength(int node, int index) {
        return isNode(node) ? bus.nodes[node].receivedFrames.lengthAt(index) : NO_SUCH_NODE;
    }

    public int receivedData(int node, int index) {
        return isNode(node) ? bus.nodes[node].receivedFrames.dataAt(index) : 0;
    }

    public int discard(int node) {
        if (!isNode(node)) {
            return NO_SUCH_NODE;
        }
        FrameList frames = bus.nodes[node].receivedFrames;
        if (frames.size == 0) {
            return NONE;
        }
        frames.removeAt(0);
        return frames.size;
    }

    public int time() {
        return bus.now;
    }

    public int level(int back) {
        if (!isWithin(back, 1, Bus.LEVELS)) {
            return BAD_VALUE;
        }
        return bus.levelBefore(back);
    }

    // ---- predictions and computations (nothing is changed)

    public int winner() {
        return bus.nextWinner();
    }

    public int bitsUntilSent(int node) {
        if (!isNode(node)) {
            return NO_SUCH_NODE;
        }
        forecast.copyFrom(bus);
        Tally tally = forecast.nodes[node].tally;
        int before = tally.sentFrames;
        for (int bits = 1; bits <= MAX_PASS; bits++) {
            forecast.passBit();
            if (tally.sentFrames != before) {
                return bits;
            }
        }
        return NONE;
    }

    public int crc(int identifier, boolean remote, int length, int data) {
        if (!isFrame(identifier, remote, length, data)) {
            return BAD_VALUE;
        }
        walk(keyOf(identifier, remote), length, data, MAX_STUFFED_BITS);
        return walker.ownCrc;
    }

    public int frameBits(int identifier, boolean remote, int length, int data) {
        if (!isFrame(identifier, remote, length, data)) {
            return BAD_VALUE;
        }
        return walk(keyOf(identifier, remote), length, data, MAX_STUFFED_BITS) + TAIL_BITS;
    }

    public int frameBit(int identifier, boolean remote, int length, int data, int index) {
        if (!isFrame(identifier, remote, length, data)) {
            return BAD_VALUE;
        }
        if (index < 0 || index >= MAX_STUFFED_BITS + TAIL_BITS) {
            return NONE;
        }
        int walked = walk(keyOf(identifier, remote), length, data, index + 1);
        if (walked > index) {
            return walker.latest;
        }
        return index < walked + TAIL_BITS ? 1 : NONE;
    }

    public int worstBits(int length) {
        return isLength(length) ? longestFrame(length) : BAD_VALUE;
    }

    // ---- periodic messages

    public int addMessage(int identifier, int length, int period, int jitter) {
        if (!isIdentifier(identifier) || !isLength(length) || !isWithin(period, 1, 5000) || !isWithin(jitter, 0, 500)) {
            return BAD_VALUE;
        }
        if (!messages.put(identifier, length, period, jitter)) {
            return FULL;
        }
        return messages.size;
    }

    public int removeMessage(int identifier) {
        int index = messages.indexOf(identifier);
        if (index < 0) {
            return NONE;
        }
        messages.removeAt(index);
        return messages.size;
    }

    public int responseTime(int identifier) {
        int index = messages.indexOf(identifier);
        return index < 0 ? BAD_VALUE : messages.worstResponse(index);
    }

    public int misses() {
        int count = 0;
        for (int index = 0; index < messages.size; index++) {
            if (messages.worstResponse(index) == NONE) {
                count++;
            }
        }
        return count;
    }

    // ---- text, slots, checksum

    public int append(int letter) {
        if (!isWithin(letter, 0, 127)) {
            return BAD_VALUE;
        }
        if (!text.add(letter)) {
            return FULL;
        }
        return text.size;
    }

    public int clearText() {
        int length = text.size;
        text.size = 0;
        return length;
    }

    public int faultPosition() {
        return text.findFault();
    }

    public int load() {
        int fault = text.findFault();
        if (fault != NONE) {
            return FAULT_BASE - fault;
        }
        RequestReader reader = text.reader;
        reader.restart();
        int count = 0;
        for (int index = 0; index < text.size; index++) {
            reader.take(text.letterAt(index));
            if (reader.isBetweenRequests() && requestRead(reader)) {
                count++;
            }
        }
        return count;
    }

    public int save(int slot) {
        if (!isSlot(slot)) {
            return BAD_VALUE;
        }
        slots[slot].copyFrom(bus);
        isSaved[slot] = true;
        return bus.now;
    }

    public int restore(int slot) {
        if (!isSlot(slot)) {
            return BAD_VALUE;
        }
        if (!isSaved[slot]) {
            return NONE;
        }
        bus.copyFrom(slots[slot]);
        return bus.now;
    }

    public long checksum() {
        long sum = mix(11, bus.now);
        for (int node = 0; node < NODES; node++) {
            sum = mixNode(sum, bus.nodes[node]);
        }
        for (int back = 1; back <= LEVELS_IN_CHECKSUM; back++) {
            sum = mix(sum, bus.levelBefore(back));
        }
        return sum;
    }

    // ---- helpers

    private static boolean isWithin(int value, int least, int greatest) {
        return value >= least && value <= greatest;
    }

    private static boolean isNode(int node) {
        return isWithin(node, 0, NODES - 1);
    }

    private static boolean isSlot(int slot) {
        return isWithin(slot, 0, SLOTS - 1);
    }

    private static boolean isIdentifier(int identifier) {
        return isWithin(identifier, 0, MAX_IDENTIFIER);
    }

    private static boolean isLength(int length) {
        return isWithin(length, 0, MAX_LENGTH);
    }

    private static boolean isFrame(int identifier, boolean remote, int length, int data) {
        if (!isIdentifier(identifier) || !isLength(length) || remote && data != 0) {
            return false;
        }
        // A shift by 32 would leave an int as it is, but four bytes leave no bit over.
        return length == MAX_LENGTH || data >>> (8 * length) == 0;
    }

    private static int asInt(boolean condition) {
        return condition ? 1 : 0;
    }

    /** The number by which frames are ordered and shown: 2 * identifier, plus 1 for a remote frame. */
    private static int keyOf(int identifier, boolean remote) {
        return 2 * identifier + asInt(remote);
    }

    private static int longestFrame(int length) {
        return 47 + 8 * length + (33 + 8 * length) / 4;
    }

    private static long mix(long sum, long value) {
        return 31 * sum + value;
    }

    private static long mixNode(long start, Node node) {
        Tally tally = node.tally;
        long sum = mix(start, node.phase);
        sum = mix(sum, asInt(node.transmitter));
        sum = mix(sum, node.transmitCounter);
        sum = mix(sum, node.receiveCounter);
        for (int kind = BIT; kind <= ACK; kind++) {
            sum = mix(sum, tally.errorCounts[kind]);
        }
        sum = mix(sum, tally.latestError);
        sum = mix(sum, tally.lost);
        sum = mix(sum, tally.overloaded);
        sum = mix(sum, tally.sentFrames);
        sum = mix(sum, tally.overrun);
        return mixFrames(sum, node.waitingFrames, node.receivedFrames);
    }

    private static long mixFrames(long start, FrameList waitingFrames, FrameList receivedFrames) {
        long sum = mix(start, waitingFrames.size);
        for (int index = 0; index < waitingFrames.size; index++) {
            sum = mix(sum, waitingFrames.keyAt(index));
        }
        sum = mix(sum, receivedFrames.size);
        for (int index = 0; index < receivedFrames.size; index++) {
            sum = mix(sum, receivedFrames.keyAt(index));
            sum = mix(sum, receivedFrames.lengthAt(index));
            sum = mix(sum, receivedFrames.dataAt(index));
        }
        return sum;
    }

    /** Walks over the stuffed part of a frame, at most some bits far; returns how many bits were walked. */
    private int walk(int key, int length, int data, int most) {
        long outgoing = FrameBits.outgoingBits(key, length, data);
        walker.begin();
        int walked = 1;
        while (walked < most && walker.isInStuffedPart()) {
            int bit = walker.nextOf(outgoing);
            if (walker.isStuffBitDue()) {
                walker.takeStuffBit(bit);
            } else {
                walker.takeBasicBit(bit);
            }
            walked++;
        }
        return walked;
    }

    private boolean requestRead(RequestReader reader) {
        if (!isNode(reader.node)) {
            return false;
        }
        return bus.nodes[reader.node].enqueue(keyOf(reader.identifier, reader.remote), reader.length, reader.data);
    }

    /** The state of the bus: all that a slot keeps. */
    private static final class Bus {
        static final int LEVELS = 256;

        final Limits limits;
        final Node[] nodes;
        final Disturbances disturbances;
        final int[] levels;
        int now;

        Bus() {
            limits = new Limits();
            nodes = new Node[NODES];
            for (int node = 0; node < NODES; node++) {
                nodes[node] = new Node(limits);
            }
            disturbances = new Disturbances();
            levels = new int[LEVELS];
        }

        void copyFrom(Bus other) {
            limits.copyFrom(other.limits);
            for (int node = 0; node < NODES; node++) {
                nodes[node].copyFrom(other.nodes[node]);
            }
            disturbances.copyFrom(other.disturbances);
            System.arraycopy(other.levels, 0, levels, 0, LEVELS);
            now = other.now;
        }

        void passBit() {
            int level = 1;
            for (int node = 0; node < NODES; node++) {
                level &= nodes[node].drive();
            }
            int inverted = disturbances.nodesAt(now);
            for (int node = 0; node < NODES; node++) {
                nodes[node].act(level ^ (inverted >> node & 1));
            }
            levels[now & (LEVELS - 1)] = level;
            now++;
            disturbances.dropBefore(now);
        }

        int levelBefore(int back) {
            return back > now ? NONE : levels[(now - back) & (LEVELS - 1)];
        }

        boolean isSettled() {
            for (int index = 0; index < NODES; index++) {
                Node node = nodes[index];
                if (node.takesPart() && (node.phase != IDLE || node.waitingFrames.size > 0)) {
                    return false;
                }
            }
            return true;
        }

        int nextWinner() {
            int winning = NONE;
            int lowest = 0;
            for (int index = 0; index < NODES; index++) {
                Node node = nodes[index];
                if (!node.takesPart() || node.waitingFrames.size == 0) {
                    continue;
                }
                int key = node.waitingFrames.keyAt(0);
                if (winning == NONE || key < lowest) {
                    winning = index;
                    lowest = key;
                }
            }
            return winning;
        }

        int countAttached() {
            int count = 0;
            for (int node = 0; node < NODES; node++) {
                if (nodes[node].phase != DETACHED) {
                    count++;
                }
            }
            return count;
        }

        int countSent() {
            int count = 0;
            for (int node = 0; node < NODES; node++) {
                count += nodes[node].tally.sentFrames;
            }
            return count;
        }
    }

    /** The limits that all nodes share. */
    private static final class Limits {
        int passive = 128;
        int off = 256;
        int recovery = 4;

        void copyFrom(Limits other) {
            passive = other.passive;
            off = other.off;
            recovery = other.recovery;
        }
    }

    /** The disturbances whose bit times have not passed. */
    private static final class Disturbances {
        private static final int CAPACITY = 8;

        private final int[] sets = new int[CAPACITY];
        private final int[] times = new int[CAPACITY];
        int size;

        void copyFrom(Disturbances other) {
            System.arraycopy(other.sets, 0, sets, 0, CAPACITY);
            System.arraycopy(other.times, 0, times, 0, CAPACITY);
            size = other.size;
        }

        /** Returns false if there is no room. */
        boolean add(int set, int time) {
            if (size >= CAPACITY) {
                return false;
            }
            sets[size] = set;
            times[size] = time;
            size++;
            return true;
        }

        int nodesAt(int time) {
            int set = 0;
            for (int index = 0; index < size; index++) {
                if (times[index] == time) {
                    set |= sets[index];
                }
            }
            return set;
        }

        void dropBefore(int time) {
            int kept = 0;
            for (int index = 0; index < size; index++) {
                if (times[index] >= time) {
                    sets[kept] = sets[index];
                    times[kept] = times[index];
                    kept++;
                }
            }
            size = kept;
        }
    }

    /** A node with its counters and lists, and how it drives and acts in a bit time. */
    private static final class Node {
        private static final int MAX_WAITING = 4;
        private static final int MAX_RECEIVED = 6;
        private static final int MAX_ANSWERS = 4;
        private static final int MAX_RECEIVE_COUNTER = 255;
        private static final int NOT_SENDING = -1;
        private static final int FLAG_BITS = 6;
        private static final int DELIMITER_BITS = 8;
        private static final int INTERMISSION_BITS = 3;
        private static final int SUSPEND_BITS = 8;
        private static final int SEQUENCE_BITS = 11;

        final Limits limits;
        final Tally tally = new Tally();
        final FrameList waitingFrames = new FrameList(MAX_WAITING);
        final FrameList receivedFrames = new FrameList(MAX_RECEIVED);
        final FrameList answers = new FrameList(MAX_ANSWERS);
        final FrameBits bits = new FrameBits();
        int mask;
        int code;
        int phase = IDLE;
        boolean transmitter;
        int transmitCounter;
        int receiveCounter;
        /** The bit times, or the samples that count, in this phase. */
        int count;
        int sequences;
        boolean flagIsActive;
        boolean isFirstAfterFlag;
        int driven = 1;
        /** The index of the frame that the node is sending, among its waiting frames. */
        int sending = NOT_SENDING;
        long outgoing;

        Node(Limits shared) {
            limits = shared;
        }

        void copyFrom(Node other) {
            tally.copyFrom(other.tally);
            waitingFrames.copyFrom(other.waitingFrames);
            receivedFrames.copyFrom(other.receivedFrames);
            answers.copyFrom(other.answers);
            bits.copyFrom(other.bits);
            mask = other.mask;
            code = other.code;
            phase = other.phase;
            transmitter = other.transmitter;
            transmitCounter = other.transmitCounter;
            receiveCounter = other.receiveCounter;
            count = other.count;
            sequences = other.sequences;
            flagIsActive = other.flagIsActive;
            isFirstAfterFlag = other.isFirstAfterFlag;
            driven = other.driven;
            sending = other.sending;
            outgoing = other.outgoing;
        }

        boolean takesPart() {
            return phase != DETACHED && phase != BUS_OFF;
        }

        boolean isErrorPassive() {
            return transmitCounter >= limits.passive || receiveCounter >= limits.passive;
        }

        /** Makes a frame a waiting frame; returns false if there is no room. */
        boolean enqueue(int key, int length, int data) {
            if (waitingFrames.isFull()) {
                return false;
            }
            int place = waitingFrames.placeFor(key);
            waitingFrames.insertAt(place, key, length, data);
            if (place <= sending) {
                sending++;
            }
            return true;
        }

        /** Removes the waiting frames with an identifier, but not the one being sent; returns how many. */
        int withdraw(int identifier) {
            int removed = 0;
            for (int index = waitingFrames.size - 1; index >= 0; index--) {
                if (index == sending || waitingFrames.keyAt(index) >> 1 != identifier) {
                    continue;
                }
                waitingFrames.removeAt(index);
                removed++;
                if (index < sending) {
                    sending--;
                }
            }
            return removed;
        }

        void enter(int next) {
            phase = next;
            count = 0;
            sequences = 0;
            sending = NOT_SENDING;
            if (next < FRAME || next > INTERMISSION) {
                transmitter = false;
            }
            if (next == OVERLOAD) {
                tally.overloaded++;
            }
        }

        int drive() {
            driven = levelToDrive();
            return driven;
        }

        private int levelToDrive() {
            switch (phase) {
                case IDLE:
                    return waitingFrames.size > 0 ? 0 : 1;
                case FRAME:
                    return transmitter ? bits.nextOf(outgoing) : bits.nextOfReceiver();
                case FLAG:
                    return flagIsActive ? 0 : 1;
                case OVERLOAD:
                    return 0;
                default:
                    return 1;
            }
        }

        void act(int sample) {
            switch (phase) {
                case BUS_OFF:
                    actBusOff(sample);
                    break;
                case JOINING:
                    actJoining(sample);
                    break;
                case IDLE:
                    actIdle(sample);
                    break;
                case FRAME:
                    if (bits.isInStuffedPart()) {
                        actStuffedPart(sample);
                    } else {
                        actTail(sample);
                    }
                    break;
                case FLAG:
                case OVERLOAD:
                    actFlag();
                    break;
                case DELIMITER:
                    actDelimiter(sample);
                    break;
                case INTERMISSION:
                    actIntermission(sample);
                    break;
                case SUSPEND:
                    actSuspend(sample);
                    break;
                default:
                    // A detached node does not sample the bus.
                    break;
            }
        }

        private void actBusOff(int sample) {
            count = sample == 1 ? count + 1 : 0;
            if (count < SEQUENCE_BITS) {
                return;
            }
            count = 0;
            sequences++;
            if (sequences >= limits.recovery) {
                transmitCounter = 0;
                receiveCounter = 0;
                enter(IDLE);
            }
        }

        private void actJoining(int sample) {
            count = sample == 1 ? count + 1 : 0;
            if (count >= SEQUENCE_BITS) {
                enter(IDLE);
            }
        }

        private void actIdle(int sample) {
            if (sample == 0) {
                beginFrame(driven == 0);
            } else if (driven == 0) {
                transmitter = true;
                fail(BIT);
            }
        }

        private void actFlag() {
            count++;
            if (count >= FLAG_BITS) {
                isFirstAfterFlag = phase == FLAG;
                enter(DELIMITER);
            }
        }

        private void actDelimiter(int sample) {
            boolean isFirst = isFirstAfterFlag;
            isFirstAfterFlag = false;
            if (sample == 1) {
                count++;
                if (count >= DELIMITER_BITS) {
                    enter(INTERMISSION);
                }
            } else if (count == 0) {
                if (isFirst && !transmitter) {
                    raiseReceiveCounter(8);
                }
            } else if (count < DELIMITER_BITS - 1) {
                fail(FORM);
            } else {
                enter(OVERLOAD);
            }
        }

        private void actIntermission(int sample) {
            count++;
            if (count < INTERMISSION_BITS) {
                if (sample == 0) {
                    enter(OVERLOAD);
                }
            } else if (sample == 0) {
                beginFrame(false);
            } else {
                enter(transmitter && isErrorPassive() ? SUSPEND : IDLE);
            }
        }

        private void actSuspend(int sample) {
            count++;
            if (sample == 0) {
                beginFrame(false);
            } else if (count >= SUSPEND_BITS) {
                enter(IDLE);
            }
        }

        private void beginFrame(boolean asTransmitter) {
            enter(FRAME);
            transmitter = asTransmitter;
            bits.begin();
            if (asTransmitter) {
                sending = 0;
                outgoing = FrameBits.outgoingBits(waitingFrames.keyAt(0), waitingFrames.lengthAt(0),
                    waitingFrames.dataAt(0));
            }
        }

        private void actStuffedPart(int sample) {
            if (!bits.isStuffBitDue()) {
                actBasicBit(sample);
            } else if (sample == bits.latest) {
                fail(transmitter ? BIT : STUFF);
            } else {
                bits.takeStuffBit(sample);
            }
        }

        private void actBasicBit(int sample) {
            if (transmitter && sample != driven) {
                if (driven == 0 || !bits.isInArbitration()) {
                    fail(BIT);
                    return;
                }
                transmitter = false;
                sending = NOT_SENDING;
                tally.lost++;
            }
            bits.takeBasicBit(sample);
            if (!transmitter && bits.hasWrongHeader()) {
                fail(FORM);
            }
        }

        private void actTail(int sample) {
            int place = bits.tail;
            bits.tail++;
            if (place == FrameBits.ACK_SLOT) {
                if (transmitter && sample == 1) {
                    fail(ACK);
                }
            } else if (place >= FrameBits.SEVENTH_END_BIT) {
                endFrame(sample);
            } else if (sample == 0) {
                fail(transmitter ? BIT : FORM);
            } else if (transmitter) {
                return;
            } else if (place == FrameBits.ACK_DELIMITER && !bits.isCrcRight()) {
                fail(CRC);
            } else if (place == FrameBits.SIXTH_END_BIT) {
                acceptFrame();
            }
        }

        private void endFrame(int sample) {
            if (sample == 0) {
                if (transmitter) {
                    fail(BIT);
                } else {
                    enter(OVERLOAD);
                }
                return;
            }
            if (transmitter) {
                waitingFrames.removeAt(sending);
                transmitCounter = Math.max(0, transmitCounter - 1);
                tally.sentFrames++;
            }
            enter(INTERMISSION);
        }

        private void acceptFrame() {
            if (receiveCounter >= limits.passive) {
                receiveCounter = limits.passive - 8;
            } else if (receiveCounter > 0) {
                receiveCounter--;
            }
            int key = bits.sampledKey();
            if ((((key >> 1) ^ code) & mask) != 0) {
                return;
            }
            // The answers are data frames, whose keys are even.
            int answer = (key & 1) == 1 ? answers.indexOf(key - 1) : -1;
            if (answer >= 0) {
                enqueue(key - 1, answers.lengthAt(answer), answers.dataAt(answer));
            } else if (receivedFrames.isFull()) {
                tally.overrun++;
            } else {
                receivedFrames.insertAt(receivedFrames.size, key, bits.sampledLength(), bits.sampledData());
            }
        }

        private void fail(int kind) {
            tally.countError(kind);
            if (!transmitter) {
                raiseReceiveCounter(1);
            } else if (kind != ACK || !isErrorPassive()) {
                transmitCounter += 8;
            }
            if (transmitCounter >= limits.off) {
                enter(BUS_OFF);
            } else {
                flagIsActive = !isErrorPassive();
                enter(FLAG);
            }
        }

        private void raiseReceiveCounter(int by) {
            receiveCounter = Math.min(MAX_RECEIVE_COUNTER, receiveCounter + by);
        }
    }

    /** What has happened to a node so far. */
    private static final class Tally {
        private static final int KINDS = ACK + 1;

        final int[] errorCounts = new int[KINDS];
        int latestError = NONE;
        int lost;
        int overloaded;
        int sentFrames;
        int overrun;

        void copyFrom(Tally other) {
            System.arraycopy(other.errorCounts, 0, errorCounts, 0, KINDS);
            latestError = other.latestError;
            lost = other.lost;
            overloaded = other.overloaded;
            sentFrames = other.sentFrames;
            overrun = other.overrun;
        }

        void countError(int kind) {
            if (kind >= 0 && kind < KINDS) {
                errorCounts[kind]++;
                latestError = kind;
            }
        }
    }

    /** A list of frames of a fixed capacity. */
    private static final class FrameList {
        private final int[] keys;
        private final int[] lengths;
        private final int[] datas;
        int size;

        FrameList(int capacity) {
            int room = Math.max(0, capacity);
            keys = new int[room];
            lengths = new int[room];
            datas = new int[room];
        }

        void copyFrom(FrameList other) {
            size = Math.min(other.size, keys.length);
            for (int index = 0; index < size; index++) {
                keys[index] = other.keys[index];
                lengths[index] = other.lengths[index];
                datas[index] = other.datas[index];
            }
        }

        boolean isFull() {
            return size >= keys.length;
        }

        private boolean has(int index) {
            return index >= 0 && index < size;
        }

        int keyAt(int index) {
            return has(index) ? keys[index] : NONE;
        }

        int lengthAt(int index) {
            return has(index) ? lengths[index] : NONE;
        }

        int dataAt(int index) {
            return has(index) ? datas[index] : 0;
        }

        int indexOf(int key) {
            for (int index = 0; index < size; index++) {
                if (keys[index] == key) {
                    return index;
                }
            }
            return -1;
        }

        /** The index at which a frame keeps the order of keys and, for equal keys, of time. */
        int placeFor(int key) {
            for (int index = 0; index < size; index++) {
                if (keys[index] > key) {
                    return index;
                }
            }
            return size;
        }

        void insertAt(int place, int key, int length, int data) {
            if (size >= keys.length || place < 0 || place > size) {
                return;
            }
            for (int index = size; index > place; index--) {
                keys[index] = keys[index - 1];
                lengths[index] = lengths[index - 1];
                datas[index] = datas[index - 1];
            }
            keys[place] = key;
            lengths[place] = length;
            datas[place] = data;
            size++;
        }

        /** Does nothing if there is no such index. */
        void removeAt(int place) {
            if (!has(place)) {
                return;
            }
            size--;
            for (int index = place; index < size; index++) {
                keys[index] = keys[index + 1];
                lengths[index] = lengths[index + 1];
                datas[index] = datas[index + 1];
            }
        }
    }

    /** The bits of one frame so far, as a node has sampled them. */
    private static final class FrameBits {
        static final int ACK_SLOT = 1;
        static final int ACK_DELIMITER = 2;
        static final int SIXTH_END_BIT = 8;
        static final int SEVENTH_END_BIT = 9;
        private static final int HEADER_BITS = 19;
        private static final int REMOTE_INDEX = 12;
        private static final int EXTENSION_INDEX = 13;
        private static final int CRC_BITS = 15;
        private static final int CRC_MASK = 0x7fff;
        private static final int CRC_POLYNOMIAL = 0x4599;
        private static final int LONGEST_RUN = 5;

        /** The number of basic bits so far. */
        int basicBits;
        /** The number of basic bits before the CRC; those of the data are added as soon as the length is known. */
        int bodyBits;
        /** The basic bits before the CRC, the latest as the lowest bit. */
        long body;
        /** The body up to the length, 0 before. */
        int header;
        int ownCrc;
        int sampledCrc;
        int latest;
        /** How many of the latest bits are equal, stuff bits included. */
        int equalBits;
        /** The number of bits of the tail so far. */
        int tail;

        void copyFrom(FrameBits other) {
            basicBits = other.basicBits;
            bodyBits = other.bodyBits;
            body = other.body;
            header = other.header;
            ownCrc = other.ownCrc;
            sampledCrc = other.sampledCrc;
            latest = other.latest;
            equalBits = other.equalBits;
            tail = other.tail;
        }

        /** The basic bits of a frame before the CRC, with the start bit as the highest bit of the long. */
        static long outgoingBits(int key, int length, int data) {
            long header = (long) key << 6 | length;
            int dataBits = dataBitsOf(key, length);
            long all = header << dataBits | data & 0xffffffffL;
            return all << (64 - HEADER_BITS - dataBits);
        }

        private static int dataBitsOf(int key, int length) {
            return (key & 1) == 1 ? 0 : 8 * length;
        }

        /** Begins a frame with its start bit 0, which leaves the body and the CRC 0. */
        void begin() {
            basicBits = 1;
            bodyBits = HEADER_BITS;
            body = 0;
            header = 0;
            ownCrc = 0;
            sampledCrc = 0;
            latest = 0;
            equalBits = 1;
            tail = 0;
        }

        boolean isStuffBitDue() {
            return equalBits == LONGEST_RUN;
        }

        boolean isInStuffedPart() {
            return basicBits < bodyBits + CRC_BITS || isStuffBitDue();
        }

        /** Whether the next basic bit is one of the identifier or the remote bit. */
        boolean isInArbitration() {
            return basicBits >= 1 && basicBits <= REMOTE_INDEX;
        }

        /** The next bit of a transmitter with these outgoing bits. */
        int nextOf(long outgoing) {
            if (!isInStuffedPart()) {
                return 1;
            }
            if (isStuffBitDue()) {
                return 1 - latest;
            }
            if (basicBits < bodyBits) {
                return (int) (outgoing >>> (63 - basicBits)) & 1;
            }
            return ownCrc >> (bodyBits + CRC_BITS - 1 - basicBits) & 1;
        }

        int nextOfReceiver() {
            return tail == ACK_SLOT && isCrcRight() ? 0 : 1;
        }

        /** Takes a stuff bit that is right, and so not equal to the bit before. */
        void takeStuffBit(int bit) {
            equalBits = 1;
            latest = bit;
        }

        void takeBasicBit(int bit) {
            equalBits = bit == latest ? equalBits + 1 : 1;
            latest = bit;
            if (basicBits >= bodyBits) {
                sampledCrc = sampledCrc << 1 | bit;
                basicBits++;
                return;
            }
            body = body << 1 | bit;
            int feedback = bit ^ (ownCrc >> 14 & 1);
            ownCrc = (ownCrc << 1 & CRC_MASK) ^ (feedback == 1 ? CRC_POLYNOMIAL : 0);
            basicBits++;
            if (basicBits == HEADER_BITS) {
                header = (int) body;
                bodyBits = HEADER_BITS + dataBitsOf(sampledKey(), sampledLength());
            }
        }

        /** Whether the latest basic bit is a wrong extension bit, or ends a length above 4. */
        boolean hasWrongHeader() {
            if (basicBits == EXTENSION_INDEX + 1) {
                return latest == 1;
            }
            return basicBits == HEADER_BITS && sampledLength() > MAX_LENGTH;
        }

        boolean isCrcRight() {
            return sampledCrc == ownCrc;
        }

        int sampledKey() {
            return header >> 6 & 0xfff;
        }

        int sampledLength() {
            return header & 0xf;
        }

        int sampledData() {
            int dataBits = bodyBits - HEADER_BITS;
            return (int) (body & ((1L << dataBits) - 1));
        }
    }

    /** The periodic messages, for the analysis. */
    private static final class Messages {
        private static final int CAPACITY = 8;
        /** The busy time grows in each round and ends the search above the longest period, 5000. */
        private static final int MAX_ROUNDS = 10000;

        private final int[] identifiers = new int[CAPACITY];
        private final int[] longest = new int[CAPACITY];
        private final int[] periods = new int[CAPACITY];
        private final int[] jitters = new int[CAPACITY];
        int size;

        int indexOf(int identifier) {
            for (int index = 0; index < size; index++) {
                if (identifiers[index] == identifier) {
                    return index;
                }
            }
            return -1;
        }

        /** Returns false if there is no room. */
        boolean put(int identifier, int length, int period, int jitter) {
            int old = indexOf(identifier);
            int place = old >= 0 ? old : size;
            if (place >= CAPACITY) {
                return false;
            }
            identifiers[place] = identifier;
            longest[place] = longestFrame(length);
            periods[place] = period;
            jitters[place] = jitter;
            size = Math.max(size, place + 1);
            return true;
        }

        void removeAt(int place) {
            if (place < 0 || place >= size) {
                return;
            }
            size--;
            for (int index = place; index < size; index++) {
                identifiers[index] = identifiers[index + 1];
                longest[index] = longest[index + 1];
                periods[index] = periods[index + 1];
                jitters[index] = jitters[index + 1];
            }
        }

        /** The worst-case response time; NONE if it is greater than the period. */
        int worstResponse(int message) {
            if (message < 0 || message >= size) {
                return NONE;
            }
            int blocking = blockingOf(message);
            int busy = blocking;
            for (int round = 0; round < MAX_ROUNDS; round++) {
                int response = jitters[message] + busy + longest[message];
                if (response > periods[message]) {
                    return NONE;
                }
                int next = blocking + interference(identifiers[message], busy);
                if (next == busy) {
                    return response;
                }
                busy = next;
            }
            return NONE;
        }

        private int blockingOf(int message) {
            int blocking = 0;
            for (int index = 0; index < size; index++) {
                if (identifiers[index] > identifiers[message]) {
                    blocking = Math.max(blocking, longest[index]);
                }
            }
            return blocking;
        }

        private int interference(int identifier, int busy) {
            int sum = 0;
            for (int index = 0; index < size; index++) {
                if (identifiers[index] < identifier && periods[index] > 0) {
                    sum += longest[index] * ((busy + jitters[index] + periods[index]) / periods[index]);
                }
            }
            return sum;
        }
    }

    /** The text of requests. */
    private static final class Text {
        private static final int CAPACITY = 120;

        final RequestReader reader = new RequestReader();
        private final int[] letters = new int[CAPACITY];
        int size;

        /** Returns false if there is no room. */
        boolean add(int letter) {
            if (size >= CAPACITY) {
                return false;
            }
            letters[size] = letter;
            size++;
            return true;
        }

        int letterAt(int index) {
            return index >= 0 && index < size ? letters[index] : 0;
        }

        /** The fault position, or NONE. */
        int findFault() {
            reader.restart();
            for (int index = 0; index < size; index++) {
                if (!reader.take(letters[index])) {
                    return index;
                }
            }
            return reader.isBetweenRequests() ? NONE : size;
        }
    }

    /** Reads requests letter by letter; at the end of a request its fields hold what it asks for. */
    private static final class RequestReader {
        private static final int AT_NODE = 0;
        private static final int AT_COLON = 1;
        private static final int AT_IDENTIFIER = 2;
        private static final int AT_HASH = 5;
        /** Before the first digit of the data; the states up to the eight digits follow it. */
        private static final int AT_DATA = 6;
        private static final int AFTER_DATA = 14;
        private static final int AT_REMOTE_LENGTH = 15;
        private static final int AT_SEMICOLON = 16;
        private static final int REFUSED = -1;

        private int state;
        int node;
        int identifier;
        boolean remote;
        int length;
        int data;

        void restart() {
            state = AT_NODE;
        }

        boolean isBetweenRequests() {
            return state == AT_NODE;
        }

        /** Returns false if the letter does not follow the form. */
        boolean take(int letter) {
            int next = stateAfter(letter);
            if (next == REFUSED) {
                return false;
            }
            keepValue(letter);
            state = next;
            return true;
        }

        private int stateAfter(int letter) {
            switch (state) {
                case AT_NODE:
                    return isWithin(letter, '0', '3') ? AT_COLON : REFUSED;
                case AT_COLON:
                    return letter == ':' ? AT_IDENTIFIER : REFUSED;
                case AT_IDENTIFIER:
                    return isWithin(letter, '0', '7') ? state + 1 : REFUSED;
                case AT_IDENTIFIER + 1:
                case AT_IDENTIFIER + 2:
                    return hexValue(letter) >= 0 ? state + 1 : REFUSED;
                case AT_HASH:
                    return letter == '#' ? AT_DATA : REFUSED;
                case AT_REMOTE_LENGTH:
                    return isWithin(letter, '0', '4') ? AT_SEMICOLON : REFUSED;
                case AT_SEMICOLON:
                    return letter == ';' ? AT_NODE : REFUSED;
                default:
                    return stateAfterData(letter);
            }
        }

        private int stateAfterData(int letter) {
            if (letter == ';') {
                return (state - AT_DATA) % 2 == 0 ? AT_NODE : REFUSED;
            }
            if (letter == 'R') {
                return state == AT_DATA ? AT_REMOTE_LENGTH : REFUSED;
            }
            return hexValue(letter) >= 0 && state < AFTER_DATA ? state + 1 : REFUSED;
        }

        private void keepValue(int letter) {
            if (state == AT_NODE) {
                node = letter - '0';
                identifier = 0;
                remote = false;
                length = 0;
                data = 0;
            } else if (isWithin(state, AT_IDENTIFIER, AT_HASH - 1)) {
                identifier = identifier << 4 | hexValue(letter);
            } else if (state == AT_REMOTE_LENGTH) {
                remote = true;
                length = letter - '0';
            } else if (isWithin(state, AT_DATA, AFTER_DATA - 1) && hexValue(letter) >= 0) {
                data = data << 4 | hexValue(letter);
                length = (state - AT_DATA + 1) / 2;
            }
        }

        private static int hexValue(int letter) {
            if (isWithin(letter, '0', '9')) {
                return letter - '0';
            }
            return isWithin(letter, 'a', 'f') ? letter - 'a' + 10 : -1;
        }
    }
}
