/**
 * The rules of a bit time, of errors and of accepting, reached by disturbing single samples.
 *
 * The frame with identifier 0 and length 0 has 40 stuffed bits (NodesTest says which). The one with
 * identifier 0x555 and length 4 has no stuff bits before its CRC if its data are 0x55555555: the
 * identifier at 1 to 11 (1 at odd places), the remote bit at 12, the extension bit at 13, the reserved
 * bit at 14, the length at 15 to 18.
 */
final class BitTimeTest {
    private static final Check CHECK = new Check();

    public static void main(String[] args) {
        startBit();
        stuffBitOfReceiver();
        stuffBitOfTransmitter();
        arbitrationBits();
        basicBitsOfTransmitter();
        extensionAndReservedBit();
        lengthAboveFour();
        crcDelimiter();
        acknowledgeSlot();
        acknowledgeDelimiter();
        endBits();
        seventhEndBit();
        wrongCrc();
        stuffBitAfterCrc();
        delimiter();
        intermission();
        suspend();
        activeAndPassiveFlag();
        busOff();
        busOffTwice();
        limitsOfNewObject();
        busOffOfReceiver();
        ackErrorOfPassiveNode();
        receiveCounterIsLimited();
        acceptingWhilePassive();
        roles();
        CHECK.end();
    }

    private static void due(String what, long got, long want) {
        CHECK.due(what, got, want);
    }

    private static ArbitratedBus zeros() {
        ArbitratedBus x = new ArbitratedBus();
        x.request(0, 0, false, 0, 0);
        return x;
    }

    private static ArbitratedBus fives() {
        ArbitratedBus x = new ArbitratedBus();
        x.request(0, 0x555, false, 4, 0x55555555);
        return x;
    }

    private static ArbitratedBus alone() {
        ArbitratedBus x = zeros();
        x.detach(1);
        x.detach(2);
        x.detach(3);
        return x;
    }

    private static void startBit() {
        ArbitratedBus x = zeros();
        x.disturb(1, 0);
        x.run(1);
        due("start: flag", x.phase(0), ArbitratedBus.FLAG);
        due("start: bit error", x.errors(0, ArbitratedBus.BIT), 1);
        due("start: as transmitter", x.transmitErrors(0), 8);
        due("start: the others begin", x.phase(1), ArbitratedBus.FRAME);
        ArbitratedBus y = zeros();
        y.disturb(2, 0);
        y.run(1);
        due("start: node 1 has not seen it", y.phase(1), ArbitratedBus.IDLE);
        y.run(1);
        due("start: its frame begins later", y.phase(1), ArbitratedBus.FRAME);
    }

    private static void stuffBitOfReceiver() {
        ArbitratedBus x = zeros();
        x.disturb(2, 5);
        x.run(5);
        due("stuff: not yet", x.phase(1), ArbitratedBus.FRAME);
        x.run(1);
        due("stuff: error", x.errors(1, ArbitratedBus.STUFF), 1);
        due("stuff: flag", x.phase(1), ArbitratedBus.FLAG);
        x.run(5);
        due("stuff: the others go on", x.phase(0), ArbitratedBus.FRAME);
        x.run(1);
        due("stuff: the transmitter at its stuff bit", x.errors(0, ArbitratedBus.BIT), 1);
        due("stuff: the receivers too", x.errors(3, ArbitratedBus.STUFF), 1);
        due("stuff: delimiter", x.phase(1), ArbitratedBus.DELIMITER);
        due("stuff: settle", x.settle(), 70);
        due("stuff: once", x.received(1), 1);
    }

    private static void stuffBitOfTransmitter() {
        ArbitratedBus x = zeros();
        x.disturb(1, 5);
        x.run(6);
        due("stuff: no lost arbitration", x.lostArbitrations(0), 0);
        due("stuff: bit error", x.errors(0, ArbitratedBus.BIT), 1);
        due("stuff: the receivers go on", x.phase(1), ArbitratedBus.FRAME);
    }

    private static void arbitrationBits() {
        for (int place = 1; place <= 11; place++) {
            ArbitratedBus x = fives();
            x.disturb(1, place);
            x.run(place + 1);
            int lost = place % 2;
            due("arbitration: lost at " + place, x.lostArbitrations(0), lost);
            due("arbitration: error at " + place, x.errors(0, ArbitratedBus.BIT), 1 - lost);
            due("arbitration: role at " + place, x.isTransmitter(0), 1 - lost);
            due("arbitration: phase at " + place, x.phase(0), lost == 1 ? ArbitratedBus.FRAME : ArbitratedBus.FLAG);
        }
        ArbitratedBus x = fives();
        x.disturb(1, 1);
        x.run(6);
        due("arbitration: five recessive bits", x.errors(1, ArbitratedBus.STUFF), 0);
        x.run(1);
        due("arbitration: six", x.errors(1, ArbitratedBus.STUFF), 1);
        due("arbitration: the loser's sample is 0", x.errors(0, ArbitratedBus.STUFF), 0);
        ArbitratedBus r = new ArbitratedBus();
        r.request(0, 0x555, true, 4, 0);
        r.disturb(1, 12);
        r.run(13);
        due("arbitration: the remote bit", r.lostArbitrations(0), 1);
    }

    private static void basicBitsOfTransmitter() {
        ArbitratedBus x = fives();
        x.disturb(1, 12);
        x.run(13);
        due("basic: remote bit of a data frame", x.errors(0, ArbitratedBus.BIT), 1);
        ArbitratedBus y = fives();
        y.disturb(1, 16);
        y.run(17);
        due("basic: a bit 1 of the length", y.errors(0, ArbitratedBus.BIT), 1);
        due("basic: is no arbitration", y.lostArbitrations(0), 0);
        ArbitratedBus z = new ArbitratedBus();
        z.request(0, 0x555, false, 1, 0x55);
        z.request(1, 0x555, false, 1, 0x5d);
        z.settle();
        due("basic: the same identifier, other data", z.errors(1, ArbitratedBus.BIT) > 0 ? 1 : 0, 1);
        due("basic: the lower has none by itself", z.sent(0), 1);
        due("basic: no arbitration is lost", z.lostArbitrations(0) + z.lostArbitrations(1), 0);
    }

    private static void extensionAndReservedBit() {
        ArbitratedBus x = fives();
        x.disturb(2, 13);
        x.run(13);
        due("extension: not yet", x.errors(1, ArbitratedBus.FORM), 0);
        x.run(1);
        due("extension: form error", x.errors(1, ArbitratedBus.FORM), 1);
        due("extension: flag", x.phase(1), ArbitratedBus.FLAG);
        ArbitratedBus y = fives();
        y.disturb(2, 14);
        int bits = y.frameBits(0x555, false, 4, 0x55555555);
        y.run(bits - 8);
        due("reserved: no error before the acknowledge delimiter", y.lastError(1), ArbitratedBus.NONE);
        y.run(1);
        due("reserved: the CRC tells", y.lastError(1), ArbitratedBus.CRC);
        ArbitratedBus z = fives();
        z.disturb(1, 13);
        z.run(14);
        due("extension: of the transmitter", z.lastError(0), ArbitratedBus.BIT);
    }

    private static void lengthAboveFour() {
        int[] places = {15, 17, 18};
        for (int place : places) {
            ArbitratedBus x = fives();
            x.disturb(2, place);
            x.run(18);
            due("length: not before its last bit", x.lastError(1), ArbitratedBus.NONE);
            x.run(1);
            due("length: form error by " + place, x.lastError(1), ArbitratedBus.FORM);
            ArbitratedBus r = new ArbitratedBus();
            r.request(0, 0x555, true, 4, 0);
            r.disturb(2, place);
            r.run(19);
            due("length: of a remote frame, by " + place, r.lastError(1), ArbitratedBus.FORM);
        }
        ArbitratedBus y = new ArbitratedBus();
        y.request(0, 0x555, true, 3, 0);
        y.disturb(2, 18);
        y.run(19);
        due("length: a lower one is none", y.lastError(1), ArbitratedBus.NONE);
    }

    private static void crcDelimiter() {
        ArbitratedBus x = zeros();
        x.disturb(2, 40);
        x.run(41);
        due("CRC delimiter: receiver", x.lastError(1), ArbitratedBus.FORM);
        ArbitratedBus y = zeros();
        y.disturb(1, 40);
        y.run(41);
        due("CRC delimiter: transmitter", y.lastError(0), ArbitratedBus.BIT);
    }

    private static void acknowledgeSlot() {
        ArbitratedBus x = zeros();
        x.disturb(14, 41);
        due("slot: the receivers do not look", x.settle(), 53);
        due("slot: no error", x.lastError(1), ArbitratedBus.NONE);
        ArbitratedBus y = zeros();
        y.disturb(1, 41);
        y.run(42);
        due("slot: the transmitter does", y.lastError(0), ArbitratedBus.ACK);
        due("slot: counts", y.transmitErrors(0), 8);
        ArbitratedBus z = alone();
        z.disturb(1, 41);
        z.run(50);
        due("slot: a sample 0 is enough", z.sent(0), 1);
        ArbitratedBus w = zeros();
        w.setFilter(1, 2047, 9);
        w.setFilter(2, 2047, 9);
        w.setFilter(3, 2047, 9);
        w.run(50);
        due("slot: filters do not matter", w.sent(0), 1);
    }

    private static void acknowledgeDelimiter() {
        ArbitratedBus x = zeros();
        x.disturb(2, 42);
        x.run(43);
        due("acknowledge delimiter: receiver", x.lastError(1), ArbitratedBus.FORM);
        ArbitratedBus y = zeros();
        y.disturb(1, 42);
        y.run(43);
        due("acknowledge delimiter: transmitter", y.lastError(0), ArbitratedBus.BIT);
        ArbitratedBus z = zeros();
        z.disturb(2, 38);
        z.disturb(2, 42);
        z.run(43);
        due("acknowledge delimiter: form before CRC", z.lastError(1), ArbitratedBus.FORM);
        due("acknowledge delimiter: no CRC error", z.errors(1, ArbitratedBus.CRC), 0);
    }

    private static void endBits() {
        for (int place = 43; place <= 48; place++) {
            ArbitratedBus x = zeros();
            x.disturb(2, place);
            x.run(place + 1);
            due("end bit " + place + ": receiver", x.lastError(1), ArbitratedBus.FORM);
            due("end bit " + place + ": not accepted", x.received(1), 0);
            ArbitratedBus y = zeros();
            y.disturb(1, place);
            y.run(place + 1);
            due("end bit " + place + ": transmitter", y.lastError(0), ArbitratedBus.BIT);
            due("end bit " + place + ": not sent", y.sent(0), 0);
        }
        ArbitratedBus x = zeros();
        x.run(48);
        due("end bits: not yet accepted", x.received(1), 0);
        x.run(1);
        due("end bits: accepted with the sixth", x.received(1), 1);
    }

    private static void seventhEndBit() {
        ArbitratedBus x = zeros();
        x.disturb(1, 49);
        x.run(50);
        due("seventh: bit error", x.lastError(0), ArbitratedBus.BIT);
        due("seventh: not sent", x.sent(0), 0);
        due("seventh: the receivers are in the intermission", x.phase(1), ArbitratedBus.INTERMISSION);
        x.run(1);
        due("seventh: they answer with an overload flag", x.phase(1), ArbitratedBus.OVERLOAD);
        due("seventh: settle", x.settle(), 70);
        due("seventh: received twice", x.received(1), 2);
        due("seventh: sent once", x.sent(0), 1);
        due("seventh: counter", x.transmitErrors(0), 7);
        due("seventh: no overload of the transmitter", x.overloads(0), 0);
    }

    private static void wrongCrc() {
        ArbitratedBus x = zeros();
        x.disturb(2, 38);
        x.run(43);
        due("CRC: error of node 1", x.lastError(1), ArbitratedBus.CRC);
        due("CRC: the transmitter is acknowledged by the others", x.lastError(0), ArbitratedBus.NONE);
        x.run(1);
        due("CRC: its flag ends the frame", x.lastError(0), ArbitratedBus.BIT);
        due("CRC: for the receivers too", x.lastError(2), ArbitratedBus.FORM);
        due("CRC: settle", x.settle(), 70);
        ArbitratedBus y = zeros();
        y.detach(2);
        y.detach(3);
        y.disturb(2, 38);
        y.run(42);
        due("CRC: nobody acknowledges", y.lastError(0), ArbitratedBus.ACK);
    }

    /** Finds a frame whose CRC ends in five equal bits, and looks at the stuff bit after it. */
    private static void stuffBitAfterCrc() {
        ArbitratedBus x = new ArbitratedBus();
        int found = -1;
        for (int identifier = 0; identifier < 2048 && found < 0; identifier++) {
            if ((x.crc(identifier, false, 0, 0) & 0x7f) == 0x20) {
                found = identifier;
            }
        }
        CHECK.holds("stuff after CRC: there is such a frame", found >= 0);
        int bits = x.frameBits(found, false, 0, 0);
        due("stuff after CRC: it is the last of the stuffed part", x.frameBit(found, false, 0, 0, bits - 11), 1);
        due("stuff after CRC: behind the last 0", x.frameBit(found, false, 0, 0, bits - 12), 0);
        x.request(0, found, false, 0, 0);
        x.disturb(2, bits - 11);
        x.run(bits - 11);
        due("stuff after CRC: no error before", x.lastError(1), ArbitratedBus.NONE);
        x.run(1);
        due("stuff after CRC: stuff error", x.lastError(1), ArbitratedBus.STUFF);
        ArbitratedBus y = new ArbitratedBus();
        y.request(0, found, false, 0, 0);
        due("stuff after CRC: settle", y.settle(), bits + 3);
        due("stuff after CRC: received", y.receivedFrame(1, 0), 2 * found);
    }

    /** Node 1 has a stuff error at 5; the flags of all end with 17, and the recessive bits are 18 to 25. */
    private static ArbitratedBus untilDelimiter() {
        ArbitratedBus x = zeros();
        x.disturb(2, 5);
        x.run(18);
        return x;
    }

    private static void delimiter() {
        ArbitratedBus x = untilDelimiter();
        due("delimiter: node 1 was first", x.receiveErrors(1), 9);
        due("delimiter: node 2", x.receiveErrors(2), 1);
        due("delimiter: phase", x.phase(2), ArbitratedBus.DELIMITER);
        x.disturb(7, 0);
        x.run(1);
        due("delimiter: not the first bit time", x.receiveErrors(1), 9);
        due("delimiter: the first after the flag", x.receiveErrors(2), 9);
        due("delimiter: no matter for a transmitter", x.receiveErrors(0) + x.transmitErrors(0), 8);
        x.run(7);
        due("delimiter: seven recessive of node 1", x.phase(1), ArbitratedBus.DELIMITER);
        due("delimiter: eight recessive of node 3", x.phase(3), ArbitratedBus.INTERMISSION);
        x.run(1);
        due("delimiter: eight recessive of node 1", x.phase(1), ArbitratedBus.INTERMISSION);
        for (int ones = 1; ones <= 7; ones++) {
            ArbitratedBus y = untilDelimiter();
            y.disturb(5, ones);
            y.run(ones + 1);
            boolean overload = ones == 7;
            due("delimiter: receiver after " + ones, y.phase(2), overload ? ArbitratedBus.OVERLOAD : ArbitratedBus.FLAG);
            due("delimiter: form error after " + ones, y.errors(2, ArbitratedBus.FORM), overload ? 0 : 1);
            due("delimiter: of the transmitter", y.errors(0, ArbitratedBus.FORM), overload ? 0 : 1);
            due("delimiter: its counter", y.transmitErrors(0), overload ? 8 : 16);
            due("delimiter: overloads", y.overloads(0), overload ? 1 : 0);
        }
        ArbitratedBus z = zeros();
        z.disturb(2, 49);
        z.run(57);
        due("delimiter: after an overload flag", z.phase(1), ArbitratedBus.DELIMITER);
        due("delimiter: a 0 costs nothing", z.receiveErrors(1), 0);
    }

    private static void intermission() {
        for (int bit = 50; bit <= 51; bit++) {
            ArbitratedBus x = zeros();
            x.disturb(2, bit);
            x.run(bit + 1);
            due("intermission: overload at " + bit, x.phase(1), ArbitratedBus.OVERLOAD);
            due("intermission: others not", x.phase(2), ArbitratedBus.INTERMISSION);
            due("intermission: counted", x.overloads(1), 1);
        }
        ArbitratedBus x = zeros();
        x.disturb(3, 52);
        x.run(53);
        due("intermission: a frame begins with the third", x.phase(1), ArbitratedBus.FRAME);
        due("intermission: of a former transmitter too", x.phase(0), ArbitratedBus.FRAME);
        due("intermission: as receiver", x.isTransmitter(0), 0);
        due("intermission: others are idle", x.phase(2), ArbitratedBus.IDLE);
        ArbitratedBus y = zeros();
        y.request(0, 0x555, false, 0, 0);
        y.request(1, 1, false, 0, 0);
        y.disturb(2, 52);
        y.run(53);
        due("intermission: its own frame waits", y.phase(1), ArbitratedBus.FRAME);
        due("intermission: as receiver", y.isTransmitter(1), 0);
        due("intermission: node 0 is idle", y.phase(0), ArbitratedBus.IDLE);
    }

    private static void suspend() {
        ArbitratedBus x = alone();
        x.setLimits(8, 200, 1);
        x.run(42);
        due("suspend: passive by the ACK error", x.isPassive(0), 1);
        due("suspend: flag", x.phase(0), ArbitratedBus.FLAG);
        x.run(6);
        due("suspend: the flag is passive", x.level(1) + x.level(2) + x.level(6), 3);
        due("suspend: delimiter", x.phase(0), ArbitratedBus.DELIMITER);
        x.run(8);
        due("suspend: intermission", x.phase(0), ArbitratedBus.INTERMISSION);
        x.run(3);
        due("suspend: phase", x.phase(0), ArbitratedBus.SUSPEND);
        due("suspend: no role", x.isTransmitter(0), 0);
        x.save(0);
        x.run(7);
        due("suspend: seven", x.phase(0), ArbitratedBus.SUSPEND);
        x.run(1);
        due("suspend: eight", x.phase(0), ArbitratedBus.IDLE);
        due("suspend: nothing was sent", x.level(1), 1);
        x.run(1);
        due("suspend: then it begins", x.isTransmitter(0), 1);
        x.restore(0);
        x.disturb(1, 7);
        x.run(8);
        due("suspend: a 0 at the eighth", x.phase(0), ArbitratedBus.FRAME);
        due("suspend: as receiver", x.isTransmitter(0), 0);
        ArbitratedBus y = zeros();
        y.setLimits(9, 200, 1);
        y.disturb(2, 40);
        y.settle();
        due("suspend: a passive receiver does not suspend", y.phase(1), ArbitratedBus.IDLE);
    }

    private static void activeAndPassiveFlag() {
        ArbitratedBus x = alone();
        x.disturb(1, 0);
        x.run(7);
        due("flag: active", x.level(1) + x.level(6), 0);
        ArbitratedBus y = alone();
        y.setLimits(8, 200, 1);
        y.disturb(1, 0);
        y.run(7);
        due("flag: passive with the error that reaches the limit", y.level(1) + y.level(6), 2);
        ArbitratedBus z = alone();
        z.disturb(1, 0);
        z.run(3);
        z.setLimits(8, 200, 1);
        z.run(4);
        due("flag: stays active", z.level(1), 0);
    }

    private static void busOff() {
        ArbitratedBus x = alone();
        x.setLimits(8, 16, 2);
        x.disturb(1, 0);
        x.disturb(1, 26);
        x.run(26);
        due("bus off: idle again after the suspension", x.phase(0), ArbitratedBus.IDLE);
        x.run(1);
        due("bus off: phase", x.phase(0), ArbitratedBus.BUS_OFF);
        due("bus off: counter", x.transmitErrors(0), 16);
        due("bus off: no role", x.isTransmitter(0), 0);
        due("bus off: the frame stays", x.waiting(0), 1);
        due("bus off: no winner", x.winner(), ArbitratedBus.NONE);
        x.save(0);
        x.run(21);
        due("bus off: 21 samples", x.phase(0), ArbitratedBus.BUS_OFF);
        x.run(1);
        due("bus off: two sequences", x.phase(0), ArbitratedBus.IDLE);
        due("bus off: counters 0", x.transmitErrors(0), 0);
        x.restore(0);
        x.disturb(1, 15);
        x.run(26);
        due("bus off: a 0 breaks only the sequence", x.phase(0), ArbitratedBus.BUS_OFF);
        x.run(1);
        due("bus off: eleven after it", x.phase(0), ArbitratedBus.IDLE);
        x.restore(0);
        x.run(15);
        x.setLimits(8, 16, 1);
        due("bus off: no phase changes by limits", x.phase(0), ArbitratedBus.BUS_OFF);
        x.run(6);
        due("bus off: only at the end of a sequence", x.phase(0), ArbitratedBus.BUS_OFF);
        x.run(1);
        due("bus off: at least as many", x.phase(0), ArbitratedBus.IDLE);
        x.restore(0);
        x.detach(0);
        x.attach(0);
        x.run(11);
        due("bus off: a way out by joining", x.phase(0), ArbitratedBus.IDLE);
        due("bus off: counters stay then", x.transmitErrors(0), 16);
    }

    /** Node 0, which is alone, has an error in its start bit; it is idle 17 bit times later, or 25 if suspended. */
    private static void failAtStart(ArbitratedBus x) {
        if (x.phase(0) != ArbitratedBus.IDLE) {
            x.run(x.isPassive(0) == 1 ? 25 : 17);
        }
        x.disturb(1, 0);
        x.run(1);
    }

    private static void busOffTwice() {
        ArbitratedBus x = zeros();
        x.setLimits(8, 16, 3);
        x.cancel(0, 0);
        x.disturb(1, 0);
        x.run(60);
        due("bus off twice: receive errors before", x.receiveErrors(0), 9);
        x.detach(1);
        x.detach(2);
        x.detach(3);
        x.request(0, 0, false, 0, 0);
        failAtStart(x);
        failAtStart(x);
        due("bus off twice: first", x.phase(0), ArbitratedBus.BUS_OFF);
        due("bus off twice: receive errors stay", x.receiveErrors(0), 9);
        x.run(33);
        due("bus off twice: recovered", x.phase(0), ArbitratedBus.IDLE);
        due("bus off twice: no receive errors", x.receiveErrors(0), 0);
        failAtStart(x);
        failAtStart(x);
        due("bus off twice: second", x.phase(0), ArbitratedBus.BUS_OFF);
        x.run(32);
        due("bus off twice: as many sequences again", x.phase(0), ArbitratedBus.BUS_OFF);
        x.run(1);
        due("bus off twice: recovered", x.phase(0), ArbitratedBus.IDLE);
    }

    private static void limitsOfNewObject() {
        ArbitratedBus x = alone();
        for (int k = 1; k <= 31; k++) {
            failAtStart(x);
            due("limits: passive from 128 on", x.isPassive(0), k >= 16 ? 1 : 0);
            due("limits: counter", x.transmitErrors(0), 8 * k);
            due("limits: below 256", x.phase(0), ArbitratedBus.FLAG);
        }
        failAtStart(x);
        due("limits: off at 256", x.phase(0), ArbitratedBus.BUS_OFF);
        x.run(43);
        due("limits: not yet recovered", x.phase(0), ArbitratedBus.BUS_OFF);
        x.run(1);
        due("limits: recovered after four sequences", x.phase(0), ArbitratedBus.IDLE);
    }

    private static void busOffOfReceiver() {
        ArbitratedBus x = new ArbitratedBus();
        x.request(1, 0, false, 0, 0);
        for (int k = 0; k < 2; k++) {
            x.disturb(2, 0);
            x.run(1);
            runUntilIdle(x, 1);
        }
        x.cancel(1, 0);
        x.settle();
        due("bus off of a receiver: errors before", x.transmitErrors(1), 16);
        x.setLimits(8, 16, 1);
        due("bus off of a receiver: not by limits", x.phase(1), ArbitratedBus.IDLE);
        x.disturb(2, 0);
        x.run(6);
        due("bus off of a receiver: a frame has begun", x.phase(1), ArbitratedBus.FRAME);
        x.run(1);
        due("bus off of a receiver: any error", x.phase(1), ArbitratedBus.BUS_OFF);
        due("bus off of a receiver: it was a stuff error", x.lastError(1), ArbitratedBus.STUFF);
    }

    private static void runUntilIdle(ArbitratedBus x, int node) {
        for (int k = 0; k < 100 && x.phase(node) != ArbitratedBus.IDLE; k++) {
            x.run(1);
        }
    }

    private static void ackErrorOfPassiveNode() {
        ArbitratedBus x = alone();
        x.setLimits(16, 24, 1);
        for (int k = 0; k < 6; k++) {
            x.settle();
        }
        due("ACK: counts up to the passive limit", x.transmitErrors(0), 16);
        CHECK.holds("ACK: errors are counted all the same", x.errors(0, ArbitratedBus.ACK) > 20);
        due("ACK: never bus off", x.phase(0) == ArbitratedBus.BUS_OFF ? 1 : 0, 0);
    }

    /**
     * A disturbed sample makes node 1 begin a frame, with a stuff error at the seventh sample. The flags of
     * the others follow its active flag; after its passive flag, another disturbance stands for them.
     */
    private static void addNineErrors(ArbitratedBus x) {
        x.disturb(2, 0);
        if (x.isPassive(1) == 1) {
            x.disturb(2, 13);
        }
        x.run(60);
    }

    private static void receiveCounterIsLimited() {
        ArbitratedBus x = new ArbitratedBus();
        for (int k = 1; k <= 30; k++) {
            addNineErrors(x);
            due("limit: round " + k, x.receiveErrors(1), Math.min(255, 9 * k));
        }
        x.disturb(2, 0);
        x.run(7);
        due("limit: stays", x.receiveErrors(1), 255);
        due("limit: the error counts", x.errors(1, ArbitratedBus.STUFF), 31);
    }

    private static void acceptingWhilePassive() {
        ArbitratedBus x = new ArbitratedBus();
        for (int k = 1; k <= 16; k++) {
            addNineErrors(x);
        }
        due("accepting: before", x.receiveErrors(1), 144);
        x.request(0, 0, false, 0, 0);
        x.settle();
        due("accepting: the limit minus 8", x.receiveErrors(1), 120);
        due("accepting: received", x.received(1), 1);
        x.setLimits(120, 200, 1);
        x.request(0, 0, false, 0, 0);
        x.settle();
        due("accepting: at the limit", x.receiveErrors(1), 112);
        x.setFilter(1, 2047, 5);
        x.request(0, 0, false, 0, 0);
        x.settle();
        due("accepting: also if it is ignored", x.receiveErrors(1), 111);
        due("accepting: ignored", x.received(1), 2);
    }

    private static void roles() {
        ArbitratedBus x = zeros();
        x.disturb(1, 49);
        x.run(50);
        due("roles: flag", x.isTransmitter(0), 1);
        x.run(6);
        due("roles: delimiter", x.isTransmitter(0), 1);
        x.run(9);
        due("roles: intermission", x.phase(0), ArbitratedBus.INTERMISSION);
        due("roles: still transmitter", x.isTransmitter(0), 1);
        x.disturb(1, 0);
        x.run(1);
        due("roles: overload", x.phase(0), ArbitratedBus.OVERLOAD);
        due("roles: still transmitter", x.isTransmitter(0), 1);
        x.settle();
        due("roles: none when idle", x.isTransmitter(0), 0);
    }
}
