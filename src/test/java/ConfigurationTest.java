/** Promises 1 to 7: a new object, limits, filters, answers, detaching and attaching. */
final class ConfigurationTest {
    private static final Check CHECK = new Check();

    public static void main(String[] args) {
        newObject();
        limits();
        limitsChangeNoPhase();
        filter();
        filterDecides();
        answers();
        answersOfOneNode();
        detaching();
        detachingKeeps();
        attaching();
        CHECK.end();
    }

    private static void due(String what, long got, long want) {
        CHECK.due(what, got, want);
    }

    private static void newObject() {
        ArbitratedBus x = new ArbitratedBus();
        for (int n = 0; n < 4; n++) {
            due("1 phase", x.phase(n), ArbitratedBus.IDLE);
            due("1 isTransmitter", x.isTransmitter(n), 0);
            due("1 transmitErrors", x.transmitErrors(n), 0);
            due("1 receiveErrors", x.receiveErrors(n), 0);
            due("1 isPassive", x.isPassive(n), 0);
            for (int kind = 1; kind <= 5; kind++) {
                due("1 errors", x.errors(n, kind), 0);
            }
            due("1 lastError", x.lastError(n), ArbitratedBus.NONE);
            due("1 counters", x.lostArbitrations(n) + x.overloads(n) + x.sent(n) + x.overruns(n), 0);
            due("1 waiting", x.waiting(n), 0);
            due("1 received", x.received(n), 0);
            due("1 no answer", x.removeAnswer(n, 0), ArbitratedBus.NONE);
            due("1 no filter", x.setFilter(n, 0, 0), 0);
        }
        due("1 time", x.time(), 0);
        due("1 level", x.level(1), ArbitratedBus.NONE);
        due("1 winner", x.winner(), ArbitratedBus.NONE);
        due("1 no message", x.removeMessage(0), ArbitratedBus.NONE);
        due("1 misses", x.misses(), 0);
        due("1 text", x.clearText(), 0);
        due("1 slot 0", x.restore(0), ArbitratedBus.NONE);
        due("1 slot 1", x.restore(1), ArbitratedBus.NONE);
        due("1 settle", x.settle(), 0);
        due("1 passive limit", x.setLimits(8, 16, 1), 128);
        due("1 no disturbance", x.disturb(1, 0), 1);
    }

    private static void limits() {
        ArbitratedBus x = new ArbitratedBus();
        due("2 lowest", x.setLimits(8, 16, 1), 128);
        due("2 highest", x.setLimits(128, 256, 16), 8);
        due("2 passive 7", x.setLimits(7, 16, 1), ArbitratedBus.BAD_VALUE);
        due("2 passive 129", x.setLimits(129, 256, 1), ArbitratedBus.BAD_VALUE);
        due("2 off 15", x.setLimits(8, 15, 1), ArbitratedBus.BAD_VALUE);
        due("2 off 257", x.setLimits(8, 257, 1), ArbitratedBus.BAD_VALUE);
        due("2 off equal", x.setLimits(64, 64, 1), ArbitratedBus.BAD_VALUE);
        due("2 off below", x.setLimits(64, 63, 1), ArbitratedBus.BAD_VALUE);
        due("2 recovery 0", x.setLimits(8, 16, 0), ArbitratedBus.BAD_VALUE);
        due("2 recovery 17", x.setLimits(8, 16, 17), ArbitratedBus.BAD_VALUE);
        due("2 nothing changed", x.setLimits(20, 21, 3), 128);
        due("2 off one above", x.setLimits(20, 21, 3), 20);
    }

    private static void limitsChangeNoPhase() {
        ArbitratedBus x = new ArbitratedBus();
        x.setLimits(64, 128, 1);
        x.request(0, 0, false, 0, 0);
        for (int k = 0; k < 2; k++) {
            x.disturb(1, 0);
            x.run(40);
        }
        due("2 two errors", x.transmitErrors(0), 16);
        int before = x.phase(0);
        due("2 lower than the counter", x.setLimits(8, 16, 1), 64);
        due("2 phase stays", x.phase(0), before);
        due("2 passive at once", x.isPassive(0), 1);
    }

    private static void filter() {
        ArbitratedBus x = new ArbitratedBus();
        due("3 first", x.setFilter(0, 2047, 5), 0);
        due("3 second", x.setFilter(0, 0, 2047), 2047);
        due("3 other node", x.setFilter(3, 1, 1), 0);
        due("3 node -1", x.setFilter(-1, 9999, 0), ArbitratedBus.NO_SUCH_NODE);
        due("3 node 4", x.setFilter(4, 0, 0), ArbitratedBus.NO_SUCH_NODE);
        due("3 mask -1", x.setFilter(0, -1, 0), ArbitratedBus.BAD_VALUE);
        due("3 mask 2048", x.setFilter(0, 2048, 0), ArbitratedBus.BAD_VALUE);
        due("3 code -1", x.setFilter(0, 0, -1), ArbitratedBus.BAD_VALUE);
        due("3 code 2048", x.setFilter(0, 7, 2048), ArbitratedBus.BAD_VALUE);
        due("3 nothing changed", x.setFilter(0, 0, 0), 0);
    }

    private static void filterDecides() {
        ArbitratedBus x = new ArbitratedBus();
        x.setFilter(1, 0x0f0, 0x35f);
        x.setFilter(2, 2047, 0x150);
        x.request(0, 0x150, false, 0, 0);
        x.request(0, 0x160, false, 0, 0);
        x.settle();
        due("3 passes by the mask", x.received(1), 1);
        due("3 the right one", x.receivedFrame(1, 0), 2 * 0x150);
        due("3 passes by all bits", x.received(2), 1);
        due("3 no filter", x.received(3), 2);
        due("3 ignored is no overrun", x.overruns(1), 0);
    }

    private static void answers() {
        ArbitratedBus x = new ArbitratedBus();
        due("4 first", x.setAnswer(1, 0, 0, 0), 1);
        due("4 second", x.setAnswer(1, 2047, 4, -1), 2);
        due("4 third", x.setAnswer(1, 7, 1, 255), 3);
        due("4 in place", x.setAnswer(1, 7, 3, 0xffffff), 3);
        due("4 fourth", x.setAnswer(1, 8, 2, 0xffff), 4);
        due("4 full", x.setAnswer(1, 9, 0, 0), ArbitratedBus.FULL);
        due("4 in place although full", x.setAnswer(1, 7, 2, 513), 4);
        due("4 the oldest in place although full", x.setAnswer(1, 0, 1, 1), 4);
        due("4 each of them in place", x.setAnswer(1, 2047, 4, -2), 4);
        due("4 each of them in place", x.setAnswer(1, 8, 2, 1), 4);
        due("4 no node before bad value", x.setAnswer(4, -1, 0, 0), ArbitratedBus.NO_SUCH_NODE);
        due("4 node -1", x.setAnswer(-1, 1, 0, 0), ArbitratedBus.NO_SUCH_NODE);
        due("4 bad value before full", x.setAnswer(1, 2048, 0, 0), ArbitratedBus.BAD_VALUE);
        due("4 identifier -1", x.setAnswer(0, -1, 0, 0), ArbitratedBus.BAD_VALUE);
        due("4 length -1", x.setAnswer(0, 1, -1, 0), ArbitratedBus.BAD_VALUE);
        due("4 length 5", x.setAnswer(0, 1, 5, 0), ArbitratedBus.BAD_VALUE);
        due("4 data too long", x.setAnswer(0, 1, 1, 256), ArbitratedBus.BAD_VALUE);
        due("4 data with length 0", x.setAnswer(0, 1, 0, 1), ArbitratedBus.BAD_VALUE);
        due("4 negative data", x.setAnswer(0, 1, 3, -1), ArbitratedBus.BAD_VALUE);
        due("5 nothing was set", x.removeAnswer(0, 1), ArbitratedBus.NONE);
        due("5 remove", x.removeAnswer(1, 2047), 3);
        due("5 remove again", x.removeAnswer(1, 2047), ArbitratedBus.NONE);
        due("5 no node", x.removeAnswer(4, 7), ArbitratedBus.NO_SUCH_NODE);
        due("5 node -1", x.removeAnswer(-1, 7), ArbitratedBus.NO_SUCH_NODE);
        due("5 any identifier", x.removeAnswer(1, Integer.MAX_VALUE), ArbitratedBus.NONE);
        due("5 any identifier", x.removeAnswer(1, 7 + (1 << 31)), ArbitratedBus.NONE);
        x.request(0, 7, true, 0, 0);
        x.settle();
        due("4 the latest answer", x.receivedData(0, 0), 513);
        due("4 its length", x.receivedLength(0, 0), 2);
        due("4 its identifier", x.receivedFrame(0, 0), 14);
    }

    private static void answersOfOneNode() {
        ArbitratedBus x = new ArbitratedBus();
        x.setAnswer(1, 5, 1, 10);
        x.removeAnswer(1, 5);
        x.request(0, 5, true, 3, 0);
        x.settle();
        due("5 removed answers do not answer", x.received(0), 0);
        due("5 the frame is received", x.receivedFrame(1, 0), 11);
        due("5 with its length", x.receivedLength(1, 0), 3);
        due("5 and no data", x.receivedData(1, 0), 0);
        x.setAnswer(1, 5, 1, 10);
        x.request(0, 5, false, 1, 77);
        x.settle();
        due("4 a data frame is not answered", x.receivedData(1, 1), 77);
        for (int k = 0; k < 4; k++) {
            x.request(1, 100 + k, false, 0, 0);
        }
        x.request(0, 5, true, 1, 0);
        int received = x.received(1);
        x.run(60);
        due("4 no room for the answer", x.waiting(1), 4);
        due("4 and it is not received", x.received(1), received);
        due("4 nor an overrun", x.overruns(1), 0);
    }

    private static void detaching() {
        ArbitratedBus x = new ArbitratedBus();
        due("6 idle", x.detach(0), ArbitratedBus.IDLE);
        due("6 phase", x.phase(0), ArbitratedBus.DETACHED);
        due("6 again", x.detach(0), ArbitratedBus.NOT_POSSIBLE);
        due("6 node -1", x.detach(-1), ArbitratedBus.NO_SUCH_NODE);
        due("6 node 4", x.detach(4), ArbitratedBus.NO_SUCH_NODE);
        x.request(1, 0, false, 0, 0);
        x.run(3);
        due("6 a transmitter", x.detach(1), ArbitratedBus.FRAME);
        due("6 no role", x.isTransmitter(1), 0);
        due("6 its frame stays", x.waiting(1), 1);
        due("6 and can be cancelled", x.cancel(1, 0), 1);
        x.run(4);
        due("6 a detached node drives nothing", x.level(1), 1);
        due("6 the receivers had begun", x.detach(2), ArbitratedBus.FRAME);
    }

    private static void detachingKeeps() {
        ArbitratedBus x = new ArbitratedBus();
        x.setFilter(1, 3, 3);
        x.setAnswer(1, 3, 0, 0);
        x.request(0, 3, false, 1, 9);
        x.request(0, 7, false, 1, 9);
        x.settle();
        x.request(0, 0, false, 0, 0);
        x.disturb(1, 0);
        x.run(2);
        int errors = x.transmitErrors(0);
        due("6 an error before", errors, 8);
        x.detach(0);
        x.detach(1);
        due("6 counters stay", x.transmitErrors(0), 8);
        due("6 kinds stay", x.errors(0, ArbitratedBus.BIT), 1);
        due("6 waiting frames stay", x.waiting(0), 1);
        due("6 received frames stay", x.received(1), 2);
        due("6 the filter stays", x.setFilter(1, 0, 0), 3);
        due("6 answers stay", x.removeAnswer(1, 3), 0);
    }

    private static void attaching() {
        ArbitratedBus x = new ArbitratedBus();
        due("7 not detached", x.attach(0), ArbitratedBus.NOT_POSSIBLE);
        due("7 node -1", x.attach(-1), ArbitratedBus.NO_SUCH_NODE);
        due("7 node 4", x.attach(4), ArbitratedBus.NO_SUCH_NODE);
        for (int n = 0; n < 4; n++) {
            x.detach(n);
        }
        due("7 first", x.attach(2), 1);
        due("7 phase", x.phase(2), ArbitratedBus.JOINING);
        due("7 joining already", x.attach(2), ArbitratedBus.NOT_POSSIBLE);
        x.run(10);
        due("7 ten samples", x.phase(2), ArbitratedBus.JOINING);
        due("7 detach while joining", x.detach(2), ArbitratedBus.JOINING);
        due("7 attach anew", x.attach(2), 1);
        x.run(10);
        due("7 no samples counted", x.phase(2), ArbitratedBus.JOINING);
        x.run(1);
        due("7 eleven samples", x.phase(2), ArbitratedBus.IDLE);
        due("7 second", x.attach(0), 2);
        x.disturb(1, 10);
        x.run(11);
        due("7 the eleventh is 0", x.phase(0), ArbitratedBus.JOINING);
        x.run(10);
        due("7 ten after it", x.phase(0), ArbitratedBus.JOINING);
        x.run(1);
        due("7 eleven after it", x.phase(0), ArbitratedBus.IDLE);
    }
}
