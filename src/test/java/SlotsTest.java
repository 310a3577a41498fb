/** Promises 47 to 49: slots and the checksum. */
final class SlotsTest {
    private static final Check CHECK = new Check();

    public static void main(String[] args) {
        slotNumbers();
        everythingIsSaved();
        settingsAreSaved();
        codeIsSaved();
        textAndMessagesStay();
        slotsAreKept();
        checksum();
        checksumOfNewObject();
        CHECK.end();
    }

    private static void due(String what, long got, long want) {
        CHECK.due(what, got, want);
    }

    private static void slotNumbers() {
        ArbitratedBus x = new ArbitratedBus();
        due("47 slot -1", x.save(-1), ArbitratedBus.BAD_VALUE);
        due("47 slot 2", x.save(2), ArbitratedBus.BAD_VALUE);
        due("48 slot -1", x.restore(-1), ArbitratedBus.BAD_VALUE);
        due("48 slot 2", x.restore(2), ArbitratedBus.BAD_VALUE);
        due("48 empty", x.restore(0), ArbitratedBus.NONE);
        x.run(7);
        due("47 the time", x.save(1), 7);
        due("48 the other is empty", x.restore(0), ArbitratedBus.NONE);
        x.run(5);
        due("48 the time then", x.restore(1), 7);
        due("48 the time", x.time(), 7);
    }

    /** A state in the midst of a frame goes on in the same way after it has been restored. */
    private static void everythingIsSaved() {
        ArbitratedBus x = new ArbitratedBus();
        x.setLimits(16, 60, 2);
        x.setFilter(3, 1, 1);
        x.setAnswer(2, 9, 1, 5);
        x.request(0, 291, false, 2, 4660);
        x.request(1, 256, false, 1, 255);
        x.request(3, 9, true, 1, 0);
        x.disturb(2, 45);
        x.disturb(1, 120);
        for (int start = 0; start < 200; start += 7) {
            x.save(0);
            long before = x.checksum();
            x.run(200);
            x.settle();
            long first = x.checksum();
            x.restore(0);
            due("48 restored at " + start, x.checksum(), before);
            x.run(200);
            x.settle();
            due("48 goes on from " + start, x.checksum(), first);
            x.restore(0);
            x.run(7);
        }
    }

    private static void settingsAreSaved() {
        ArbitratedBus x = new ArbitratedBus();
        x.setLimits(20, 30, 2);
        x.setFilter(1, 5, 5);
        x.setAnswer(2, 9, 1, 5);
        x.disturb(1, 100);
        x.disturb(1, 150);
        x.run(3);
        x.save(0);
        x.setLimits(100, 200, 3);
        x.setFilter(1, 7, 7);
        x.removeAnswer(2, 9);
        x.setAnswer(3, 9, 1, 5);
        x.run(120);
        x.disturb(1, 3);
        x.detach(0);
        due("48 restore", x.restore(0), 3);
        due("48 limits", x.setLimits(20, 30, 2), 20);
        due("48 filter", x.setFilter(1, 5, 5), 5);
        for (int k = 0; k < 7; k++) {
            x.request(0, 2, false, 0, 0);
            x.settle();
        }
        due("48 an overrun later", x.overruns(2), 1);
        x.restore(0);
        due("48 no overrun then", x.overruns(2), 0);
        due("48 no answer", x.removeAnswer(3, 9), ArbitratedBus.NONE);
        due("48 answer", x.removeAnswer(2, 9), 0);
        due("48 phase", x.phase(0), ArbitratedBus.IDLE);
        due("48 disturbances", x.disturb(1, 0), 3);
        due("48 levels", x.level(4), ArbitratedBus.NONE);
        x.run(1);
        due("48 the disturbance of this time", x.phase(0), ArbitratedBus.FRAME);
    }

    private static void codeIsSaved() {
        ArbitratedBus x = new ArbitratedBus();
        x.setFilter(1, 2047, 5);
        x.save(0);
        x.setFilter(1, 2047, 6);
        x.restore(0);
        x.request(0, 5, false, 0, 0);
        x.request(0, 6, false, 0, 0);
        x.settle();
        due("48 one passes", x.received(1), 1);
        due("48 by the code as it was", x.receivedFrame(1, 0), 10);
    }

    private static void textAndMessagesStay() {
        ArbitratedBus x = new ArbitratedBus();
        x.append('0');
        x.addMessage(1, 0, 100, 0);
        x.save(0);
        x.append(':');
        x.addMessage(2, 0, 5000, 0);
        x.restore(0);
        due("48 the text stays", x.clearText(), 2);
        due("48 the messages stay", x.removeMessage(2), 1);
    }

    private static void slotsAreKept() {
        ArbitratedBus x = new ArbitratedBus();
        x.request(0, 1, false, 0, 0);
        x.save(0);
        x.request(0, 2, false, 0, 0);
        x.save(1);
        x.restore(0);
        due("48 slot 0", x.waiting(0), 1);
        x.request(0, 3, false, 0, 0);
        x.run(5);
        due("48 restored again", x.restore(0), 0);
        due("48 the slot kept it", x.waiting(0), 1);
        due("48 slot 1 is not touched", x.restore(1), 0);
        due("48 slot 1", x.waiting(0), 2);
        x.settle();
        x.save(0);
        x.restore(1);
        due("48 in place of what it kept", x.restore(0) > 0 ? 1 : 0, 1);
        due("48 settled", x.waiting(0), 0);
    }

    private static void checksum() {
        for (int steps = 0; steps < 60; steps++) {
            ArbitratedBus x = afterSteps(steps);
            due("49 at " + x.time(), x.checksum(), EdgeKit.checksumOf(x));
        }
    }

    private static ArbitratedBus afterSteps(int steps) {
        ArbitratedBus x = new ArbitratedBus();
        x.setLimits(16, 60, 2);
        x.request(0, 291, false, 4, 0xdeadbeef);
        x.request(1, 256, true, 1, 0);
        x.request(2, 2047, false, 1, 255);
        x.disturb(2, 30);
        x.disturb(3, 90);
        for (int k = 0; k < steps; k++) {
            x.run(k % 9 + 1);
            if (k % 10 == 0) {
                x.request(k % 4, 100 + k, false, 3, 0x800000 + k);
            }
        }
        return x;
    }

    private static void checksumOfNewObject() {
        ArbitratedBus x = new ArbitratedBus();
        due("49 new", x.checksum(), EdgeKit.checksumOf(x));
        x.addMessage(1, 1, 1, 1);
        x.append(5);
        x.setFilter(0, 1, 1);
        due("49 of nothing else", x.checksum(), new ArbitratedBus().checksum());
    }
}
