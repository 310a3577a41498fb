/** Promises 39 to 42: periodic messages and their response times. */
final class MessagesTest {
    private static final Check CHECK = new Check();

    public static void main(String[] args) {
        add();
        remove();
        responseTimes();
        jitter();
        blocking();
        misses();
        CHECK.end();
    }

    private static void due(String what, long got, long want) {
        CHECK.due(what, got, want);
    }

    private static void add() {
        ArbitratedBus x = new ArbitratedBus();
        int bad = ArbitratedBus.BAD_VALUE;
        due("39 identifier -1", x.addMessage(-1, 0, 1, 0), bad);
        due("39 identifier 2048", x.addMessage(2048, 0, 1, 0), bad);
        due("39 length -1", x.addMessage(0, -1, 1, 0), bad);
        due("39 length 5", x.addMessage(0, 5, 1, 0), bad);
        due("39 period 0", x.addMessage(0, 0, 0, 0), bad);
        due("39 period 5001", x.addMessage(0, 0, 5001, 0), bad);
        due("39 jitter -1", x.addMessage(0, 0, 1, -1), bad);
        due("39 jitter 501", x.addMessage(0, 0, 1, 501), bad);
        due("39 lowest", x.addMessage(0, 0, 1, 0), 1);
        due("39 highest", x.addMessage(2047, 4, 5000, 500), 2);
        due("39 in place", x.addMessage(0, 4, 5000, 0), 2);
        for (int k = 3; k <= 8; k++) {
            due("39 more", x.addMessage(k, 0, 5000, 0), k);
        }
        due("39 full", x.addMessage(9, 0, 5000, 0), ArbitratedBus.FULL);
        due("39 bad value before full", x.addMessage(9, 5, 5000, 0), bad);
        due("39 in place although full", x.addMessage(2047, 0, 5000, 0), 8);
        due("39 not added", x.responseTime(9), bad);
    }

    private static void remove() {
        ArbitratedBus x = new ArbitratedBus();
        due("40 none", x.removeMessage(5), ArbitratedBus.NONE);
        x.addMessage(5, 0, 1000, 0);
        x.addMessage(6, 4, 1000, 0);
        x.addMessage(7, 0, 1000, 0);
        due("40 another", x.removeMessage(-5), ArbitratedBus.NONE);
        due("40 left", x.removeMessage(6), 2);
        due("40 again", x.removeMessage(6), ArbitratedBus.NONE);
        due("40 its response time", x.responseTime(6), ArbitratedBus.BAD_VALUE);
        due("40 the others stay", x.responseTime(5), 110);
        due("40 the others stay", x.responseTime(7), 110);
        due("40 left", x.removeMessage(5), 1);
        due("40 left", x.removeMessage(7), 0);
        x.addMessage(1, 0, 2000, 0);
        x.addMessage(4, 1, 110, 3);
        x.addMessage(9, 2, 3000, 200);
        x.addMessage(2, 3, 4000, 400);
        due("40 the first", x.removeMessage(1), 3);
        due("40 the others keep length and jitter", x.responseTime(2), 400 + 75 + 85);
        due("40 and their periods", x.responseTime(4), ArbitratedBus.NONE);
        due("40 the first again", x.removeMessage(4), 2);
        due("40 length and jitter", x.responseTime(9), 200 + 85 + 75);
        due("40 the last is moved too", x.responseTime(2), 400 + 75 + 85);
    }

    private static void responseTimes() {
        ArbitratedBus x = new ArbitratedBus();
        due("41 no message", x.responseTime(0), ArbitratedBus.BAD_VALUE);
        due("41 no such identifier", x.responseTime(-1), ArbitratedBus.BAD_VALUE);
        x.addMessage(7, 0, 55, 0);
        due("41 alone, at its period", x.responseTime(7), 55);
        x.addMessage(7, 0, 54, 0);
        due("41 alone, above it", x.responseTime(7), ArbitratedBus.NONE);
        x.addMessage(7, 0, 5000, 0);
        x.addMessage(3, 0, 100, 0);
        // w: 0, 55, 55 * (155 / 100) = 55
        due("41 one before it", x.responseTime(7), 110);
        x.addMessage(3, 0, 55, 0);
        // w: 0, 55, 110, 165, ... never the same again
        due("41 without end", x.responseTime(7), ArbitratedBus.NONE);
        x.addMessage(3, 0, 110, 0);
        x.addMessage(2, 1, 400, 0);
        // w: 0, 120, 55 * 2 + 65 = 175, 175
        due("41 two before it", x.responseTime(7), 230);
        x.addMessage(1, 0, 1, 0);
        due("41 the shortest period", x.responseTime(7), ArbitratedBus.NONE);
        x.removeMessage(1);
        // the higher one blocks with 55: w: 55, 55 + 65 = 120, 120
        due("41 between two", x.responseTime(3) == ArbitratedBus.NONE ? 1 : 0, 1);
        x.addMessage(3, 0, 175, 0);
        due("41 between two", x.responseTime(3), 175);
    }

    private static void jitter() {
        ArbitratedBus x = new ArbitratedBus();
        x.addMessage(1, 0, 1000, 500);
        due("41 its own jitter", x.responseTime(1), 555);
        x.addMessage(2, 0, 1000, 0);
        due("41 jitter of another", x.responseTime(2), 110);
        x.addMessage(1, 0, 555, 500);
        // w: 0, 55 * (1055 / 555) = 55, 55 * (1110 / 555) = 110, 110 * ... (1165 / 555) = 2
        due("41 jitter of another counts", x.responseTime(2), 165);
        x.addMessage(2, 0, 1000, 7);
        due("41 both", x.responseTime(2), 172);
        due("41 above the period", x.responseTime(1), ArbitratedBus.NONE);
    }

    private static void blocking() {
        ArbitratedBus x = new ArbitratedBus();
        x.addMessage(10, 0, 5000, 0);
        x.addMessage(20, 2, 5000, 0);
        x.addMessage(30, 1, 5000, 0);
        due("41 the longest higher one blocks", x.responseTime(10), 75 + 55);
        due("41 not the lower one", x.responseTime(20), 65 + 55 + 75);
        due("41 none blocks the highest", x.responseTime(30), 55 + 75 + 65);
    }

    private static void misses() {
        ArbitratedBus x = new ArbitratedBus();
        due("42 none", x.misses(), 0);
        x.addMessage(1, 0, 55, 0);
        due("42 in time", x.misses(), 0);
        x.addMessage(2, 0, 5000, 0);
        due("42 both too late", x.misses(), 2);
        x.addMessage(1, 0, 110, 0);
        due("42 in time again", x.misses(), 0);
        x.addMessage(3, 0, 60, 0);
        // 1: 55 + 55; 2: 55 + 55 + 55 and more; 3: two others before it
        due("42 only the third", x.misses(), 1);
        x.removeMessage(3);
        due("42 removed", x.misses(), 0);
    }
}
