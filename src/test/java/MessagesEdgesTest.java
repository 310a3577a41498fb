/** The boundary cases of promises 39 to 42, sentence by sentence. */
final class MessagesEdgesTest extends EdgeKit {
    private static final String GROWS = "then w is replaced by B plus the sum, over all messages k with a lower identifier, of "
        + "C(k) times the number (w + jitter(k) + period(k)) / period(k), truncated, until it does not change any more, or "
        + "until jitter + w + C of this message is greater than its period.";
    private static final String BLOCKS = "and B the greatest C of all messages with a higher identifier (0 if there is none).";

    public static void main(String[] args) {
        Edges.runAll(MessagesEdgesTest.class);
    }

    /** Eight messages with the identifiers 10 to 17. */
    private static ArbitratedBus withEight() {
        ArbitratedBus x = new ArbitratedBus();
        for (int k = 0; k < 8; k++) {
            x.addMessage(10 + k, 0, 5000, 0);
        }
        return x;
    }

    // ---- promise 39

    @Edge(promise = 39, says = "`identifier`: 0 to 2047; a lower one has priority")
    static void messageIdentifierOutOfRange(Check c) {
        ArbitratedBus x = new ArbitratedBus();
        for (int identifier : new int[] {-1, 2048, LEAST, GREATEST}) {
            c.due("identifier " + identifier, x.addMessage(identifier, 0, 1, 0), BAD_VALUE);
        }
        c.due("identifier 0", x.addMessage(0, 0, 1, 0), 1);
        c.due("identifier 2047", x.addMessage(2047, 0, 1, 0), 2);
    }

    @Edge(promise = 39, says = "a lower one has priority")
    static void lowestAndHighestMessage(Check c) {
        ArbitratedBus x = new ArbitratedBus();
        x.addMessage(2047, 0, 5000, 0);
        x.addMessage(0, 4, 5000, 0);
        c.due("the lowest waits for one that has begun", x.responseTime(0), 55 + 95);
        c.due("the highest waits for the lowest", x.responseTime(2047), 95 + 55);
        x.addMessage(1, 4, 5000, 0);
        c.due("the lowest still for one", x.responseTime(0), 95 + 95);
        c.due("the highest for both", x.responseTime(2047), 95 + 95 + 55);
    }

    @Edge(promise = 39, says = "`length`: 0 to 4")
    static void messageLengthOutOfRange(Check c) {
        ArbitratedBus x = new ArbitratedBus();
        for (int length : new int[] {-1, 5, LEAST, GREATEST}) {
            c.due("length " + length, x.addMessage(0, length, 1, 0), BAD_VALUE);
        }
        c.due("length 0", x.addMessage(0, 0, 1, 0), 1);
        c.due("length 4", x.addMessage(1, 4, 1, 0), 2);
    }

    @Edge(promise = 39, says = "`period`: in bit times, 1 to 5000")
    static void messagePeriodOutOfRange(Check c) {
        ArbitratedBus x = new ArbitratedBus();
        for (int period : new int[] {0, -1, 5001, LEAST, GREATEST}) {
            c.due("period " + period, x.addMessage(0, 0, period, 0), BAD_VALUE);
        }
        c.due("period 1", x.addMessage(0, 0, 1, 0), 1);
        c.due("period 5000", x.addMessage(1, 0, 5000, 0), 2);
    }

    @Edge(promise = 39, says = "`jitter`: in bit times, 0 to 500")
    static void messageJitterOutOfRange(Check c) {
        ArbitratedBus x = new ArbitratedBus();
        for (int jitter : new int[] {-1, 501, LEAST, GREATEST}) {
            c.due("jitter " + jitter, x.addMessage(0, 0, 5000, jitter), BAD_VALUE);
        }
        c.due("jitter 0", x.addMessage(0, 0, 5000, 0), 1);
        c.due("jitter 500", x.addMessage(1, 0, 5000, 500), 2);
        c.due("its response time", x.responseTime(1), 500 + 55 + 55);
    }

    @Edge(promise = 39, says = "FULL if there would be more than 8.")
    static void ninthMessage(Check c) {
        ArbitratedBus x = new ArbitratedBus();
        for (int k = 1; k <= 8; k++) {
            c.due("message " + k, x.addMessage(10 + k, 0, 5000, 0), k);
        }
        c.due("a ninth", x.addMessage(9, 0, 5000, 0), FULL);
        c.due("it was not added", x.responseTime(9), BAD_VALUE);
        x.removeMessage(14);
        c.due("room again", x.addMessage(9, 0, 5000, 0), 8);
        c.due("full again", x.addMessage(14, 0, 5000, 0), FULL);
    }

    @Edge(promise = 39, says = "in place of the message with this identifier.")
    static void messageInPlaceAlthoughFull(Check c) {
        ArbitratedBus x = withEight();
        for (int k = 0; k < 8; k++) {
            c.due("message " + k + " in place", x.addMessage(10 + k, 1, 4000, k), 8);
        }
        for (int k = 0; k < 8; k++) {
            int blocking = k < 7 ? 65 : 0;
            c.due("response time of message " + k, x.responseTime(10 + k), k + blocking + 65 * k + 65);
        }
        for (int left = 7; left >= 0; left--) {
            c.due("each is there once", x.removeMessage(10 + left), left);
        }
    }

    @Edge(promise = 39, says = "Returns the number of messages")
    static void numberOfMessages(Check c) {
        ArbitratedBus x = new ArbitratedBus();
        c.due("first", x.addMessage(0, 0, 1, 0), 1);
        c.due("the same again", x.addMessage(0, 0, 2, 0), 1);
        c.due("second", x.addMessage(1, 0, 1, 0), 2);
    }

    @Edge(promise = 39, says = ORDER)
    static void badMessageBeforeFull(Check c) {
        ArbitratedBus x = withEight();
        c.due("bad identifier, full", x.addMessage(2048, 0, 1, 0), BAD_VALUE);
        c.due("bad length, full", x.addMessage(9, 5, 1, 0), BAD_VALUE);
        c.due("bad period, full", x.addMessage(9, 0, 0, 0), BAD_VALUE);
        c.due("bad jitter, full", x.addMessage(9, 0, 1, 501), BAD_VALUE);
        c.due("full", x.addMessage(9, 0, 1, 0), FULL);
    }

    @Edge(promise = 39, says = CHANGES_NOTHING)
    static void refusedMessageChangesNothing(Check c) {
        changesNothing(c, EdgeKit::busyState, x -> {
            c.due("bad identifier", x.addMessage(-1, 0, 1, 0), BAD_VALUE);
            c.due("bad length in place", x.addMessage(1, 5, 1, 0), BAD_VALUE);
            c.due("bad period in place", x.addMessage(1, 0, 5001, 0), BAD_VALUE);
            c.due("bad jitter in place", x.addMessage(1, 0, 1, -1), BAD_VALUE);
            c.due("full", x.addMessage(9, 0, 1, 0), FULL);
        });
    }

    @Edge(promise = 39, says = "Adds a periodic message, for the analysis only")
    static void messagesAreNotSent(Check c) {
        ArbitratedBus x = new ArbitratedBus();
        x.addMessage(0, 0, 1, 0);
        x.run(200);
        c.due("nothing is sent", x.level(1) + x.level(200), 2);
        c.due("nothing waits", x.winner(), NONE);
    }

    // ---- promise 40

    @Edge(promise = 40, says = "NONE if there is no such message")
    static void removeMessageThatIsNotThere(Check c) {
        ArbitratedBus x = new ArbitratedBus();
        c.due("none at all", x.removeMessage(0), NONE);
        x.addMessage(5, 0, 1, 0);
        for (int identifier : new int[] {4, 6, -1, -5, 2048, 5 + 2048, LEAST, GREATEST}) {
            c.due("identifier " + identifier, x.removeMessage(identifier), NONE);
        }
        c.due("it is there", x.removeMessage(5), 0);
        c.due("it is gone", x.removeMessage(5), NONE);
    }

    @Edge(promise = 40, says = "(nothing changes then)")
    static void removeMessageThatIsNotThereChangesNothing(Check c) {
        changesNothing(c, EdgeKit::busyState, x -> {
            c.due("no such message", x.removeMessage(9), NONE);
            c.due("no identifier", x.removeMessage(-1), NONE);
        });
    }

    @Edge(promise = 40, says = "Returns the number of messages that are left")
    static void messagesThatAreLeft(Check c) {
        ArbitratedBus x = withEight();
        c.due("the first", x.removeMessage(10), 7);
        c.due("the last", x.removeMessage(17), 6);
        c.due("one in the middle", x.removeMessage(13), 5);
        for (int identifier : new int[] {11, 12, 14, 15, 16}) {
            c.holds("message " + identifier + " stays: it", x.responseTime(identifier) > 0);
        }
        c.due("removed", x.responseTime(13), BAD_VALUE);
        c.due("left", x.removeMessage(12), 4);
        c.due("left", x.removeMessage(11), 3);
        c.due("left", x.removeMessage(16), 2);
        c.due("left", x.removeMessage(14), 1);
        c.due("left", x.removeMessage(15), 0);
    }

    @Edge(promise = 40, says = "Removes a periodic message.")
    static void othersKeepTheirValues(Check c) {
        ArbitratedBus x = new ArbitratedBus();
        x.addMessage(1, 0, 1, 1);
        x.addMessage(2, 1, 160, 20);
        x.addMessage(3, 2, 800, 300);
        x.removeMessage(1);
        c.due("length and jitter of the second", x.responseTime(2), 20 + 75 + 65);
        c.due("length and jitter of the third, and the period of the second", x.responseTime(3), 300 + 65 + 75);
        x.addMessage(3, 2, 440, 300);
        c.due("at its period", x.responseTime(3), 440);
        x.addMessage(3, 2, 439, 300);
        c.due("above its period", x.responseTime(3), NONE);
    }

    // ---- promise 41

    @Edge(promise = 41, says = "BAD_VALUE if there is no such message")
    static void responseTimeOfNoMessage(Check c) {
        ArbitratedBus x = new ArbitratedBus();
        c.due("none at all", x.responseTime(0), BAD_VALUE);
        x.addMessage(5, 0, 5000, 0);
        for (int identifier : new int[] {4, 6, 0, -1, 2048, 5 + 2048, LEAST, GREATEST}) {
            c.due("identifier " + identifier, x.responseTime(identifier), BAD_VALUE);
        }
        c.due("it is there", x.responseTime(5), 55);
        x.removeMessage(5);
        c.due("it is gone", x.responseTime(5), BAD_VALUE);
    }

    @Edge(promise = 41, says = "NONE if it is greater than the period.")
    static void responseTimeAtThePeriod(Check c) {
        ArbitratedBus x = new ArbitratedBus();
        for (int length = 0; length <= 4; length++) {
            int worst = x.worstBits(length);
            x.addMessage(5, length, worst, 0);
            c.due("at the period, length " + length, x.responseTime(5), worst);
            x.addMessage(5, length, worst - 1, 0);
            c.due("one above it, length " + length, x.responseTime(5), NONE);
        }
        x.addMessage(5, 0, 1, 0);
        c.due("the shortest period", x.responseTime(5), NONE);
        x.addMessage(5, 0, 555, 500);
        c.due("with jitter at the period", x.responseTime(5), 555);
        x.addMessage(5, 0, 554, 500);
        c.due("with jitter above it", x.responseTime(5), NONE);
    }

    @Edge(promise = 41, says = "NONE if it is greater than the period.")
    static void responseTimeOfTheLongestPeriod(Check c) {
        // w: 0, 95, ... grows by 95 in each round, as the period of the lower one is 95 too.
        ArbitratedBus x = new ArbitratedBus();
        x.addMessage(1, 4, 95, 0);
        x.addMessage(2, 4, 5000, 0);
        c.due("it never ends", x.responseTime(2), NONE);
        x.addMessage(1, 4, 96, 0);
        // w = 95 * n with n = (w + 96) / 96: 95 for n = 1.
        c.due("one bit time more is enough", x.responseTime(2), 190);
        x.addMessage(1, 0, 1, 500);
        c.due("the shortest period of another", x.responseTime(2), NONE);
    }

    @Edge(promise = 41, says = BLOCKS)
    static void blockingByTheGreatestHigherMessage(Check c) {
        ArbitratedBus x = new ArbitratedBus();
        x.addMessage(10, 0, 5000, 0);
        c.due("no higher one", x.responseTime(10), 55);
        x.addMessage(9, 4, 5000, 0);
        c.due("a lower one does not block", x.responseTime(10), 95 + 55);
        x.addMessage(11, 1, 5000, 0);
        x.addMessage(12, 3, 5000, 0);
        x.addMessage(13, 2, 5000, 0);
        c.due("the greatest of three", x.responseTime(10), 85 + 95 + 55);
        c.due("the last but one", x.responseTime(12), 75 + 95 + 55 + 65 + 85);
        c.due("the highest", x.responseTime(13), 95 + 55 + 65 + 85 + 75);
    }

    @Edge(promise = 41, says = "Let w be B at first")
    static void waitingBeginsWithTheBlocking(Check c) {
        // With w = 55 at first the lower message of the period 55 counts twice at once: (55 + 55) / 55.
        ArbitratedBus x = new ArbitratedBus();
        x.addMessage(1, 0, 5000, 0);
        x.addMessage(2, 0, 110, 0);
        c.due("two messages", x.responseTime(2), 110);
        x.addMessage(3, 0, 5000, 0);
        // w: 55, 55 + 55 = 110, 110: 165 is above the period.
        c.due("blocked beyond its period", x.responseTime(2), NONE);
        x.addMessage(2, 0, 165, 0);
        c.due("at its period", x.responseTime(2), 165);
    }

    @Edge(promise = 41, says = GROWS)
    static void lowerMessageJustWithinAndBeyondItsPeriod(Check c) {
        // w: 0, 55, and then 55 * ((55 + period) / period): one message of the period 56, two of the period 55.
        ArbitratedBus x = new ArbitratedBus();
        x.addMessage(2, 0, 300, 0);
        x.addMessage(1, 0, 56, 0);
        c.due("w is one below the period", x.responseTime(2), 110);
        x.addMessage(1, 0, 55, 0);
        c.due("w is at the period", x.responseTime(2), NONE);
        // With the jitter 1 the period 56 is reached as well, and from then on w grows without an end.
        x.addMessage(1, 0, 56, 1);
        c.due("w and the jitter are at the period", x.responseTime(2), 165);
        x.addMessage(1, 0, 57, 1);
        c.due("w and the jitter are one below it", x.responseTime(2), 110);
    }

    @Edge(promise = 41, says = GROWS)
    static void longestJitterOfAnotherMessage(Check c) {
        ArbitratedBus x = new ArbitratedBus();
        x.addMessage(2, 0, 5000, 0);
        x.addMessage(1, 0, 500, 500);
        // (0 + 500 + 500) / 500 = 2, and with w = 110 still 2.
        c.due("jitter at the period counts once more", x.responseTime(2), 110 + 55);
        x.addMessage(1, 0, 501, 500);
        // (0 + 1001) / 501 = 1, then (55 + 1001) / 501 = 2.
        c.due("one more", x.responseTime(2), 110 + 55);
        x.addMessage(1, 0, 1000, 500);
        c.due("far below the period", x.responseTime(2), 55 + 55);
    }

    @Edge(promise = 41, says = "Returns jitter + w + C")
    static void ownJitterIsAdded(Check c) {
        ArbitratedBus x = new ArbitratedBus();
        x.addMessage(5, 4, 5000, 500);
        c.due("alone", x.responseTime(5), 595);
        x.addMessage(6, 4, 5000, 500);
        c.due("with one above", x.responseTime(5), 690);
        c.due("with one below", x.responseTime(6), 690);
    }

    // ---- promise 42

    @Edge(promise = 42, says = "Returns the number of messages whose response time is greater than their period.")
    static void missesFromNoneToEight(Check c) {
        ArbitratedBus x = new ArbitratedBus();
        c.due("no messages", x.misses(), 0);
        for (int k = 1; k <= 8; k++) {
            x.addMessage(k, 0, 1, 0);
            c.due(k + " messages of the period 1", x.misses(), k);
        }
        for (int k = 8; k >= 1; k--) {
            x.addMessage(k, 0, 5000, 0);
        }
        c.due("long periods", x.misses(), 0);
    }

    @Edge(promise = 42, says = "Returns the number of messages whose response time is greater than their period.")
    static void missesAtThePeriod(Check c) {
        ArbitratedBus x = new ArbitratedBus();
        x.addMessage(1, 0, 55, 0);
        c.due("at its period", x.misses(), 0);
        x.addMessage(1, 0, 54, 0);
        c.due("above its period", x.misses(), 1);
        x.removeMessage(1);
        c.due("removed", x.misses(), 0);
    }
}
