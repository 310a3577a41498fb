import java.util.function.Consumer;

/** The boundary cases of promises 47 to 49, sentence by sentence. */
final class SlotsEdgesTest extends EdgeKit {
    private static final String SAVES = "Saves everything except the text, the messages and the slots, in place of what the "
        + "slot keeps.";
    private static final String RESTORES = "Makes everything except the text, the messages and the slots as it was saved.";
    private static final String MIXES = "for each of the following values, in this order, h becomes 31 * h + value (as longs, "
        + "with overflow)";

    public static void main(String[] args) {
        Edges.runAll(SlotsEdgesTest.class);
    }

    // ---- promise 47

    @Edge(promise = 47, says = "`slot`: 0 or 1")
    static void saveInNoSlot(Check c) {
        ArbitratedBus x = new ArbitratedBus();
        for (int slot : new int[] {-1, 2, LEAST, GREATEST}) {
            c.due("slot " + slot, x.save(slot), BAD_VALUE);
        }
        c.due("slot 0", x.save(0), 0);
        c.due("slot 1", x.save(1), 0);
    }

    @Edge(promise = 47, says = CHANGES_NOTHING)
    static void refusedSaveChangesNothing(Check c) {
        changesNothing(c, EdgeKit::busyState, x -> {
            c.due("slot -1", x.save(-1), BAD_VALUE);
            c.due("slot 2", x.save(2), BAD_VALUE);
        });
    }

    @Edge(promise = 47, says = "Returns the time")
    static void timeOfSaving(Check c) {
        ArbitratedBus x = new ArbitratedBus();
        c.due("at first", x.save(0), 0);
        x.run(200);
        c.due("after 200", x.save(0), 200);
    }

    @Edge(promise = 47, says = SAVES)
    static void saveInPlaceOfWhatTheSlotKeeps(Check c) {
        ArbitratedBus x = new ArbitratedBus();
        fillWaiting(x, 0);
        x.setAnswer(1, 5, 1, 7);
        x.disturb(1, 150);
        x.save(0);
        x.cancel(0, 1000);
        x.cancel(0, 1001);
        x.removeAnswer(1, 5);
        x.save(0);
        fillWaiting(x, 0);
        x.restore(0);
        c.due("the later state", x.waiting(0), 2);
        c.due("without the answer", x.removeAnswer(1, 5), NONE);
        c.due("the other slot is empty", x.restore(1), NONE);
    }

    @Edge(promise = 47, says = "Saves everything")
    static void savingChangesNothing(Check c) {
        changesNothing(c, x -> {
            busyState(x);
            x.save(1);
        }, x -> c.due("once more", x.save(1), x.time()));
    }

    // ---- promise 48

    @Edge(promise = 48, says = "`slot`: 0 or 1")
    static void restoreFromNoSlot(Check c) {
        ArbitratedBus x = new ArbitratedBus();
        x.save(0);
        x.save(1);
        for (int slot : new int[] {-1, 2, LEAST, GREATEST}) {
            c.due("slot " + slot, x.restore(slot), BAD_VALUE);
        }
        c.due("slot 0", x.restore(0), 0);
        c.due("slot 1", x.restore(1), 0);
    }

    @Edge(promise = 48, says = "NONE if nothing has been saved in the slot")
    static void restoreFromAnEmptySlot(Check c) {
        ArbitratedBus x = new ArbitratedBus();
        c.due("slot 0", x.restore(0), NONE);
        x.run(7);
        x.save(1);
        c.due("slot 0, when slot 1 is not empty", x.restore(0), NONE);
        ArbitratedBus y = new ArbitratedBus();
        y.save(0);
        c.due("slot 1, when slot 0 is not empty", y.restore(1), NONE);
    }

    @Edge(promise = 48, says = "(nothing changes then)")
    static void restoreFromAnEmptySlotChangesNothing(Check c) {
        changesNothing(c, EdgeKit::busyState, x -> {
            c.due("empty", x.restore(1), NONE);
            c.due("slot -1", x.restore(-1), BAD_VALUE);
            c.due("slot 2", x.restore(2), BAD_VALUE);
        });
    }

    @Edge(promise = 48, says = "Returns the time then")
    static void timeOfRestoring(Check c) {
        ArbitratedBus x = new ArbitratedBus();
        x.save(0);
        x.run(200);
        x.save(1);
        c.due("back to the beginning", x.restore(0), 0);
        c.due("the time", x.time(), 0);
        c.due("no level", x.level(1), NONE);
        c.due("and forth", x.restore(1), 200);
        c.due("the time", x.time(), 200);
        c.due("the first level", x.level(200), 1);
    }

    @Edge(promise = 48, says = "The slot keeps it.")
    static void slotKeepsItsState(Check c) {
        ArbitratedBus x = zeros();
        x.save(0);
        for (int k = 0; k < 3; k++) {
            c.due("time", x.restore(0), 0);
            c.due("the frame waits", x.waiting(0), 1);
            c.due("it is sent", x.settle(), ZEROS_BITS);
            x.setFilter(1, 5, 5);
            x.setAnswer(1, 5, 0, 0);
            x.disturb(1, 3);
        }
        x.restore(0);
        c.due("no filter", x.setFilter(1, 0, 0), 0);
        c.due("no answer", x.removeAnswer(1, 5), NONE);
        c.due("no disturbance", x.disturb(1, 0), 1);
    }

    /** Saves, lets something happen, restores: all later answers must be as without it. */
    private static void isUndone(Check c, Consumer<ArbitratedBus> happening) {
        changesNothing(c, x -> {
            busyState(x);
            x.save(1);
        }, x -> {
            happening.accept(x);
            x.restore(1);
        });
    }

    @Edge(promise = 48, says = RESTORES)
    static void settingsAreRestored(Check c) {
        isUndone(c, x -> x.setLimits(8, 200, 1));
        isUndone(c, x -> x.setLimits(20, 200, 2));
        isUndone(c, x -> x.setLimits(20, 40, 9));
        isUndone(c, x -> x.setFilter(1, 2047, 6));
        isUndone(c, x -> x.setFilter(2, 0, 0));
        isUndone(c, x -> x.setAnswer(2, 1, 4, -1));
        isUndone(c, x -> x.removeAnswer(2, 0));
    }

    @Edge(promise = 48, says = RESTORES)
    static void framesAndNodesAreRestored(Check c) {
        isUndone(c, x -> x.cancel(0, 1000));
        isUndone(c, x -> x.request(3, 0, false, 4, -1));
        isUndone(c, x -> x.discard(0));
        isUndone(c, x -> x.detach(3));
        isUndone(c, x -> x.run(1));
        isUndone(c, x -> x.run(200));
        isUndone(c, x -> {
            x.settle();
            x.settle();
        });
    }

    @Edge(promise = 48, says = RESTORES)
    static void disturbancesAreRestored(Check c) {
        ArbitratedBus x = new ArbitratedBus();
        x.disturb(1, 5);
        x.save(0);
        x.disturb(2, 0);
        x.run(6);
        x.restore(0);
        c.due("one, and this one", x.disturb(8, 200), 2);
        x.run(5);
        c.due("the later one is gone", x.phase(1), IDLE);
        x.run(1);
        c.due("the earlier one is back", x.phase(0), FRAME);
    }

    /**
     * A run through all phases, with a lost arbitration, overruns and an answer; slot 1 keeps another state,
     * in the midst of another frame, where nothing of this has happened.
     */
    private static ArbitratedBus eventful() {
        ArbitratedBus x = new ArbitratedBus();
        sendMany(x, 3, 100, 6);
        x.request(1, 0x2aa, false, 4, 0x12345678);
        x.run(20);
        x.save(1);
        x.settle();
        x.detach(0);
        x.attach(0);
        x.setLimits(8, 16, 2);
        x.setAnswer(3, 6, 2, 513);
        x.request(2, 5, false, 1, 9);
        x.request(2, 6, true, 1, 0);
        x.request(1, 7, false, 0, 0);
        x.disturb(8, 5);
        x.disturb(4, 40);
        x.disturb(4, 75);
        x.disturb(2, 163);
        x.disturb(1, 180);
        return x;
    }

    @Edge(promise = 48, says = RESTORES)
    static void everyBitTimeOfAnEventfulRunIsRestored(Check c) {
        boolean[] seen = new boolean[10];
        for (int bits = 1; bits <= 200; bits++) {
            ArbitratedBus x = eventful();
            x.run(bits);
            for (int node = 0; node < 4; node++) {
                seen[x.phase(node)] = true;
            }
            x.save(0);
            long before = x.checksum();
            x.run(150);
            long after = x.checksum();
            x.restore(1);
            x.run(37);
            x.restore(0);
            c.due("restored after " + bits, x.checksum(), before);
            x.run(150);
            c.due("goes on from " + bits, x.checksum(), after);
        }
        for (int phase = JOINING; phase <= SUSPEND; phase++) {
            c.holds("phase " + phase + " occurs: it", seen[phase]);
        }
        ArbitratedBus y = eventful();
        y.run(200);
        y.run(200);
        c.holds("an arbitration is lost: it", y.lostArbitrations(1) > 0);
        c.holds("a frame is an overrun: it", y.overruns(0) > 0);
        c.holds("a node comes into bus-off: it", seen[BUS_OFF]);
    }

    @Edge(promise = 48, says = "except the text, the messages and the slots")
    static void textMessagesAndSlotsStay(Check c) {
        ArbitratedBus x = withText("0:001#;");
        x.addMessage(1, 0, 5000, 0);
        x.save(0);
        x.run(5);
        x.save(1);
        write(x, "1:002#;");
        x.addMessage(2, 0, 5000, 0);
        x.restore(0);
        c.due("the text stays", x.load(), 2);
        c.due("the messages stay", x.responseTime(2), 110);
        c.due("the other slot stays", x.restore(1), 5);
        x.clearText();
        x.removeMessage(1);
        x.restore(0);
        c.due("the text stays empty", x.load(), 0);
        c.due("the message stays removed", x.responseTime(1), BAD_VALUE);
    }

    // ---- promise 49

    @Edge(promise = 49, says = "It starts with h = 11")
    static void checksumOfANewBus(Check c) {
        c.due("a new bus", new ArbitratedBus().checksum(), checksumOf(new ArbitratedBus()));
        ArbitratedBus x = new ArbitratedBus();
        x.append('0');
        x.addMessage(1, 1, 1, 1);
        x.setFilter(0, 1, 1);
        x.setAnswer(0, 1, 1, 1);
        x.setLimits(8, 16, 1);
        x.disturb(1, 9);
        x.save(0);
        c.due("of nothing else", x.checksum(), new ArbitratedBus().checksum());
    }

    @Edge(promise = 49, says = MIXES)
    static void checksumOverflows(Check c) {
        ArbitratedBus x = new ArbitratedBus();
        x.request(0, 2047, false, 4, -1);
        x.request(1, 0, false, 4, LEAST);
        x.settle();
        c.due("negative data", x.checksum(), checksumOf(x));
    }

    @Edge(promise = 49, says = "waitingFrame() for all its indices")
    static void checksumOfFullLists(Check c) {
        ArbitratedBus x = new ArbitratedBus();
        sendMany(x, 0, 5, 7);
        for (int node = 0; node < 4; node++) {
            fillWaiting(x, node);
        }
        c.due("full lists", x.checksum(), checksumOf(x));
    }

    @Edge(promise = 49, says = "level(1) to level(32).")
    static void checksumOfThe32LatestLevels(Check c) {
        for (int bits = 1; bits <= 40; bits++) {
            ArbitratedBus x = zeros();
            x.run(bits);
            c.due("after " + bits, x.checksum(), checksumOf(x));
        }
        ArbitratedBus y = new ArbitratedBus();
        ArbitratedBus z = new ArbitratedBus();
        y.request(0, 0, false, 0, 0);
        z.request(0, 0, true, 0, 0);
        y.run(200);
        z.run(200);
        for (int node = 1; node < 4; node++) {
            y.discard(node);
            z.discard(node);
        }
        c.due("levels before them do not count", y.checksum(), z.checksum());
    }

    @Edge(promise = 49, says = "errors() for the kinds 1 to 5, lastError(), lostArbitrations(), overloads(), sent(), overruns()")
    static void checksumOfCounters(Check c) {
        for (int bits = 40; bits <= 200; bits += 40) {
            ArbitratedBus x = eventful();
            x.run(bits);
            c.due("after " + bits, x.checksum(), checksumOf(x));
        }
    }
}
