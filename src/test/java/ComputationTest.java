/** Promises 33 to 38: predictions, and the bits of frames. */
final class ComputationTest {
    private static final Check CHECK = new Check();

    public static void main(String[] args) {
        winner();
        winnerOfThoseThatTakePart();
        bitsUntilSent();
        atMostThousandBits();
        predictionsChangeNothing();
        badFrames();
        crc();
        frameBits();
        frameBit();
        allFramesOnTheBus();
        worstBits();
        CHECK.end();
    }

    private static void due(String what, long got, long want) {
        CHECK.due(what, got, want);
    }

    private static void winner() {
        ArbitratedBus x = new ArbitratedBus();
        due("33 none", x.winner(), ArbitratedBus.NONE);
        x.request(3, 9, true, 0, 0);
        due("33 the only one", x.winner(), 3);
        x.request(2, 9, true, 1, 0);
        due("33 the lowest of several", x.winner(), 2);
        x.request(1, 10, false, 0, 0);
        due("33 a higher identifier", x.winner(), 2);
        x.request(3, 9, false, 4, -1);
        due("33 data before remote", x.winner(), 3);
        x.request(1, 8, true, 0, 0);
        due("33 its first frame counts", x.winner(), 1);
        x.run(20);
        due("33 while its frame is on the bus", x.winner(), 1);
        x.run(40);
        due("33 when it has been sent", x.winner(), 3);
    }

    private static void winnerOfThoseThatTakePart() {
        ArbitratedBus x = new ArbitratedBus();
        x.request(0, 1, false, 0, 0);
        x.request(1, 2, false, 0, 0);
        x.detach(0);
        due("33 not a detached node", x.winner(), 1);
        x.attach(0);
        due("33 but one that joins", x.winner(), 0);
        x.detach(0);
        x.detach(1);
        due("33 none takes part", x.winner(), ArbitratedBus.NONE);
    }

    private static void bitsUntilSent() {
        ArbitratedBus x = new ArbitratedBus();
        due("34 node -1", x.bitsUntilSent(-1), ArbitratedBus.NO_SUCH_NODE);
        due("34 node 4", x.bitsUntilSent(4), ArbitratedBus.NO_SUCH_NODE);
        due("34 nothing waits", x.bitsUntilSent(0), ArbitratedBus.NONE);
        x.request(0, 0, false, 0, 0);
        due("34 the whole frame", x.bitsUntilSent(0), 50);
        x.run(49);
        due("34 its last bit", x.bitsUntilSent(0), 1);
        x.run(1);
        due("34 no more", x.bitsUntilSent(0), ArbitratedBus.NONE);
        x.settle();
        x.setAnswer(1, 0, 0, 0);
        x.request(0, 0, true, 0, 0);
        int remote = x.frameBits(0, true, 0, 0);
        due("34 by an answer", x.bitsUntilSent(1), remote + 3 + 50);
        x.disturb(1, 0);
        int late = x.bitsUntilSent(0);
        due("34 with the disturbances", late, lateness(x) + remote);
        due("34 a detached node", x.detach(2) + x.request(2, 1, false, 0, 0), 4);
        due("34 never", x.bitsUntilSent(2), ArbitratedBus.NONE);
    }

    /** Sixteen frames last longer than 1000 bit times; the last of them is that of node 3. */
    private static void atMostThousandBits() {
        ArbitratedBus x = new ArbitratedBus();
        int all = 0;
        for (int k = 0; k < 16; k++) {
            x.request(k / 4, k < 15 ? k : 2047, false, 4, -1);
            all += x.frameBits(k < 15 ? k : 2047, false, 4, -1) + 3;
        }
        x.request(3, 2047, false, 4, -1);
        x.cancel(3, 12);
        x.cancel(3, 13);
        x.cancel(3, 14);
        for (int k = 12; k < 15; k++) {
            all -= x.frameBits(k, false, 4, -1) + 3;
        }
        CHECK.holds("34 long enough", all > 1004 && all < 1200);
        x.run(all - 1004);
        due("34 after 1001", x.bitsUntilSent(3), ArbitratedBus.NONE);
        x.run(1);
        due("34 after 1000", x.bitsUntilSent(3), 1000);
        x.run(2);
        x.save(0);
        due("12 not after 1000", x.settle(), ArbitratedBus.NONE);
        due("12 but after one more", x.settle(), 1);
        x.restore(0);
        x.run(1);
        due("12 after 1000", x.settle(), 1000);
    }

    /** How many bit times pass until node 0 is idle again, found on a copy in a slot. */
    private static int lateness(ArbitratedBus x) {
        x.save(0);
        x.run(1);
        int bits = 1;
        while (bits < 100 && x.phase(0) != ArbitratedBus.IDLE) {
            x.run(1);
            bits++;
        }
        x.restore(0);
        return bits;
    }

    private static void predictionsChangeNothing() {
        ArbitratedBus x = new ArbitratedBus();
        x.request(0, 291, false, 2, 4660);
        x.request(1, 256, false, 1, 255);
        x.disturb(4, 30);
        x.run(17);
        long before = x.checksum();
        x.winner();
        x.bitsUntilSent(0);
        x.bitsUntilSent(1);
        x.crc(5, false, 4, -1);
        x.frameBits(5, false, 4, -1);
        x.frameBit(5, false, 4, -1, 40);
        x.worstBits(2);
        due("34 checksum", x.checksum(), before);
        due("34 the disturbance is still to come", x.disturb(1, 200), 2);
    }

    private static void badFrames() {
        ArbitratedBus x = new ArbitratedBus();
        int[][] bad = {{-1, 0, 0}, {2048, 0, 0}, {0, -1, 0}, {0, 5, 0}, {0, 0, 1}, {0, 1, 256}, {0, 2, 65536},
            {0, 3, 1 << 24}, {0, 3, -1}, {0, 0, Integer.MIN_VALUE}};
        for (int[] b : bad) {
            due("35 bad value", x.crc(b[0], false, b[1], b[2]), ArbitratedBus.BAD_VALUE);
            due("36 bad value", x.frameBits(b[0], false, b[1], b[2]), ArbitratedBus.BAD_VALUE);
            due("37 bad value", x.frameBit(b[0], false, b[1], b[2], 0), ArbitratedBus.BAD_VALUE);
            due("37 bad value before none", x.frameBit(b[0], false, b[1], b[2], -1), ArbitratedBus.BAD_VALUE);
        }
        due("35 remote with data", x.crc(0, true, 4, 1), ArbitratedBus.BAD_VALUE);
        due("36 remote with data", x.frameBits(0, true, 4, 1), ArbitratedBus.BAD_VALUE);
        due("37 remote with data", x.frameBit(0, true, 4, 1, 0), ArbitratedBus.BAD_VALUE);
    }

    private static void crc() {
        ArbitratedBus x = new ArbitratedBus();
        due("35 zeros", x.crc(0, false, 0, 0), 0);
        due("35 longer zeros", x.crc(0, false, 2, 0) == 0 ? 1 : 0, 0);
        due("35 a single 1 as the last bit", x.crc(0, false, 1, 0), crcOfOneAt(8));
        due("35 a 1 in front of 32 bits", x.crc(0, false, 4, 0), crcOfOneAt(34));
        due("35 the remote bit", x.crc(0, true, 0, 0), crcOfOneAt(6));
        due("35 of shared tests", x.crc(291, false, 2, 4660), 14007);
    }

    /** The CRC of a single 1 that is followed by some zeros: the polynomial, shifted that often. */
    private static int crcOfOneAt(int zeros) {
        int r = 0x4599;
        for (int k = 0; k < zeros; k++) {
            r = (r & 0x4000) == 0 ? r << 1 : ((r << 1) & 0x7fff) ^ 0x4599;
        }
        return r;
    }

    private static void frameBits() {
        ArbitratedBus x = new ArbitratedBus();
        due("36 zeros", x.frameBits(0, false, 0, 0), 50);
        due("36 of shared tests", x.frameBits(2047, true, 4, 0), 47);
        due("36 remote frames have no data", x.frameBits(0x555, true, 4, 0) < 60 ? 1 : 0, 1);
        for (int length = 0; length <= 4; length++) {
            int ones = length == 4 ? -1 : (1 << (8 * length)) - 1;
            x = new ArbitratedBus();
            for (int identifier = 0; identifier < 2048; identifier += 31) {
                int bits = x.frameBits(identifier, false, length, ones);
                CHECK.holds("36 within its bounds", bits >= 44 + 8 * length && bits + 3 <= x.worstBits(length));
            }
        }
    }

    private static void frameBit() {
        ArbitratedBus x = new ArbitratedBus();
        due("37 index -1", x.frameBit(0, false, 0, 0, -1), ArbitratedBus.NONE);
        due("37 the last", x.frameBit(0, false, 0, 0, 49), 1);
        due("37 behind the last", x.frameBit(0, false, 0, 0, 50), ArbitratedBus.NONE);
        due("37 far behind", x.frameBit(0, false, 0, 0, Integer.MAX_VALUE), ArbitratedBus.NONE);
        due("37 far before", x.frameBit(0, false, 0, 0, Integer.MIN_VALUE), ArbitratedBus.NONE);
        for (int index = 0; index < 40; index++) {
            due("37 bit " + index, x.frameBit(0, false, 0, 0, index), index % 6 == 5 ? 1 : 0);
        }
        for (int index = 40; index < 50; index++) {
            due("37 the tail, slot included", x.frameBit(0, false, 0, 0, index), 1);
        }
        String wanted = "0" + "10101010101" + "000" + "0100" + "01010101001100110000111100101101";
        for (int index = 0; index < wanted.length(); index++) {
            due("37 field bit " + index, x.frameBit(0x555, false, 4, 0x55330f2d, index), wanted.charAt(index) - '0');
        }
        due("37 the remote bit", x.frameBit(0x555, true, 4, 0, 12), 1);
        due("37 no bit behind it", x.frameBit(0x555, true, 4, 0, x.frameBits(0x555, true, 4, 0)), ArbitratedBus.NONE);
    }

    /** What frameBit() says is what level() shows after the frame has been sent. */
    private static void allFramesOnTheBus() {
        int[][] frames = {{0, 0, 0}, {2047, 4, -1}, {1024, 4, 0}, {1, 3, 0x7c1f07}, {0x3e0, 2, 0xf83e}, {7, 1, 31}};
        for (int[] f : frames) {
            for (int kind = 0; kind < 2; kind++) {
                ArbitratedBus x = new ArbitratedBus();
                boolean remote = kind == 1;
                int data = remote ? 0 : f[2];
                x.request(2, f[0], remote, f[1], data);
                int bits = x.frameBits(f[0], remote, f[1], data);
                due("36 bits until sent", x.bitsUntilSent(2), bits);
                x.run(bits);
                for (int k = 0; k < bits; k++) {
                    int due = k == bits - 9 ? 0 : x.frameBit(f[0], remote, f[1], data, k);
                    due("37 on the bus, bit " + k, x.level(bits - k), due);
                }
            }
        }
    }

    private static void worstBits() {
        ArbitratedBus x = new ArbitratedBus();
        int[] due = {55, 65, 75, 85, 95};
        for (int length = 0; length <= 4; length++) {
            due("38 length " + length, x.worstBits(length), due[length]);
        }
        due("38 length -1", x.worstBits(-1), ArbitratedBus.BAD_VALUE);
        due("38 length 5", x.worstBits(5), ArbitratedBus.BAD_VALUE);
    }
}
