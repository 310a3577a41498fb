import java.util.ArrayList;
import java.util.List;
import java.util.Random;

/** Long runs of calls, from fixed seeds, on ArbitratedBus and on PlainBus: every answer must be the same. */
final class ModelTest {
    private static final Check CHECK = new Check();
    private static final String LETTERS = "0123:#;Rabcdef45678g9 A";
    /** The document leaves free what calls after the 512th answer; a step has fewer than 60. */
    private static final int MOST_CALLS = 512 - 60;

    private final Random random;
    private final int few;
    private final ArbitratedBus bus = new ArbitratedBus();
    private final PlainBus plain = new PlainBus();
    private final List<String> calls = new ArrayList<>();

    private ModelTest(long seed) {
        random = new Random(seed);
        few = random.nextBoolean() ? 3 : 2048;
    }

    public static void main(String[] args) {
        int runs = args.length > 1 ? Integer.parseInt(args[1]) : 500;
        for (int seed = 0; seed < runs && CHECK.isClean(); seed++) {
            new ModelTest(seed).play(seed);
        }
        CHECK.end();
    }

    private void play(int seed) {
        if (random.nextInt(3) > 0) {
            int passive = 8 + random.nextInt(30);
            limits(passive, Math.max(16, passive + 1 + random.nextInt(60)), 1 + random.nextInt(3));
        }
        while (calls.size() < MOST_CALLS && CHECK.isClean()) {
            step();
            same("checksum()", bus.checksum(), plain.checksum());
        }
        if (!CHECK.isClean()) {
            System.out.println("seed " + seed + ", the calls: " + calls);
        }
    }

    private void same(String call, long got, long want) {
        calls.add(call + "=" + want);
        CHECK.due(call, got, want);
    }

    private void limits(int passive, int off, int recovery) {
        same("setLimits(" + passive + "," + off + "," + recovery + ")", bus.setLimits(passive, off, recovery),
            plain.setLimits(passive, off, recovery));
    }

    /** A value of the range, and now and then one next to it. */
    private int from(int least, int greatest) {
        if (random.nextInt(25) == 0) {
            return random.nextBoolean() ? least - 1 : greatest + 1;
        }
        return least + random.nextInt(greatest - least + 1);
    }

    private int node() {
        return from(0, 3);
    }

    private int identifier() {
        if (random.nextInt(40) == 0) {
            return from(0, 2047);
        }
        return few < 100 ? 62 + random.nextInt(few) : random.nextInt(few);
    }

    private int data(int length) {
        int any = random.nextInt(4) == 0 ? 0 : random.nextInt(4) == 0 ? -1 : random.nextInt();
        if (random.nextInt(30) == 0) {
            return any;
        }
        return length >= 4 ? any : length <= 0 ? 0 : any & ((1 << (8 * length)) - 1);
    }

    private void step() {
        int choice = random.nextInt(100);
        if (choice < 20) {
            request();
        } else if (choice < 38) {
            disturb();
        } else if (choice < 60) {
            run();
        } else if (choice < 64) {
            same("settle()", bus.settle(), plain.settle());
        } else if (choice < 74) {
            configure();
        } else if (choice < 82) {
            predict();
        } else if (choice < 86) {
            slots();
        } else if (choice < 90) {
            messages();
        } else if (choice < 94) {
            text();
        } else {
            ask();
        }
    }

    private void request() {
        int node = node();
        int identifier = identifier();
        boolean remote = random.nextInt(3) == 0;
        int length = from(0, 4);
        int data = remote && random.nextInt(20) > 0 ? 0 : data(length);
        same("request(" + node + "," + identifier + "," + remote + "," + length + "," + data + ")",
            bus.request(node, identifier, remote, length, data), plain.request(node, identifier, remote, length, data));
    }

    private void disturb() {
        int nodes = random.nextBoolean() ? 1 << random.nextInt(4) : from(1, 15);
        int delay = random.nextInt(3) == 0 ? from(0, 200) : random.nextInt(40);
        same("disturb(" + nodes + "," + delay + ")", bus.disturb(nodes, delay), plain.disturb(nodes, delay));
    }

    private void run() {
        int bits = random.nextInt(3) > 0 ? 1 + random.nextInt(20) : from(1, 200);
        same("run(" + bits + ")", bus.run(bits), plain.run(bits));
    }

    private void configure() {
        int node = node();
        int identifier = identifier();
        switch (random.nextInt(7)) {
            case 0:
                int passive = from(8, 128);
                limits(random.nextInt(4) == 0 ? passive : 8 + random.nextInt(20), from(16, 256), from(1, 16));
                break;
            case 1:
                int mask = random.nextBoolean() ? 0 : from(0, 2047);
                int code = random.nextInt(3) > 0 ? identifier : from(0, 2047);
                same("setFilter(" + node + "," + mask + "," + code + ")", bus.setFilter(node, mask, code),
                    plain.setFilter(node, mask, code));
                break;
            case 2:
                int length = from(0, 4);
                int data = data(length);
                same("setAnswer(" + node + "," + identifier + "," + length + "," + data + ")",
                    bus.setAnswer(node, identifier, length, data), plain.setAnswer(node, identifier, length, data));
                break;
            case 3:
                same("removeAnswer(" + node + "," + identifier + ")", bus.removeAnswer(node, identifier),
                    plain.removeAnswer(node, identifier));
                break;
            case 4:
                if (random.nextInt(3) == 0) {
                    same("detach(" + node + ")", bus.detach(node), plain.detach(node));
                }
                break;
            case 5:
                same("attach(" + node + ")", bus.attach(node), plain.attach(node));
                break;
            default:
                same("cancel(" + node + "," + identifier + ")", bus.cancel(node, identifier),
                    plain.cancel(node, identifier));
        }
    }

    private void predict() {
        int node = node();
        int identifier = identifier();
        boolean remote = random.nextInt(3) == 0;
        int length = from(0, 4);
        int data = remote ? 0 : data(length);
        int index = from(0, 100);
        String frame = "(" + identifier + "," + remote + "," + length + "," + data + ")";
        same("winner()", bus.winner(), plain.winner());
        if (random.nextInt(3) == 0) {
            same("bitsUntilSent(" + node + ")", bus.bitsUntilSent(node), plain.bitsUntilSent(node));
        }
        same("crc" + frame, bus.crc(identifier, remote, length, data), plain.crc(identifier, remote, length, data));
        same("frameBits" + frame, bus.frameBits(identifier, remote, length, data),
            plain.frameBits(identifier, remote, length, data));
        same("frameBit" + frame + " at " + index, bus.frameBit(identifier, remote, length, data, index),
            plain.frameBit(identifier, remote, length, data, index));
        same("worstBits(" + length + ")", bus.worstBits(length), plain.worstBits(length));
    }

    private void slots() {
        int slot = from(0, 1);
        if (random.nextBoolean()) {
            same("save(" + slot + ")", bus.save(slot), plain.save(slot));
        } else {
            same("restore(" + slot + ")", bus.restore(slot), plain.restore(slot));
        }
    }

    private void messages() {
        for (int k = 0; k < 4; k++) {
            int identifier = random.nextInt(12);
            int length = from(0, 4);
            int period = random.nextInt(4) == 0 ? from(1, 5000) : 200 + random.nextInt(1500);
            int jitter = random.nextBoolean() ? 0 : from(0, 500);
            same("addMessage(" + identifier + "," + length + "," + period + "," + jitter + ")",
                bus.addMessage(identifier, length, period, jitter), plain.addMessage(identifier, length, period, jitter));
            same("responseTime(" + identifier + ")", bus.responseTime(identifier), plain.responseTime(identifier));
            same("misses()", bus.misses(), plain.misses());
        }
        int gone = random.nextInt(12);
        same("removeMessage(" + gone + ")", bus.removeMessage(gone), plain.removeMessage(gone));
    }

    private void text() {
        if (random.nextInt(3) == 0) {
            same("clearText()", bus.clearText(), plain.clearText());
        }
        String written = random.nextInt(3) == 0 ? noise() : oneRequest();
        for (int k = 0; k < written.length(); k++) {
            int letter = random.nextInt(200) == 0 ? from(0, 127) : written.charAt(k);
            same("append(" + letter + ")", bus.append(letter), plain.append(letter));
        }
        same("faultPosition()", bus.faultPosition(), plain.faultPosition());
        same("load()", bus.load(), plain.load());
    }

    private String oneRequest() {
        StringBuilder out = new StringBuilder();
        out.append(random.nextInt(4)).append(':').append(String.format("%03x", random.nextInt(2048))).append('#');
        if (random.nextInt(3) == 0) {
            return out.append('R').append(random.nextInt(5)).append(';').toString();
        }
        int bytes = random.nextInt(5);
        for (int k = 0; k < bytes; k++) {
            out.append(String.format("%02x", random.nextInt(256)));
        }
        return out.append(';').toString();
    }

    private String noise() {
        StringBuilder out = new StringBuilder(oneRequest());
        int place = random.nextInt(out.length());
        char letter = LETTERS.charAt(random.nextInt(LETTERS.length()));
        switch (random.nextInt(3)) {
            case 0:
                out.setCharAt(place, letter);
                break;
            case 1:
                out.insert(place, letter);
                break;
            default:
                out.deleteCharAt(place);
        }
        return out.toString();
    }

    private void ask() {
        int node = node();
        int index = from(0, 6);
        int kind = from(1, 5);
        int back = from(1, 256);
        String n = "(" + node + ")";
        String ni = "(" + node + "," + index + ")";
        same("phase" + n, bus.phase(node), plain.phase(node));
        same("isTransmitter" + n, bus.isTransmitter(node), plain.isTransmitter(node));
        same("transmitErrors" + n, bus.transmitErrors(node), plain.transmitErrors(node));
        same("receiveErrors" + n, bus.receiveErrors(node), plain.receiveErrors(node));
        same("isPassive" + n, bus.isPassive(node), plain.isPassive(node));
        same("errors(" + node + "," + kind + ")", bus.errors(node, kind), plain.errors(node, kind));
        same("lastError" + n, bus.lastError(node), plain.lastError(node));
        same("lostArbitrations" + n, bus.lostArbitrations(node), plain.lostArbitrations(node));
        same("overloads" + n, bus.overloads(node), plain.overloads(node));
        same("sent" + n, bus.sent(node), plain.sent(node));
        same("overruns" + n, bus.overruns(node), plain.overruns(node));
        same("waiting" + n, bus.waiting(node), plain.waiting(node));
        same("waitingFrame" + ni, bus.waitingFrame(node, index), plain.waitingFrame(node, index));
        same("received" + n, bus.received(node), plain.received(node));
        same("receivedFrame" + ni, bus.receivedFrame(node, index), plain.receivedFrame(node, index));
        same("receivedLength" + ni, bus.receivedLength(node, index), plain.receivedLength(node, index));
        same("receivedData" + ni, bus.receivedData(node, index), plain.receivedData(node, index));
        same("discard" + n, bus.discard(node), plain.discard(node));
        same("time()", bus.time(), plain.time());
        same("level(" + back + ")", bus.level(back), plain.level(back));
    }
}
