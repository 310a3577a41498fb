import java.util.ArrayList;
import java.util.Arrays;
import java.util.List;

/**
 * The document once more, in another way: every node keeps the list of its samples and decodes it
 * anew in each bit time. It is slow and makes many objects; ModelTest compares ArbitratedBus with it.
 */
final class PlainBus {
    static final int NO_NODE = -1, BAD = -2, FULL = -3, IMPOSSIBLE = -4, NONE = -5;
    static final int BIT = 1, STUFF = 2, CRC = 3, FORM = 4, ACK = 5;
    static final int DETACHED = 0, BUS_OFF = 1, JOINING = 2, IDLE = 3, FRAME = 4, FLAG = 5, OVERLOAD = 6,
        DELIMITER = 7, INTERMISSION = 8, SUSPEND = 9;

    static final class Frame {
        final int identifier;
        final boolean remote;
        final int length;
        final int data;

        Frame(int identifier, boolean remote, int length, int data) {
            this.identifier = identifier;
            this.remote = remote;
            this.length = length;
            this.data = data;
        }

        int shown() {
            return 2 * identifier + (remote ? 1 : 0);
        }

        boolean comesAfter(Frame other) {
            if (identifier != other.identifier) {
                return identifier > other.identifier;
            }
            return remote && !other.remote;
        }

        List<Integer> basicBitsBeforeCrc() {
            List<Integer> bits = new ArrayList<>();
            bits.add(0);
            addBits(bits, identifier, 11);
            bits.add(remote ? 1 : 0);
            bits.add(0);
            bits.add(0);
            addBits(bits, length, 4);
            if (!remote) {
                addBits(bits, data, 8 * length);
            }
            return bits;
        }

        List<Integer> basicBits() {
            List<Integer> bits = basicBitsBeforeCrc();
            addBits(bits, crcOf(bits), 15);
            return bits;
        }
    }

    static void addBits(List<Integer> bits, int value, int count) {
        for (int k = count - 1; k >= 0; k--) {
            bits.add((value >> k) & 1);
        }
    }

    static int valueOf(List<Integer> bits, int from, int to) {
        int value = 0;
        for (int bit : bits.subList(from, to)) {
            value = 2 * value + bit;
        }
        return value;
    }

    static int crcOf(List<Integer> bits) {
        int r = 0;
        for (int bit : bits) {
            int x = bit ^ ((r >> 14) & 1);
            r = (r << 1) & 0x7fff;
            if (x == 1) {
                r = r ^ 0x4599;
            }
        }
        return r;
    }

    static List<Integer> stuffed(List<Integer> basic) {
        List<Integer> out = new ArrayList<>();
        for (int bit : basic) {
            out.add(bit);
            if (endsInFiveEqual(out)) {
                out.add(1 - bit);
            }
        }
        return out;
    }

    static boolean endsInFiveEqual(List<Integer> bits) {
        int n = bits.size();
        if (n < 5) {
            return false;
        }
        for (int k = n - 5; k < n; k++) {
            if (!bits.get(k).equals(bits.get(n - 1))) {
                return false;
            }
        }
        return true;
    }

    /** What a list of samples of a frame says: its basic bits, whether a stuff bit is next, the samples of the tail. */
    static final class Decoded {
        final List<Integer> basic = new ArrayList<>();
        boolean stuffNext;
        int tail = -1;

        Decoded(List<Integer> samples) {
            List<Integer> seen = new ArrayList<>();
            for (int sample : samples) {
                if (tail >= 0) {
                    tail++;
                    continue;
                }
                if (!stuffNext) {
                    basic.add(sample);
                }
                seen.add(sample);
                stuffNext = endsInFiveEqual(seen);
                if (basic.size() >= 19 && basic.size() == 19 + dataBits() + 15 && !stuffNext) {
                    tail = 0;
                }
            }
        }

        int length() {
            return valueOf(basic, 15, 19);
        }

        boolean remote() {
            return basic.get(12) == 1;
        }

        int dataBits() {
            return remote() ? 0 : 8 * length();
        }

        boolean crcRight() {
            int n = basic.size();
            return crcOf(basic.subList(0, n - 15)) == valueOf(basic, n - 15, n);
        }

        Frame frame() {
            int n = basic.size();
            return new Frame(valueOf(basic, 1, 12), remote(), length(), valueOf(basic, 19, n - 15));
        }
    }

    static final class Station {
        int phase = IDLE;
        boolean transmitter;
        int tec;
        int rec;
        int mask;
        int code;
        int[] errors = new int[6];
        int last = NONE;
        int lost;
        int overloads;
        int sent;
        int overruns;
        List<Frame> waiting = new ArrayList<>();
        List<Frame> received = new ArrayList<>();
        List<Frame> answers = new ArrayList<>();
        List<Integer> samples = new ArrayList<>();
        List<Integer> inPhase = new ArrayList<>();
        boolean active;
        boolean afterFlag;
        Frame own;
        int drove;

        Station copy() {
            Station s = new Station();
            s.phase = phase;
            s.transmitter = transmitter;
            s.tec = tec;
            s.rec = rec;
            s.mask = mask;
            s.code = code;
            s.errors = errors.clone();
            s.last = last;
            s.lost = lost;
            s.overloads = overloads;
            s.sent = sent;
            s.overruns = overruns;
            s.waiting = new ArrayList<>(waiting);
            s.received = new ArrayList<>(received);
            s.answers = new ArrayList<>(answers);
            s.samples = new ArrayList<>(samples);
            s.inPhase = new ArrayList<>(inPhase);
            s.active = active;
            s.afterFlag = afterFlag;
            s.own = own;
            s.drove = drove;
            return s;
        }

        boolean hasRole() {
            return phase >= FRAME && phase <= INTERMISSION;
        }

        boolean isSending(Frame f) {
            return phase == FRAME && transmitter && own == f;
        }

        void wait(Frame f) {
            int place = waiting.size();
            while (place > 0 && waiting.get(place - 1).comesAfter(f)) {
                place--;
            }
            waiting.add(place, f);
        }
    }

    int passive = 128;
    int off = 256;
    int recovery = 4;
    Station[] stations = {new Station(), new Station(), new Station(), new Station()};
    List<Integer> levels = new ArrayList<>();
    List<int[]> disturbances = new ArrayList<>();
    List<int[]> messages = new ArrayList<>();
    StringBuilder text = new StringBuilder();
    PlainBus[] slots = new PlainBus[2];

    private void copyBusFrom(PlainBus o) {
        passive = o.passive;
        off = o.off;
        recovery = o.recovery;
        for (int i = 0; i < 4; i++) {
            stations[i] = o.stations[i].copy();
        }
        levels = new ArrayList<>(o.levels);
        disturbances = new ArrayList<>(o.disturbances);
    }

    // ---- a bit time

    boolean errorPassive(Station s) {
        return s.tec >= passive || s.rec >= passive;
    }

    void go(Station s, int phase) {
        s.phase = phase;
        s.inPhase.clear();
        if (phase == OVERLOAD) {
            s.overloads++;
        }
    }

    void begin(Station s, boolean asTransmitter) {
        go(s, FRAME);
        s.transmitter = asTransmitter;
        s.samples.clear();
        s.samples.add(0);
        s.own = asTransmitter ? s.waiting.get(0) : null;
    }

    int drives(Station s) {
        switch (s.phase) {
            case IDLE:
                return s.waiting.isEmpty() ? 1 : 0;
            case FLAG:
                return s.active ? 0 : 1;
            case OVERLOAD:
                return 0;
            case FRAME:
                Decoded d = new Decoded(s.samples);
                if (!s.transmitter) {
                    return d.tail == 1 && d.crcRight() ? 0 : 1;
                }
                if (d.tail >= 0) {
                    return 1;
                }
                if (d.stuffNext) {
                    return 1 - s.samples.get(s.samples.size() - 1);
                }
                return s.own.basicBits().get(d.basic.size());
            default:
                return 1;
        }
    }

    void error(Station s, int kind) {
        s.errors[kind]++;
        s.last = kind;
        if (s.transmitter) {
            if (!(kind == ACK && errorPassive(s))) {
                s.tec += 8;
            }
        } else {
            s.rec = Math.min(255, s.rec + 1);
        }
        if (s.tec >= off) {
            go(s, BUS_OFF);
        } else {
            go(s, FLAG);
            s.active = !errorPassive(s);
        }
    }

    void accept(Station s, Frame f) {
        if (s.rec >= passive) {
            s.rec = passive - 8;
        } else if (s.rec > 0) {
            s.rec--;
        }
        for (int k = 0; k < 11; k++) {
            if ((s.mask >> k & 1) == 1 && (f.identifier >> k & 1) != (s.code >> k & 1)) {
                return;
            }
        }
        if (f.remote) {
            for (Frame a : s.answers) {
                if (a.identifier == f.identifier) {
                    if (s.waiting.size() < 4) {
                        s.wait(new Frame(a.identifier, false, a.length, a.data));
                    }
                    return;
                }
            }
        }
        if (s.received.size() < 6) {
            s.received.add(f);
        } else {
            s.overruns++;
        }
    }

    void actInFrame(Station s, int sample) {
        Decoded before = new Decoded(s.samples);
        int previous = s.samples.get(s.samples.size() - 1);
        s.samples.add(sample);
        if (before.tail >= 0) {
            actInTail(s, sample, before);
            return;
        }
        if (before.stuffNext) {
            if (s.transmitter && sample != s.drove) {
                error(s, BIT);
            } else if (!s.transmitter && sample == previous) {
                error(s, STUFF);
            }
            return;
        }
        int index = before.basic.size();
        if (s.transmitter && sample != s.drove) {
            if (s.drove == 1 && index >= 1 && index <= 12) {
                s.transmitter = false;
                s.lost++;
            } else {
                error(s, BIT);
                return;
            }
        }
        if (!s.transmitter) {
            if (index == 13 && sample == 1) {
                error(s, FORM);
            } else if (index == 18 && new Decoded(s.samples).length() > 4) {
                error(s, FORM);
            }
        }
    }

    void actInTail(Station s, int sample, Decoded d) {
        switch (d.tail) {
            case 1:
                if (s.transmitter && sample == 1) {
                    error(s, ACK);
                }
                return;
            case 9:
                if (sample == 0) {
                    if (s.transmitter) {
                        error(s, BIT);
                    } else {
                        go(s, OVERLOAD);
                    }
                } else {
                    if (s.transmitter) {
                        s.waiting.remove(s.own);
                        s.sent++;
                        if (s.tec > 0) {
                            s.tec--;
                        }
                    }
                    go(s, INTERMISSION);
                }
                return;
            default:
                if (sample == 0) {
                    error(s, s.transmitter ? BIT : FORM);
                } else if (!s.transmitter && d.tail == 2 && !d.crcRight()) {
                    error(s, CRC);
                } else if (!s.transmitter && d.tail == 8) {
                    accept(s, d.frame());
                }
        }
    }

    static int trailingOnes(List<Integer> samples) {
        int n = 0;
        for (int k = samples.size() - 1; k >= 0 && samples.get(k) == 1; k--) {
            n++;
        }
        return n;
    }

    /** How many runs of eleven ones there are, each begun anew after the one before. */
    static int sequences(List<Integer> samples) {
        int run = 0;
        int count = 0;
        for (int sample : samples) {
            run = sample == 1 ? run + 1 : 0;
            if (run == 11) {
                run = 0;
                count++;
            }
        }
        return count;
    }

    void act(Station s, int sample) {
        List<Integer> in = s.inPhase;
        in.add(sample);
        switch (s.phase) {
            case IDLE:
                if (sample == 0) {
                    begin(s, s.drove == 0);
                } else if (s.drove == 0) {
                    s.transmitter = true;
                    error(s, BIT);
                }
                break;
            case FRAME:
                actInFrame(s, sample);
                break;
            case FLAG:
            case OVERLOAD:
                if (in.size() == 6) {
                    s.afterFlag = s.phase == FLAG;
                    go(s, DELIMITER);
                }
                break;
            case DELIMITER:
                actInDelimiter(s, sample);
                break;
            case INTERMISSION:
                if (in.size() < 3) {
                    if (sample == 0) {
                        go(s, OVERLOAD);
                    }
                } else if (sample == 0) {
                    begin(s, false);
                } else {
                    go(s, s.transmitter && errorPassive(s) ? SUSPEND : IDLE);
                }
                break;
            case SUSPEND:
                if (sample == 0) {
                    begin(s, false);
                } else if (in.size() == 8) {
                    go(s, IDLE);
                }
                break;
            case JOINING:
                if (trailingOnes(in) == 11) {
                    go(s, IDLE);
                }
                break;
            case BUS_OFF:
                int n = sequences(in);
                if (n > sequences(in.subList(0, in.size() - 1)) && n >= recovery) {
                    s.tec = 0;
                    s.rec = 0;
                    go(s, IDLE);
                }
                break;
            default:
                throw new IllegalStateException();
        }
    }

    void actInDelimiter(Station s, int sample) {
        List<Integer> in = s.inPhase;
        int ones = 0;
        for (int x : in) {
            ones += x;
        }
        if (sample == 1) {
            if (ones == 8) {
                go(s, INTERMISSION);
            }
        } else if (ones == 0) {
            if (in.size() == 1 && s.afterFlag && !s.transmitter) {
                s.rec = Math.min(255, s.rec + 8);
            }
        } else if (ones <= 6) {
            error(s, FORM);
        } else {
            go(s, OVERLOAD);
        }
    }

    void bitTime() {
        int level = 1;
        for (Station s : stations) {
            s.drove = drives(s);
            level = Math.min(level, s.drove);
        }
        int now = levels.size();
        for (int i = 0; i < 4; i++) {
            if (stations[i].phase == DETACHED) {
                continue;
            }
            boolean inverted = false;
            for (int[] d : disturbances) {
                inverted |= d[1] == now && (d[0] >> i & 1) == 1;
            }
            act(stations[i], inverted ? 1 - level : level);
        }
        levels.add(level);
    }

    // ---- the calls

    boolean no(int node) {
        return node < 0 || node > 3;
    }

    boolean bad(int identifier, boolean remote, int length, int data) {
        if (identifier < 0 || identifier > 2047 || length < 0 || length > 4) {
            return true;
        }
        long unsigned = data & 0xffffffffL;
        return unsigned >= 1L << (8 * length) || remote && data != 0;
    }

    int setLimits(int p, int o, int r) {
        if (p < 8 || p > 128 || o < 16 || o > 256 || o <= p || r < 1 || r > 16) {
            return BAD;
        }
        int old = passive;
        passive = p;
        off = o;
        recovery = r;
        return old;
    }

    int setFilter(int node, int mask, int code) {
        if (no(node)) {
            return NO_NODE;
        }
        if (mask < 0 || mask > 2047 || code < 0 || code > 2047) {
            return BAD;
        }
        int old = stations[node].mask;
        stations[node].mask = mask;
        stations[node].code = code;
        return old;
    }

    int setAnswer(int node, int identifier, int length, int data) {
        if (no(node)) {
            return NO_NODE;
        }
        if (bad(identifier, false, length, data)) {
            return BAD;
        }
        List<Frame> answers = stations[node].answers;
        for (int k = 0; k < answers.size(); k++) {
            if (answers.get(k).identifier == identifier) {
                answers.set(k, new Frame(identifier, false, length, data));
                return answers.size();
            }
        }
        if (answers.size() == 4) {
            return FULL;
        }
        answers.add(new Frame(identifier, false, length, data));
        return answers.size();
    }

    int removeAnswer(int node, int identifier) {
        if (no(node)) {
            return NO_NODE;
        }
        List<Frame> answers = stations[node].answers;
        return answers.removeIf(a -> a.identifier == identifier) ? answers.size() : NONE;
    }

    int detach(int node) {
        if (no(node)) {
            return NO_NODE;
        }
        int old = stations[node].phase;
        if (old == DETACHED) {
            return IMPOSSIBLE;
        }
        go(stations[node], DETACHED);
        return old;
    }

    int attach(int node) {
        if (no(node)) {
            return NO_NODE;
        }
        if (stations[node].phase != DETACHED) {
            return IMPOSSIBLE;
        }
        go(stations[node], JOINING);
        return (int) Arrays.stream(stations).filter(s -> s.phase != DETACHED).count();
    }

    int request(int node, int identifier, boolean remote, int length, int data) {
        if (no(node)) {
            return NO_NODE;
        }
        if (bad(identifier, remote, length, data)) {
            return BAD;
        }
        if (stations[node].waiting.size() == 4) {
            return FULL;
        }
        stations[node].wait(new Frame(identifier, remote, length, data));
        return stations[node].waiting.size();
    }

    int cancel(int node, int identifier) {
        if (no(node)) {
            return NO_NODE;
        }
        Station s = stations[node];
        int before = s.waiting.size();
        s.waiting.removeIf(f -> f.identifier == identifier && !s.isSending(f));
        return before - s.waiting.size();
    }

    int disturb(int nodes, int delay) {
        if (nodes < 1 || nodes > 15 || delay < 0 || delay > 200) {
            return BAD;
        }
        int now = levels.size();
        disturbances.removeIf(d -> d[1] < now);
        if (disturbances.size() == 8) {
            return FULL;
        }
        disturbances.add(new int[] {nodes, now + delay});
        return disturbances.size();
    }

    int allSent() {
        return Arrays.stream(stations).mapToInt(s -> s.sent).sum();
    }

    int run(int bits) {
        if (bits < 1 || bits > 200) {
            return BAD;
        }
        int before = allSent();
        for (int k = 0; k < bits; k++) {
            bitTime();
        }
        return allSent() - before;
    }

    boolean settled() {
        for (Station s : stations) {
            if (s.phase != DETACHED && s.phase != BUS_OFF && (s.phase != IDLE || !s.waiting.isEmpty())) {
                return false;
            }
        }
        return true;
    }

    int settle() {
        int passed = 0;
        while (!settled()) {
            if (passed == 1000) {
                return NONE;
            }
            bitTime();
            passed++;
        }
        return passed;
    }

    int phase(int node) {
        return no(node) ? NO_NODE : stations[node].phase;
    }

    int isTransmitter(int node) {
        return no(node) ? NO_NODE : stations[node].hasRole() && stations[node].transmitter ? 1 : 0;
    }

    int transmitErrors(int node) {
        return no(node) ? NO_NODE : stations[node].tec;
    }

    int receiveErrors(int node) {
        return no(node) ? NO_NODE : stations[node].rec;
    }

    int isPassive(int node) {
        return no(node) ? NO_NODE : errorPassive(stations[node]) ? 1 : 0;
    }

    int errors(int node, int kind) {
        return no(node) ? NO_NODE : kind < 1 || kind > 5 ? BAD : stations[node].errors[kind];
    }

    int lastError(int node) {
        return no(node) ? NO_NODE : stations[node].last;
    }

    int lostArbitrations(int node) {
        return no(node) ? NO_NODE : stations[node].lost;
    }

    int overloads(int node) {
        return no(node) ? NO_NODE : stations[node].overloads;
    }

    int sent(int node) {
        return no(node) ? NO_NODE : stations[node].sent;
    }

    int overruns(int node) {
        return no(node) ? NO_NODE : stations[node].overruns;
    }

    int waiting(int node) {
        return no(node) ? NO_NODE : stations[node].waiting.size();
    }

    static Frame at(List<Frame> frames, int index) {
        return index < 0 || index >= frames.size() ? null : frames.get(index);
    }

    int waitingFrame(int node, int index) {
        if (no(node)) {
            return NO_NODE;
        }
        Frame f = at(stations[node].waiting, index);
        return f == null ? NONE : f.shown();
    }

    int received(int node) {
        return no(node) ? NO_NODE : stations[node].received.size();
    }

    int receivedFrame(int node, int index) {
        if (no(node)) {
            return NO_NODE;
        }
        Frame f = at(stations[node].received, index);
        return f == null ? NONE : f.shown();
    }

    int receivedLength(int node, int index) {
        if (no(node)) {
            return NO_NODE;
        }
        Frame f = at(stations[node].received, index);
        return f == null ? NONE : f.length;
    }

    int receivedData(int node, int index) {
        Frame f = no(node) ? null : at(stations[node].received, index);
        return f == null ? 0 : f.data;
    }

    int discard(int node) {
        if (no(node)) {
            return NO_NODE;
        }
        if (stations[node].received.isEmpty()) {
            return NONE;
        }
        stations[node].received.remove(0);
        return stations[node].received.size();
    }

    int time() {
        return levels.size();
    }

    int level(int back) {
        if (back < 1 || back > 256) {
            return BAD;
        }
        return back > levels.size() ? NONE : levels.get(levels.size() - back);
    }

    int winner() {
        int best = NONE;
        for (int i = 0; i < 4; i++) {
            Station s = stations[i];
            if (s.phase == DETACHED || s.phase == BUS_OFF || s.waiting.isEmpty()) {
                continue;
            }
            if (best == NONE || stations[best].waiting.get(0).comesAfter(s.waiting.get(0))) {
                best = i;
            }
        }
        return best;
    }

    int bitsUntilSent(int node) {
        if (no(node)) {
            return NO_NODE;
        }
        PlainBus copy = new PlainBus();
        copy.copyBusFrom(this);
        int before = copy.stations[node].sent;
        for (int k = 1; k <= 1000; k++) {
            copy.bitTime();
            if (copy.stations[node].sent > before) {
                return k;
            }
        }
        return NONE;
    }

    int crc(int identifier, boolean remote, int length, int data) {
        if (bad(identifier, remote, length, data)) {
            return BAD;
        }
        return crcOf(new Frame(identifier, remote, length, data).basicBitsBeforeCrc());
    }

    int frameBits(int identifier, boolean remote, int length, int data) {
        if (bad(identifier, remote, length, data)) {
            return BAD;
        }
        return stuffed(new Frame(identifier, remote, length, data).basicBits()).size() + 10;
    }

    int frameBit(int identifier, boolean remote, int length, int data, int index) {
        if (bad(identifier, remote, length, data)) {
            return BAD;
        }
        List<Integer> bits = stuffed(new Frame(identifier, remote, length, data).basicBits());
        if (index < 0 || index >= bits.size() + 10) {
            return NONE;
        }
        return index < bits.size() ? bits.get(index) : 1;
    }

    int worstBits(int length) {
        return length < 0 || length > 4 ? BAD : 47 + 8 * length + (33 + 8 * length) / 4;
    }

    int addMessage(int identifier, int length, int period, int jitter) {
        if (identifier < 0 || identifier > 2047 || length < 0 || length > 4 || period < 1 || period > 5000
            || jitter < 0 || jitter > 500) {
            return BAD;
        }
        boolean there = messages.stream().anyMatch(m -> m[0] == identifier);
        if (!there && messages.size() == 8) {
            return FULL;
        }
        messages.removeIf(m -> m[0] == identifier);
        messages.add(new int[] {identifier, length, period, jitter});
        return messages.size();
    }

    int removeMessage(int identifier) {
        return messages.removeIf(m -> m[0] == identifier) ? messages.size() : NONE;
    }

    int response(int[] m) {
        int b = 0;
        for (int[] k : messages) {
            if (k[0] > m[0]) {
                b = Math.max(b, worstBits(k[1]));
            }
        }
        long w = b;
        while (true) {
            long next = b;
            for (int[] k : messages) {
                if (k[0] < m[0]) {
                    next += worstBits(k[1]) * ((w + k[3] + k[2]) / k[2]);
                }
            }
            if (next == w || m[3] + w + worstBits(m[1]) > m[2]) {
                break;
            }
            w = next;
        }
        long answer = m[3] + w + worstBits(m[1]);
        return answer > m[2] ? NONE : (int) answer;
    }

    int responseTime(int identifier) {
        for (int[] m : messages) {
            if (m[0] == identifier) {
                return response(m);
            }
        }
        return BAD;
    }

    int misses() {
        return (int) messages.stream().filter(m -> response(m) == NONE).count();
    }

    int append(int letter) {
        if (letter < 0 || letter > 127) {
            return BAD;
        }
        if (text.length() == 120) {
            return FULL;
        }
        text.append((char) letter);
        return text.length();
    }

    int clearText() {
        int n = text.length();
        text.setLength(0);
        return n;
    }

    static final String REQUEST = "[0-3]:[0-7][0-9a-f]{2}#(([0-9a-f]{2}){0,4}|R[0-4]);";

    /** The length of the longest beginning that can be continued to a text of the form, found by matching partly. */
    int faultPosition() {
        java.util.regex.Matcher m = java.util.regex.Pattern.compile("(" + REQUEST + ")*").matcher(text);
        if (m.matches()) {
            return NONE;
        }
        for (int n = 1; n <= text.length(); n++) {
            m.reset(text.substring(0, n));
            if (!m.matches() && !m.hitEnd()) {
                return n - 1;
            }
        }
        return text.length();
    }

    int load() {
        int fault = faultPosition();
        if (fault != NONE) {
            return -1000 - fault;
        }
        int count = 0;
        for (String one : text.toString().split(";")) {
            if (one.isEmpty()) {
                continue;
            }
            String body = one.substring(6);
            boolean remote = body.startsWith("R");
            int length = remote ? body.charAt(1) - '0' : body.length() / 2;
            int data = remote || body.isEmpty() ? 0 : Integer.parseUnsignedInt(body, 16);
            if (request(one.charAt(0) - '0', Integer.parseInt(one.substring(2, 5), 16), remote, length, data) > 0) {
                count++;
            }
        }
        return count;
    }

    int save(int slot) {
        if (slot < 0 || slot > 1) {
            return BAD;
        }
        slots[slot] = new PlainBus();
        slots[slot].copyBusFrom(this);
        return time();
    }

    int restore(int slot) {
        if (slot < 0 || slot > 1) {
            return BAD;
        }
        if (slots[slot] == null) {
            return NONE;
        }
        copyBusFrom(slots[slot]);
        return time();
    }

    long checksum() {
        List<Integer> values = new ArrayList<>();
        values.add(time());
        for (int i = 0; i < 4; i++) {
            values.addAll(List.of(phase(i), isTransmitter(i), transmitErrors(i), receiveErrors(i)));
            for (int kind = 1; kind <= 5; kind++) {
                values.add(errors(i, kind));
            }
            values.addAll(List.of(lastError(i), lostArbitrations(i), overloads(i), sent(i), overruns(i), waiting(i)));
            for (int k = 0; k < waiting(i); k++) {
                values.add(waitingFrame(i, k));
            }
            values.add(received(i));
            for (int k = 0; k < received(i); k++) {
                values.addAll(List.of(receivedFrame(i, k), receivedLength(i, k), receivedData(i, k)));
            }
        }
        for (int back = 1; back <= 32; back++) {
            values.add(level(back));
        }
        long h = 11;
        for (int value : values) {
            h = 31 * h + value;
        }
        return h;
    }
}
