import com.sun.management.ThreadMXBean;
import java.lang.management.ManagementFactory;
import java.lang.reflect.InvocationTargetException;
import java.lang.reflect.Method;
import java.lang.reflect.Modifier;
import java.util.Random;

/** No call throws, whatever its arguments are, also after the 512th; and calls make no objects. */
final class RobustTest {
    private static final Check CHECK = new Check();
    private static final int[] EDGES = {Integer.MIN_VALUE, Integer.MIN_VALUE + 1, -2049, -256, -6, -5, -2, -1, 0, 1, 2, 3,
        4, 5, 6, 7, 8, 9, 15, 16, 17, 31, 32, 63, 100, 120, 127, 128, 129, 200, 201, 255, 256, 257, 500, 512, 2047, 2048,
        5000, 5001, 65535, 65536, 0xffffff, 1 << 24, Integer.MAX_VALUE - 1, Integer.MAX_VALUE};

    public static void main(String[] args) throws IllegalAccessException {
        for (int seed = 0; seed < 40; seed++) {
            anyArguments(new Random(seed));
        }
        callsMakeNoObjects();
        CHECK.end();
    }

    private static void anyArguments(Random random) throws IllegalAccessException {
        ArbitratedBus x = new ArbitratedBus();
        Method[] methods = ArbitratedBus.class.getDeclaredMethods();
        for (int k = 0; k < 3000; k++) {
            Method method = methods[random.nextInt(methods.length)];
            if (!Modifier.isPublic(method.getModifiers())) {
                continue;
            }
            Object[] values = new Object[method.getParameterCount()];
            for (int i = 0; i < values.length; i++) {
                boolean small = random.nextBoolean();
                values[i] = method.getParameterTypes()[i] == boolean.class ? (Object) random.nextBoolean()
                    : (Object) (small ? random.nextInt(4) : EDGES[random.nextInt(EDGES.length)]);
            }
            boolean answered = true;
            try {
                method.invoke(x, values);
            } catch (InvocationTargetException e) {
                answered = false;
                e.getCause().printStackTrace(System.out);
            }
            CHECK.holds(method.getName(), answered);
        }
    }

    private static void callsMakeNoObjects() {
        ThreadMXBean threads = (ThreadMXBean) ManagementFactory.getThreadMXBean();
        ArbitratedBus x = new ArbitratedBus();
        String text = "0:123#0011;1:055#R1;2:7ff#;";
        for (int k = 0; k < text.length(); k++) {
            x.append(text.charAt(k));
        }
        x.setAnswer(3, 0x55, 4, -1);
        for (int k = 0; k < 8; k++) {
            x.addMessage(k, 4, 5000, 500);
        }
        long id = Thread.currentThread().getId();
        threads.getThreadAllocatedBytes(id);
        long before = threads.getThreadAllocatedBytes(id);
        long idle = threads.getThreadAllocatedBytes(id) - before;
        before = threads.getThreadAllocatedBytes(id);
        for (int k = 0; k < 50; k++) {
            x.load();
            x.disturb(k % 15 + 1, k);
            x.bitsUntilSent(k % 4);
            x.settle();
            x.save(k % 2);
            x.run(200);
            x.restore(k % 2);
            x.misses();
            x.frameBits(k, false, 4, -k);
            x.discard(1);
            x.checksum();
        }
        long made = threads.getThreadAllocatedBytes(id) - before - idle;
        CHECK.holds("bytes made by 550 calls: " + made, made <= 1024);
        before = threads.getThreadAllocatedBytes(id);
        new ArbitratedBus();
        made = threads.getThreadAllocatedBytes(id) - before - idle;
        CHECK.holds("bytes made by the constructor: " + made, made <= 40000);
    }
}
