import java.lang.reflect.Constructor;
import java.lang.reflect.Field;
import java.lang.reflect.Method;
import java.lang.reflect.Modifier;
import java.util.Set;
import java.util.TreeSet;

/** The public face: the constants, the constructor and the methods of the document, and nothing else. */
final class FaceTest {
    private static final String I = "int", B = "boolean";
    private static final String[] METHODS = {
        m("setLimits", I, I, I), m("setFilter", I, I, I), m("setAnswer", I, I, I, I), m("removeAnswer", I, I),
        m("detach", I), m("attach", I), m("request", I, I, B, I, I), m("cancel", I, I), m("disturb", I, I),
        m("run", I), m("settle"), m("phase", I), m("isTransmitter", I), m("transmitErrors", I),
        m("receiveErrors", I), m("isPassive", I), m("errors", I, I), m("lastError", I), m("lostArbitrations", I),
        m("overloads", I), m("sent", I), m("overruns", I), m("waiting", I), m("waitingFrame", I, I),
        m("received", I), m("receivedFrame", I, I), m("receivedLength", I, I), m("receivedData", I, I),
        m("discard", I), m("time"), m("level", I), m("winner"), m("bitsUntilSent", I), m("crc", I, B, I, I),
        m("frameBits", I, B, I, I), m("frameBit", I, B, I, I, I), m("worstBits", I), m("addMessage", I, I, I, I),
        m("removeMessage", I), m("responseTime", I), m("misses"), m("append", I), m("clearText"),
        m("faultPosition"), m("load"), m("save", I), m("restore", I), "long checksum()",
    };
    private static final String[] CONSTANTS = {
        "NO_SUCH_NODE=-1", "BAD_VALUE=-2", "FULL=-3", "NOT_POSSIBLE=-4", "NONE=-5", "BIT=1", "STUFF=2", "CRC=3",
        "FORM=4", "ACK=5", "DETACHED=0", "BUS_OFF=1", "JOINING=2", "IDLE=3", "FRAME=4", "FLAG=5", "OVERLOAD=6",
        "DELIMITER=7", "INTERMISSION=8", "SUSPEND=9",
    };

    public static void main(String[] args) throws IllegalAccessException {
        Check check = new Check();
        Class<?> face = ArbitratedBus.class;
        check.due("modifiers", face.getModifiers(), Modifier.PUBLIC | Modifier.FINAL);
        same(check, "methods", methodsOf(face), METHODS);
        same(check, "constants", constantsOf(face), CONSTANTS);
        Constructor<?>[] constructors = face.getDeclaredConstructors();
        check.due("number of constructors", constructors.length, 1);
        check.due("parameters of the constructor", constructors[0].getParameterCount(), 0);
        check.holds("constructor is public", Modifier.isPublic(constructors[0].getModifiers()));
        privateNames(check, face);
        for (Class<?> inside : face.getDeclaredClasses()) {
            check.holds(inside + " is static", Modifier.isStatic(inside.getModifiers()));
            check.holds(inside + " is not public", !Modifier.isPublic(inside.getModifiers()));
            privateNames(check, inside);
        }
        check.end();
    }

    private static String m(String name, String... types) {
        return "int " + name + "(" + String.join(",", types) + ")";
    }

    private static void same(Check check, String what, Set<String> got, String[] due) {
        Set<String> want = new TreeSet<>(Set.of(due));
        if (!got.equals(want)) {
            System.out.println(what + " are " + got + ", due are " + want);
        }
        check.holds(what, got.equals(want));
    }

    private static Set<String> methodsOf(Class<?> face) {
        Set<String> found = new TreeSet<>();
        for (Method method : face.getDeclaredMethods()) {
            if (Modifier.isPrivate(method.getModifiers()) || method.isSynthetic()) {
                continue;
            }
            String[] types = new String[method.getParameterCount()];
            for (int k = 0; k < types.length; k++) {
                types[k] = method.getParameterTypes()[k].getName();
            }
            String sign = method.getReturnType() + " " + method.getName() + "(" + String.join(",", types) + ")";
            found.add(Modifier.toString(method.getModifiers()).equals("public") ? sign : "not plainly public " + sign);
        }
        return found;
    }

    private static Set<String> constantsOf(Class<?> face) throws IllegalAccessException {
        Set<String> found = new TreeSet<>();
        for (Field field : face.getDeclaredFields()) {
            if (Modifier.isPrivate(field.getModifiers()) || field.isSynthetic()) {
                continue;
            }
            boolean plain = Modifier.toString(field.getModifiers()).equals("public static final")
                && field.getType() == int.class;
            found.add((plain ? "" : "not a constant ") + field.getName() + "=" + (plain ? field.getInt(null) : 0));
        }
        return found;
    }

    /** No private method bears the name of a public one, in the classes inside neither. */
    private static void privateNames(Check check, Class<?> type) {
        Set<String> names = new TreeSet<>();
        for (String method : METHODS) {
            names.add(method.substring(method.indexOf(' ') + 1, method.indexOf('(')));
        }
        for (Method method : type.getDeclaredMethods()) {
            if (type != ArbitratedBus.class || Modifier.isPrivate(method.getModifiers())) {
                check.holds(type + " " + method.getName(), !names.contains(method.getName()));
            }
        }
    }
}
