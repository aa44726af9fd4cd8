import java.io.DataInputStream;
import java.io.IOException;
import java.io.InputStream;
import java.nio.ByteBuffer;
import java.util.ArrayList;
import java.util.List;
import java.util.Map;
import java.util.Set;
import java.util.TreeMap;
import java.util.TreeSet;

/**
 * Rules 4, 6, 11 and 12 of LANGUAGE.md, looked up in what javac made of the class: what of the library is called,
 * that nothing is caught, how deep calls go that are no recursion, that objects are made by constructors alone.
 */
public final class CallsTest {
    private static final int DEEPEST = 8;
    private static final Set<String> LIBRARY = Set.of("java/lang/Object.<init>", "java/lang/Math.min",
        "java/lang/Math.max", "java/lang/Math.floorMod", "java/lang/Integer.bitCount",
        "java/util/NoSuchElementException.<init>");
    private static final int INVOKE_FIRST = 182;
    private static final int INVOKE_LAST = 186;
    private static final int NEW = 187;
    private static final int NEW_ARRAY = 188;
    private static final int NEW_ARRAY_OF_OBJECTS = 189;
    private static final int NEW_ARRAYS = 197;

    private static int wrong;

    private final Map<String, Set<String>> calls = new TreeMap<>();

    public static void main(String[] args) throws IOException {
        CallsTest test = new CallsTest();
        test.read("ShyBell");
        for (Class<?> inner : ShyBell.class.getDeclaredClasses()) {
            test.read(inner.getName());
        }
        test.depths();
        System.out.println(wrong == 0 ? "calls: within the rules" : "calls: " + wrong + " wrong");
        System.exit(wrong == 0 ? 0 : 1);
    }

    private static void is(boolean right, String what) {
        if (!right) {
            wrong++;
            System.out.println(what);
        }
    }

    private void read(String name) throws IOException {
        try (InputStream file = ShyBell.class.getResourceAsStream("/" + name + ".class")) {
            DataInputStream in = new DataInputStream(file);
            in.skipNBytes(8);
            Object[] pool = pool(in);
            in.skipNBytes(6);
            in.skipNBytes(2 * in.readUnsignedShort());
            members(in, pool, name, false);
            members(in, pool, name, true);
        }
    }

    /** Texts as they are, of what bears two numbers both, of what bears one that. */
    private static Object[] pool(DataInputStream in) throws IOException {
        Object[] pool = new Object[in.readUnsignedShort()];
        for (int i = 1; i < pool.length; i++) {
            int tag = in.readUnsignedByte();
            switch (tag) {
                case 1: pool[i] = in.readUTF(); break;
                case 5: case 6: in.skipNBytes(8); i++; break;
                case 3: case 4: in.skipNBytes(4); break;
                case 9: case 10: case 11: case 12: case 17: case 18:
                    pool[i] = new int[] {in.readUnsignedShort(), in.readUnsignedShort()};
                    break;
                case 15: in.skipNBytes(3); break;
                default: pool[i] = new int[] {in.readUnsignedShort()}; break;
            }
        }
        return pool;
    }

    private static String named(Object[] pool, int at, int which) {
        Object one = pool[at];
        return one instanceof int[] ? named(pool, ((int[]) one)[which], 0) : String.valueOf(one);
    }

    private static String called(Object[] pool, int at) {
        int[] both = (int[]) pool[at];
        return named(pool, both[0], 0) + "." + named(pool, both[1], 0);
    }

    private void members(DataInputStream in, Object[] pool, String owner, boolean areMethods) throws IOException {
        for (int i = in.readUnsignedShort(); i > 0; i--) {
            in.skipNBytes(2);
            String name = owner + "." + named(pool, in.readUnsignedShort(), 0);
            in.skipNBytes(2);
            for (int k = in.readUnsignedShort(); k > 0; k--) {
                String attribute = named(pool, in.readUnsignedShort(), 0);
                byte[] bytes = in.readNBytes(in.readInt());
                if (areMethods && attribute.equals("Code")) {
                    code(ByteBuffer.wrap(bytes), pool, name);
                }
            }
        }
    }

    private void code(ByteBuffer bytes, Object[] pool, String name) {
        int start = 8;
        int end = start + bytes.getInt(4);
        boolean makes = name.endsWith("init>");
        Set<String> found = calls.computeIfAbsent(name, n -> new TreeSet<>());
        for (int at = start; at < end; at += length(bytes, at, start)) {
            int code = bytes.get(at) & 255;
            if (code >= INVOKE_FIRST && code <= INVOKE_LAST) {
                is(code < INVOKE_LAST, name + " has an invokedynamic");
                found.add(called(pool, bytes.getShort(at + 1) & 0xffff));
            }
            boolean isNew = code >= NEW && code <= NEW_ARRAY_OF_OBJECTS || code == NEW_ARRAYS;
            boolean isThrown = code == NEW
                && named(pool, bytes.getShort(at + 1) & 0xffff, 0).equals("java/util/NoSuchElementException");
            is(!isNew || makes || isThrown, name + " makes an object or an array");
        }
        is(bytes.getShort(end) == 0, name + " catches");
    }

    private static int length(ByteBuffer bytes, int at, int start) {
        int code = bytes.get(at) & 255;
        int padded = at + 4 - (at - start) % 4;
        if (code == 170) {
            return padded + 12 + 4 * (bytes.getInt(padded + 8) - bytes.getInt(padded + 4) + 1) - at;
        }
        if (code == 171) {
            return padded + 8 + 8 * bytes.getInt(padded + 4) - at;
        }
        if (code == 196) {
            return (bytes.get(at + 1) & 255) == 132 ? 6 : 4;
        }
        boolean isTwo = code == 16 || code == 18 || code >= 21 && code <= 25 || code >= 54 && code <= 58 || code == 169
            || code == NEW_ARRAY;
        boolean isThree = code == 17 || code == 19 || code == 20 || code == 132 || code >= 153 && code <= 168
            || code >= 178 && code <= 184 || code == NEW || code == NEW_ARRAY_OF_OBJECTS || code == 192 || code == 193
            || code == 198 || code == 199;
        boolean isFive = code == 185 || code == 186 || code == 200 || code == 201;
        return isTwo ? 2 : isThree ? 3 : isFive ? 5 : code == NEW_ARRAYS ? 4 : 1;
    }

    private void depths() {
        Map<String, Set<String>> reached = new TreeMap<>();
        for (String name : calls.keySet()) {
            Set<String> found = new TreeSet<>();
            List<String> left = new ArrayList<>(calls.get(name));
            while (!left.isEmpty()) {
                String next = left.remove(left.size() - 1);
                if (found.add(next)) {
                    left.addAll(calls.getOrDefault(next, Set.of()));
                }
            }
            reached.put(name, found);
        }
        int deepest = 0;
        for (String name : calls.keySet()) {
            for (String callee : calls.get(name)) {
                is(calls.containsKey(callee) || LIBRARY.contains(callee), name + " calls " + callee);
            }
            int depth = depth(name, reached, new TreeMap<>());
            is(depth <= DEEPEST, name + " goes " + depth + " deep");
            deepest = Math.max(deepest, depth);
        }
        is(deepest > DEEPEST / 2, "calls go deeper than " + deepest);
    }

    /** Those that call one another count as one. */
    private int depth(String name, Map<String, Set<String>> reached, Map<String, Integer> known) {
        if (!calls.containsKey(name)) {
            return 1;
        }
        Integer before = known.get(name);
        if (before != null) {
            return before;
        }
        Set<String> group = new TreeSet<>(Set.of(name));
        for (String other : reached.get(name)) {
            if (reached.getOrDefault(other, Set.of()).contains(name)) {
                group.add(other);
            }
        }
        int deepest = 0;
        for (String member : group) {
            for (String callee : calls.get(member)) {
                deepest = group.contains(callee) ? deepest : Math.max(deepest, depth(callee, reached, known));
            }
        }
        known.put(name, deepest + 1);
        return deepest + 1;
    }
}
