import java.io.ByteArrayInputStream;
import java.io.DataInputStream;
import java.io.IOException;
import java.io.InputStream;
import java.util.ArrayList;
import java.util.HashMap;
import java.util.LinkedHashSet;
import java.util.List;
import java.util.Map;
import java.util.Set;
import java.util.TreeMap;

/** Rule 11 of LANGUAGE.md: calls go at most eight deep, and none calls itself; read from the compiled classes. */
public final class CallDepthTest {
    private static final Check CHECK = new Check();
    private static final int MOST = 8;

    private final Map<String, Set<String>> calls = new TreeMap<>();
    private final Map<String, List<String>> longest = new HashMap<>();

    public static void main(String[] args) throws IOException {
        CHECK.about("calls at most eight deep");
        CallDepthTest test = new CallDepthTest();
        test.read("TwoProcessors");
        for (Class<?> inside : TwoProcessors.class.getDeclaredClasses()) {
            test.read(inside.getName());
        }
        CHECK.due("methods are found", test.calls.size() > 100, true);
        for (String method : test.calls.keySet()) {
            List<String> chain = test.chainFrom(method, new LinkedHashSet<>());
            CHECK.due("not deeper than eight: " + String.join(" > ", chain), chain.size() <= MOST, true);
        }
        CHECK.finish();
    }

    /** The longest chain of own methods that begins with this one. */
    private List<String> chainFrom(String method, Set<String> open) {
        if (longest.containsKey(method)) {
            return longest.get(method);
        }
        CHECK.due(method + " calls itself", open.contains(method), false);
        if (!open.add(method)) {
            return List.of(method);
        }
        List<String> best = List.of();
        for (String called : calls.getOrDefault(method, Set.of())) {
            List<String> chain = chainFrom(called, open);
            best = chain.size() > best.size() ? chain : best;
        }
        open.remove(method);
        List<String> all = new ArrayList<>(List.of(method));
        all.addAll(best);
        longest.put(method, all);
        return all;
    }

    private void read(String name) throws IOException {
        try (InputStream file = CallDepthTest.class.getResourceAsStream(name + ".class");
             DataInputStream in = new DataInputStream(file)) {
            in.readInt();
            in.readInt();
            Object[] pool = readPool(in);
            in.readUnsignedShort();
            in.readUnsignedShort();
            in.readUnsignedShort();
            in.skipBytes(2 * in.readUnsignedShort());
            for (int fields = in.readUnsignedShort(); fields > 0; fields--) {
                readMember(in, pool, null);
            }
            for (int methods = in.readUnsignedShort(); methods > 0; methods--) {
                readMember(in, pool, name);
            }
        }
    }

    /** Texts as they are, references as the places of what they name. */
    private static Object[] readPool(DataInputStream in) throws IOException {
        Object[] pool = new Object[in.readUnsignedShort()];
        for (int i = 1; i < pool.length; i++) {
            int tag = in.readUnsignedByte();
            switch (tag) {
                case 1:
                    pool[i] = in.readUTF();
                    break;
                case 5: case 6:
                    in.readLong();
                    i++;
                    break;
                case 7: case 8: case 16: case 19: case 20:
                    pool[i] = new int[] {in.readUnsignedShort()};
                    break;
                case 15:
                    in.skipBytes(3);
                    break;
                case 3: case 4:
                    in.readInt();
                    break;
                default:
                    pool[i] = new int[] {in.readUnsignedShort(), in.readUnsignedShort()};
                    break;
            }
        }
        return pool;
    }

    private static int at(Object[] pool, int place, int which) {
        return ((int[]) pool[place])[which];
    }

    private static String methodAt(Object[] pool, int place) {
        int nameAndType = at(pool, place, 1);
        return pool[at(pool, at(pool, place, 0), 0)] + "." + pool[at(pool, nameAndType, 0)] + pool[at(pool, nameAndType, 1)];
    }

    private void readMember(DataInputStream in, Object[] pool, String owner) throws IOException {
        in.readUnsignedShort();
        String name = owner + "." + pool[in.readUnsignedShort()] + pool[in.readUnsignedShort()];
        for (int attributes = in.readUnsignedShort(); attributes > 0; attributes--) {
            boolean isCode = "Code".equals(pool[in.readUnsignedShort()]);
            byte[] bytes = new byte[in.readInt()];
            in.readFully(bytes);
            if (owner != null && isCode) {
                DataInputStream body = new DataInputStream(new ByteArrayInputStream(bytes));
                body.readInt();
                byte[] code = new byte[body.readInt()];
                body.readFully(code);
                calls.put(name, callsIn(code, pool));
            }
        }
    }

    private static Set<String> callsIn(byte[] code, Object[] pool) {
        Set<String> found = new LinkedHashSet<>();
        for (int i = 0; i < code.length; i += sizeAt(code, i)) {
            int op = code[i] & 255;
            if (op >= 182 && op <= 185) {
                String called = methodAt(pool, (code[i + 1] & 255) << 8 | code[i + 2] & 255);
                if (called.startsWith("TwoProcessors")) {
                    found.add(called);
                }
            }
        }
        return found;
    }

    private static int intAt(byte[] code, int i) {
        return (code[i] & 255) << 24 | (code[i + 1] & 255) << 16 | (code[i + 2] & 255) << 8 | code[i + 3] & 255;
    }

    /** How many bytes an instruction of the Java machine takes. */
    private static int sizeAt(byte[] code, int i) {
        int op = code[i] & 255;
        int aligned = (i + 4) / 4 * 4;
        if (op == 170) {
            return aligned + 12 + 4 * (intAt(code, aligned + 8) - intAt(code, aligned + 4) + 1) - i;
        }
        if (op == 171) {
            return aligned + 8 + 8 * intAt(code, aligned + 4) - i;
        }
        if (op == 196) {
            return (code[i + 1] & 255) == 132 ? 6 : 4;
        }
        if (op == 185 || op == 186 || op == 200 || op == 201) {
            return 5;
        }
        if (op == 197) {
            return 4;
        }
        if (op == 16 || op == 18 || op >= 21 && op <= 25 || op >= 54 && op <= 58 || op == 169 || op == 188) {
            return 2;
        }
        boolean three = op == 17 || op == 19 || op == 20 || op == 132 || op >= 153 && op <= 168 || op >= 178 && op <= 184
            || op == 187 || op == 189 || op == 192 || op == 193 || op == 198 || op == 199;
        return three ? 3 : 1;
    }
}
