import java.io.InputStream;
import java.lang.reflect.Array;
import java.lang.reflect.Field;
import java.lang.reflect.Method;
import java.lang.reflect.Modifier;
import java.util.ArrayList;
import java.util.HashMap;
import java.util.IdentityHashMap;
import java.util.List;
import java.util.Map;
import java.util.Set;

/** The rules of LANGUAGE.md that show in the compiled classes, and the room that an object takes. */
public final class BytecodeTest {
    private static final Set<String> LIBRARY = Set.of("java/lang/Object.<init>", "java/lang/Math.max", "java/lang/Math.min",
        "java/lang/Integer.bitCount", "java/util/Arrays.fill", "java/lang/System.arraycopy");
    private static final int ATHROW = 0xbf, CHECKCAST = 0xc0, INSTANCEOF = 0xc1, ENTER = 0xc2, EXIT = 0xc3;
    private static final int CALL_INTERFACE = 0xb9, CALL_DYNAMIC = 0xba, PUTSTATIC = 0xb3;
    private static final int DEEPEST = 8;

    private static final Map<String, ClassFile.Code> METHODS = new HashMap<>();

    public static void main(String[] args) throws Exception {
        List<Class<?>> classes = new ArrayList<>(List.of(OldWorks.class.getDeclaredClasses()));
        classes.add(OldWorks.class);
        for (Class<?> c : classes) {
            try (InputStream in = OldWorks.class.getResourceAsStream(c.getName() + ".class")) {
                for (ClassFile.Code code : new ClassFile(in).methods) METHODS.put(code.name, code);
            }
        }
        Due.holds("methods were read", METHODS.size() > 100);
        for (ClassFile.Code code : METHODS.values()) instructions(code);
        for (ClassFile.Code code : METHODS.values()) {
            Due.holds(code.name + " calls at most eight deep", depth(code, new ArrayList<>()) <= DEEPEST);
        }
        for (Class<?> c : classes) types(c, classes);
        room();
        Due.end("BytecodeTest");
    }

    private static void instructions(ClassFile.Code code) {
        boolean makes = code.name.contains(".<init>.");
        Due.is(code.name + " catches", code.handlers, 0);
        Due.holds(code.name + " is no static initialiser", !code.name.contains(".<clinit>."));
        for (int instruction : code.instructions) {
            boolean made = instruction == ClassFile.NEW || instruction == ClassFile.NEWARRAY
                || instruction == ClassFile.ANEWARRAY || instruction == ClassFile.MULTIANEWARRAY;
            Due.holds(code.name + " makes nothing", makes || !made);
            Due.holds(code.name + " throws, casts, locks or sets nothing static", instruction != ATHROW
                && instruction != CHECKCAST && instruction != INSTANCEOF && instruction != ENTER && instruction != EXIT
                && instruction != CALL_INTERFACE && instruction != CALL_DYNAMIC && instruction != PUTSTATIC);
        }
        for (String call : code.calls) {
            String name = call.substring(0, call.lastIndexOf('.'));
            Due.holds(code.name + " may call " + call, METHODS.containsKey(call) || LIBRARY.contains(name));
        }
    }

    /** How many calls stand open at once at most, this one and the library's among them. */
    private static int depth(ClassFile.Code code, List<String> open) {
        Due.holds("no recursion in " + code.name, !open.contains(code.name));
        if (open.contains(code.name)) return 1;
        open.add(code.name);
        int deepest = 0;
        for (String call : code.calls) {
            ClassFile.Code called = METHODS.get(call);
            deepest = Math.max(deepest, called == null ? 1 : depth(called, open));
        }
        open.remove(code.name);
        return 1 + deepest;
    }

    /** Numbers, truths, classes of its own, arrays of numbers or truths: of two dimensions at most. */
    private static boolean fair(Class<?> type, List<Class<?>> own) {
        if (!type.isArray()) return type.isPrimitive() && type != double.class && type != float.class || own.contains(type);
        Class<?> inner = type.getComponentType();
        if (!inner.isArray()) return fair(inner, own) && !own.contains(inner);
        return inner.getComponentType().isPrimitive() && inner.getComponentType() != boolean.class && fair(inner, own);
    }

    private static void types(Class<?> c, List<Class<?>> own) {
        for (Field field : c.getDeclaredFields()) Due.holds(field + " has a fair type", fair(field.getType(), own));
        for (Method m : c.getDeclaredMethods()) {
            Due.holds(m + " answers a fair type", fair(m.getReturnType(), own));
            for (Class<?> type : m.getParameterTypes()) Due.holds(m + " takes fair types", fair(type, own));
        }
    }

    private static final Map<Object, Boolean> SEEN = new IdentityHashMap<>();
    private static long elements;

    private static void walk(Object o) throws Exception {
        if (o == null || SEEN.put(o, true) != null) return;
        if (o.getClass().isArray()) {
            elements += Array.getLength(o);
            for (int i = 0; i < Array.getLength(o); i++) {
                if (!o.getClass().getComponentType().isPrimitive()) walk(Array.get(o, i));
            }
            return;
        }
        for (Field field : o.getClass().getDeclaredFields()) {
            if (Modifier.isStatic(field.getModifiers())) continue;
            elements++;
            field.setAccessible(true);
            if (!field.getType().isPrimitive()) walk(field.get(o));
        }
    }

    /** Calls make nothing, so that this is all that an object takes. */
    private static void room() throws Exception {
        walk(new OldWorks());
        Due.holds("objects and arrays: " + SEEN.size(), SEEN.size() <= 200);
        Due.holds("fields and elements: " + elements, elements <= 30000);
    }
}
