import java.lang.reflect.Method;
import java.util.ArrayList;
import java.util.HashMap;
import java.util.List;
import java.util.Map;

/**
 * One object of the program and one of the plain reference, given the same calls. Calls are told as words:
 * "link 0 3 t" is link(0, 3, true); several of them with ; between.
 */
final class Both {
    private static final int MOST_CALLS = 512;
    private static final Map<String, Method> PROGRAM = methods(OldWorks.class);
    private static final Map<String, Method> PLAIN = methods(PlainWorks.class);

    private final OldWorks works = new OldWorks();
    private final PlainWorks plain = new PlainWorks();
    private int calls;

    private static Map<String, Method> methods(Class<?> c) {
        Map<String, Method> methods = new HashMap<>();
        for (Method m : c.getDeclaredMethods()) {
            if (java.lang.reflect.Modifier.isPublic(m.getModifiers())) methods.put(m.getName(), m);
        }
        return methods;
    }

    /** What a call answers on the program; the document promises nothing behind the 512th call. */
    private long answer(String call) {
        String[] words = call.trim().split(" +");
        Method method = PROGRAM.get(words[0]);
        Class<?>[] types = method.getParameterTypes();
        if (types.length != words.length - 1) throw new IllegalStateException(call);
        Object[] arguments = new Object[types.length];
        for (int i = 0; i < types.length; i++) {
            arguments[i] = types[i] == boolean.class ? (Object) words[i + 1].equals("t") : Integer.valueOf(words[i + 1]);
        }
        calls++;
        Due.holds("not more than 512 calls at " + call, calls <= MOST_CALLS);
        try {
            long got = ((Number) method.invoke(works, arguments)).longValue();
            long due = ((Number) PLAIN.get(words[0]).invoke(plain, arguments)).longValue();
            Due.is(call + " against the plain one", got, due);
            return got;
        } catch (ReflectiveOperationException e) {
            throw new IllegalStateException(call, e);
        }
    }

    long ask(String call) {
        return answer(call);
    }

    Both due(String call, long want) {
        Due.is(call, answer(call), want);
        return this;
    }

    /** A refused call: what it answers, and that all is as it was. */
    Both refused(String call, long want) {
        long before = answer("digest");
        Due.is(call, answer(call), want);
        Due.is("digest behind " + call, answer("digest"), before);
        return this;
    }

    /** Calls that nothing refuses. */
    Both go(String calls) {
        for (String call : calls.split(";")) {
            if (call.isBlank()) continue;
            Due.holds(call + " is not refused", answer(call) >= 0);
        }
        return this;
    }

    Both write(String law) {
        for (int i = 0; i < law.length(); i++) answer("write " + (int) law.charAt(i));
        return this;
    }

    /** Whatever can be asked of it, THE FRACTION and the images, too; it goes on from an image then. */
    List<Long> look() {
        List<Long> all = new ArrayList<>();
        for (String call : "digest;fault;fitted;limbs 0;limbs 1;taking -1;plan 8 -1;plan 8 0;plan 8 3".split(";")) {
            all.add(answer(call));
        }
        for (int part = 0; part < Math.min(5, answer("count 0")); part++) {
            for (String call : "worn % 7;worn % 60;quarrel % -1;quarrel % 0;quarrel % -3;half %;along %".split(";")) {
                all.add(answer(call.replace("%", "" + part)));
            }
        }
        for (int chain = 0; chain < Math.min(3, answer("count 3")); chain++) {
            for (String call : "sum % 9 0;sum % 9 1;sum % 9 2;life % 3".split(";")) {
                all.add(answer(call.replace("%", "" + chain)));
            }
        }
        for (int which = 0; which < 2; which++) {
            for (int i = 0; i < answer("limbs " + which); i++) all.add(answer("limb " + which + " " + i));
        }
        for (String call : "stands 0 1 5;stands 2 0 5;way 60 70 80 -1;way 60 70 80 0;taking 1".split(";")) {
            all.add(answer(call));
        }
        for (String call : "from 1;digest;from 0;digest".split(";")) all.add(answer(call));
        return all;
    }
}
