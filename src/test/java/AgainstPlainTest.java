import java.lang.reflect.Method;
import java.util.ArrayList;
import java.util.Arrays;
import java.util.HashMap;
import java.util.List;
import java.util.Map;
import java.util.Random;

/** Random runs of 512 calls, each answer held against that of PlainWorks. The seeds are fixed. */
public final class AgainstPlainTest {
    private static final int CALLS = 512;
    /** By call: how often it comes, then low and high of each number; above 100000000 what is there just now. */
    private static final int PART = 100000001, SAYING = 100000002, CHAIN = 100000003, MACHINE = 100000004;
    private static final int LAW = 100000005;
    private static final Map<String, int[]> CALLS_OF = new HashMap<>();

    static {
        call("part", 10, 0, 100, 1, 100, 0, 99, -1, 3);
        call("family", 4, 0, 3, 1, 900, 1, 90, 1, 1000);
        call("write", 2, LAW, LAW);
        call("erase", 1);
        call("fault", 6);
        call("worn", 8, PART, PART, 0, 99);
        call("say", 24, PART, PART, 0, 3, -50, 1500, 0, 400, 0, 99);
        call("deny", 8, SAYING, SAYING);
        call("first", 8, PART, PART, 0, 2);
        call("quarrel", 14, PART, PART, -3, 6);
        call("chain", 5, -2000, 500, 100, 3000);
        call("link", 14, CHAIN, CHAIN, PART, PART);
        call("sum", 10, CHAIN, CHAIN, 0, 99, 0, 2);
        call("stands", 10, PART, PART, PART, PART, 0, 99);
        call("life", 8, CHAIN, CHAIN, 0, 99);
        call("work", 5, -30, 30, 1, 12, 1, 100, 50, 3000);
        call("way", 12, 1, 150, 1, 150, 40, 160, -2, 5);
        call("machine", 4, 0, 3);
        call("spare", 5, 0, 3, 1, 12, -1, 3);
        call("scrap", 1);
        call("taking", 10, MACHINE, MACHINE);
        call("odds", 4, 0, 9, 0, 9);
        call("lasts", 5, PART, PART, 0, 60);
        call("half", 5, PART, PART);
        call("limbs", 3, 0, 1);
        call("limb", 8, 0, 1, 0, 21);
        call("told", 6, 0, 100);
        call("fitted", 4);
        call("bear", 16, PART, PART, PART, PART);
        call("along", 6, PART, PART);
        call("hand", 2, 0, 15, 0, 9);
        call("need", 4, 0, 3, 0, 9);
        call("plan", 12, 1, 8, -1, 7);
        call("image", 2, 0, 1);
        call("from", 2, 0, 1);
        call("count", 3, 0, 9);
        call("digest", 3);
    }

    private static void call(String name, int... spans) {
        CALLS_OF.put(name, spans);
    }

    private final Random random;
    private final OldWorks works = new OldWorks();
    private final PlainWorks plain = new PlainWorks();
    private final List<String> run = new ArrayList<>();
    private final String pending;
    private int written;
    private int wrong;

    private AgainstPlainTest(long seed) {
        random = new Random(seed);
        pending = law(4);
    }

    private int number(int low, int high) {
        return low + random.nextInt(high - low + 1);
    }

    private String pick(String... texts) {
        return texts[random.nextInt(texts.length)];
    }

    private String blank() {
        return random.nextInt(12) == 0 ? " " : "";
    }

    /** A law that is mostly right and mostly short enough. */
    private String law(int depth) {
        String text = random.nextInt(4) == 0 ? "y" : value(depth);
        if (random.nextInt(6) == 0 && !text.isEmpty()) {
            int place = random.nextInt(text.length());
            String odd = pick("(", ")", "<", "=", "1234567", "x", "7", "-", "!", "\t", "(((((((((", "");
            text = text.substring(0, place) + odd + text.substring(place + random.nextInt(2));
        }
        return text;
    }

    private String value(int depth) {
        String left = blank() + (depth <= 0 ? unit(0) : random.nextInt(3) == 0 ? unit(depth) : value(depth - 1));
        if (random.nextInt(5) == 0) return left;
        return left + blank() + pick("|", "&", "<", ">", "=", "+", "-", "*", "/", "+", "*", "-") + blank() + unit(depth - 1);
    }

    private String unit(int depth) {
        switch (random.nextInt(depth > 0 ? 8 : 5)) {
            case 0: return "y";
            case 1: return "l";
            case 2: return "h";
            case 3: return "" + random.nextInt(10);
            case 4: return "" + random.nextInt(1000000);
            case 5: return "!" + unit(depth - 1);
            case 6: return "-" + unit(depth - 1);
            default: return "(" + value(depth - 1) + ")";
        }
    }

    private int argument(int low, int high) {
        int first = low;
        int last = high;
        if (low == LAW) return written < pending.length() ? pending.charAt(written++) : number(32, 126);
        if (low >= PART) {
            first = low == MACHINE ? -1 : 0;
            last = plain.count(low == PART ? 0 : low == SAYING ? 1 : low == CHAIN ? 3 : 5) - 1;
            // few parts are often meant: else a run would seldom come back to one
            if (low == PART && random.nextInt(3) > 0) last = Math.min(last, 3);
            if (last < first) last = first;
        }
        int kind = random.nextInt(200);
        if (kind < 4) return pickNumber(first - 1, last + 1, high + 1, low - 1);
        if (kind < 5) return pickNumber(Integer.MIN_VALUE, Integer.MAX_VALUE, -1, 0, 1, 100001, 3001, 10001);
        if (kind < 15) return pickNumber(first, last);
        return number(first, last);
    }

    private int pickNumber(int... numbers) {
        return numbers[random.nextInt(numbers.length)];
    }

    private void look(Method method, Object... arguments) throws Exception {
        run.add(method.getName() + Arrays.toString(arguments));
        Object got = method.invoke(works, arguments);
        Object due = PlainWorks.class.getMethod(method.getName(), method.getParameterTypes()).invoke(plain, arguments);
        Due.is(method.getName(), ((Number) got).longValue(), ((Number) due).longValue());
        if (!got.equals(due) && wrong++ == 0) System.out.println("run: " + run);
    }

    private void once(Method method, int[] spans) throws Exception {
        Class<?>[] types = method.getParameterTypes();
        Object[] arguments = new Object[types.length];
        int span = 1;
        for (int i = 0; i < types.length; i++) {
            if (types[i] == boolean.class) {
                arguments[i] = random.nextInt(5) > 1;
            } else {
                arguments[i] = argument(spans[span], spans[span + 1]);
                span += 2;
            }
        }
        look(method, arguments);
    }

    private void go(Map<String, Method> methods, List<String> bag) throws Exception {
        int calls = 0;
        Method write = methods.get("write");
        boolean early = random.nextBoolean();
        for (; early && written < pending.length() && written < 60; calls++) look(write, (int) pending.charAt(written++));
        for (; calls < CALLS - 1; calls++) {
            String name = bag.get(random.nextInt(bag.size()));
            once(methods.get(name), CALLS_OF.get(name));
        }
        look(methods.get("digest"));
        // behind the last promised call answers are free, but it must answer
        for (Method method : methods.values()) {
            Object[] arguments = new Object[method.getParameterCount()];
            for (int i = 0; i < arguments.length; i++) {
                arguments[i] = method.getParameterTypes()[i] == boolean.class ? (Object) true : pickNumber(-1, 0, 7);
            }
            method.invoke(works, arguments);
        }
    }

    /** A run in which only some calls come, so that what they build grows. */
    private static List<String> bag(Random random) {
        List<String> bag = new ArrayList<>();
        List<String> names = new ArrayList<>(CALLS_OF.keySet());
        names.sort(null);
        boolean some = random.nextInt(3) > 0;
        for (String name : names) {
            int times = CALLS_OF.get(name)[0];
            if (some && random.nextInt(3) == 0 && !name.equals("part")) times = times > 8 ? 1 : 0;
            for (int i = 0; i < times; i++) bag.add(name);
        }
        return bag;
    }

    public static void main(String[] args) throws Exception {
        int runs = args.length > 0 ? Integer.parseInt(args[0]) : 120;
        long seed = args.length > 1 ? Long.parseLong(args[1]) : 1;
        Map<String, Method> methods = new HashMap<>();
        for (Method method : OldWorks.class.getDeclaredMethods()) {
            if (CALLS_OF.containsKey(method.getName())) methods.put(method.getName(), method);
        }
        Due.is("calls", methods.size(), 37);
        for (int i = 0; i < runs; i++) {
            AgainstPlainTest test = new AgainstPlainTest(seed * 1000003 + i);
            test.go(methods, bag(test.random));
            if (test.wrong > 0) System.out.println("seed " + seed + ", run " + i);
        }
        Due.end("AgainstPlainTest");
    }
}
