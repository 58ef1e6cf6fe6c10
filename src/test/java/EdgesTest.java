import java.util.ArrayList;
import java.util.List;

/**
 * For every call and every number that it takes: the least and the greatest that are as told are taken, the ones
 * beside them are refused, as are the least and the greatest there are; a refused call changes nothing.
 */
public final class EdgesTest {
    /** Something of everything, nothing full, image 0 kept, THE FRACTION of twenty limbs. */
    private static final String READY = "part 20 3 4 1;part 30 5 6 -1;part 0 100 99 0;family 1 7 5 100;"
        + "family 0 700 10 50;family 2 1 1 30;"
        + "write 121;write 42;write 50;say 0 0 40 9 9;say 0 2 45 3 9;say 1 1 45 3 9;say 1 3 47 0 0;say 2 1 900 9 0;"
        + "deny 2 t;chain -50 80;link 0 1 t;link 0 0 f;chain -7 100000;work 3 4 5 90;work -1 1 1 3000;"
        + "machine 2;machine 0;spare 2 9 1;spare 3 8 -1;spare 0 7 -1;odds 1 0;lasts 0 60;odds 3 2;told 55 t;told 44 f;"
        + "bear 0 2 t;hand 6 5;hand 1 9;need 1 8;need 0 3;image 0;part 1 2 3 2;say 3 1 9 9 9;write 43;write 49";

    private static final List<Long> READY_LOOK = ready().look(), FULL_LOOK = allFull().look();

    public static void main(String[] args) {
        taken();
        full();
        others();
        empty();
        Due.end("EdgesTest");
    }

    private static Both ready() {
        return new Both().go(READY);
    }

    /** All lists full: parts 0 to 5 in the first and in the last chain. */
    private static Both allFull() {
        Both x = new Both().go("family 1 100 10 100");
        for (int i = 0; i < 24; i++) x.go("part 50 50 50 1");
        for (int i = 0; i < 60; i++) x.go("write 32");
        for (int i = 0; i < 60; i++) x.go("say 1 1 500 10 0");
        for (int i = 0; i < 16; i++) x.go("chain 0 500");
        for (int i = 0; i < 6; i++) x.go("link 0 " + i + " f;link 15 " + i + " t");
        for (int i = 0; i < 8; i++) x.go("work 1 1 1 3000");
        for (int i = 0; i < 6; i++) x.go("machine " + i % 4);
        for (int i = 0; i < 9; i++) x.go("spare " + i % 4 + " 5 -1");
        for (int i = 0; i < 40; i++) x.go("told 50 f");
        for (int i = 0; i < 3; i++) x.go("hand 1 1");
        return x;
    }

    /** A call taken by both, and the whole state then as the plain one has it. */
    private static void taken(String call, long refusal) {
        Both x = ready();
        Due.holds(call + " is as told", x.ask(call) != refusal);
        x.look();
    }

    private static void refused(String call, long refusal) {
        Both x = ready().refused(call, refusal);
        Due.holds(call + " changes nothing", x.look().equals(READY_LOOK));
    }

    private static void refusedFull(String call, long refusal) {
        Both x = allFull().refused(call, refusal);
        Due.holds(call + " changes nothing", x.look().equals(FULL_LOOK));
    }

    /** Every number of a row such as "worn 1:0..3 50:0..99" put to its edges and beside them, one at a time. */
    private static List<String> beside(String row, boolean within) {
        List<String> calls = new ArrayList<>();
        String[] words = row.split(" ");
        for (int i = 1; i < words.length; i++) {
            if (!words[i].contains(":")) continue;
            String[] edges = words[i].substring(words[i].indexOf(':') + 1).split("\\.\\.");
            long low = Long.parseLong(edges[0]);
            long high = Long.parseLong(edges[1]);
            long[] numbers = within ? new long[] {low, high}
                : new long[] {low - 1, high + 1, Integer.MIN_VALUE, Integer.MAX_VALUE};
            for (long number : numbers) {
                boolean fair = low <= number && number <= high;
                if (fair != within || number < Integer.MIN_VALUE || number > Integer.MAX_VALUE) continue;
                String[] call = words.clone();
                call[i] = "" + number;
                calls.add(String.join(" ", call).replaceAll(":\\S+", ""));
            }
        }
        return calls;
    }

    private static void row(String row, long refusal) {
        for (String call : beside(row, true)) taken(call, refusal);
        for (String call : beside(row, false)) refused(call, refusal);
    }

    private static void row(String row) {
        row(row, -2);
    }

    private static void taken() {
        int most = Integer.MAX_VALUE;
        String any = Integer.MIN_VALUE + ".." + most;
        row("part 5:0..100 5:1..100 5:0..99 1:-1..3");
        row("family 1:0..3 1:1..100000 1:1..100000 1:1..100000");
        row("write 121:0..127");
        row("worn 1:0..3 50:0..99");
        row("say 1:0..3 0:0..3 50:-10000..100000 5:0..10000 9:0..99");
        row("say 1:0..3 1 50:-10000..100000 5:0..10000 9:" + any);
        row("say 1:0..3 2 50:-10000..100000 5:" + any + " 9:" + any);
        row("say 1:0..3 3 50:-10000..100000 5:" + any + " 9:" + any);
        row("deny 1:0..5 t");
        row("first 1:0..3 1:0..2");
        row("quarrel 1:0..3 0:-1.." + most, -10);
        row("chain 0:-100000..100000 100000");
        row("chain -100000 0:-100000..100000");
        row("link 1:0..1 2 t");
        row("link 0 2:2..3 t");
        row("link 1 0:0..3 f");
        row("sum 0:0..1 9:0..99 1:0..2", -2100000000);
        row("stands 0:0..0 1 9:0..99");
        row("stands 2:2..3 1 9");
        row("stands 1 0:0..0 9:0..99");
        row("stands 1 2:2..3 9");
        row("life 0:0..1 9:0..99");
        row("work 5:1..500 5:1..1000 9:1..3000 3000");
        row("work -5:-500..-1 5 1 9:1..3000");
        row("way 9:1..3000 9:1..3000 3000 0:-2.." + most, -10);
        row("way 9 1 9:1..3000 0:-2.." + most, -10);
        row("machine 1:0..3");
        row("spare 1:0..3 9:1..50 1:-1..3");
        row("taking 0:-1..1", -10);
        row("odds 1:0..9 1:0..9");
        row("lasts 1:0..3 9:0..60");
        row("half 1:0..3");
        row("limbs 0:0..1");
        row("limb 0:0..1 0:0.." + most);
        row("told 9:0..100 t");
        row("bear 0:0..0 1 t");
        row("bear 2:2..3 1 t");
        row("bear 1 0:0..0 t");
        row("bear 1 2:2..3 t");
        row("along 1:0..3");
        row("hand 5:0..15 5:0..9");
        row("need 1:0..3 5:0..9");
        row("plan 3:1..8 -1", -10);
        for (int n = 1; n <= 8; n++) row("plan " + n + " 0:-1.." + (n - 1), -10);
        row("image 0:0..1");
        row("from 0:0..1");
        row("count 0:0..9");
    }

    private static void fullRow(String row) {
        for (String call : beside(row, true)) refusedFull(call, -4);
        for (String call : beside(row, false)) refusedFull(call, -2);
    }

    /** One more than there may be is refused; a number that is not as told is told first. */
    private static void full() {
        fullRow("part 5:0..100 5:1..100 5:0..99 1:-1..3");
        fullRow("write 121:0..127");
        fullRow("say 1:0..23 0:0..3 50:-10000..100000 5:0..10000 9:0..99");
        fullRow("chain 0:-100000..100000 100000");
        fullRow("chain -100000 0:-100000..100000");
        refusedFull("chain 1 0", -2);
        fullRow("link 0 10:6..23 t");
        fullRow("link 15 10:6..23 f");
        refusedFull("link -1 6 f", -2);
        refusedFull("link 16 6 f", -2);
        fullRow("work 5:1..500 5:1..1000 9:1..3000 3000");
        fullRow("work -5:-500..-1 5 1 9:1..3000");
        refusedFull("work 5 5 2 1", -2);
        fullRow("machine 1:0..3");
        fullRow("spare 1:0..3 9:1..50 1:-1..3");
        fullRow("told 9:0..100 t");
        fullRow("hand 5:0..15 5:0..9");
    }

    private static void refusedEach(long refusal, String calls) {
        for (String call : calls.split(";")) refused(call, refusal);
    }

    /** What a promise refuses beyond the edges of one number; and BAD where a call is refused for NO as well. */
    private static void others() {
        refusedEach(-2, "family 1 2 1 100000;family 1 100000 1 2;family 1 1 100000 2;family 1 1 50000 3;"
            + "family 1 100000 100000 100000;family 1 1 2 50001");
        // as ints these last sizes are 1, 100 and 0
        refusedEach(-2, "family 1 1 65536 65537;family 1 100 65536 65537;family 1 65536 65535 65537");
        for (String call : "family 1 1 1 100000;family 1 100000 100000 1;family 1 1 99999 2;family 1 2 2 50000;"
                .split(";")) {
            taken(call, -2);
        }
        refusedEach(-2, "chain 1 0;chain 100000 99999;chain -99999 -100000;chain 100000 -100000");
        refusedEach(-2, "link 0 0 f;link 0 0 t;link 0 1 f;stands 0 0 5;stands 3 3 5;bear 0 0 t;bear 3 3 t");
        refusedEach(-2, "work 0 1 1 1;work 1 1 2 1;work 1 1 3000 2999;work 0 0 0 0");
        refusedEach(-3, "deny 2 t;deny 0 f;deny 5 f;bear 0 2 t;bear 2 0 f;bear 1 3 f;from 1");
        refusedEach(-2, "bear 1 1 f;bear 0 4 f;bear -1 0 f;deny 6 f;deny -1 f;from 2;from -1");
        refusedEach(-10, "quarrel 1 -2;quarrel 1 -4;quarrel 4 -3;quarrel -1 -3;way 9 10 9 -1;way 9 3000 1 -2");
        for (int part = 0; part < 4; part++) taken("quarrel " + part + " -3", -10);
    }

    private static void dueEach(Both x, long want, String calls) {
        for (String call : calls.split(";")) x.refused(call, want);
    }

    /** With nothing there, what asks for a part, a saying, a chain or a machine is refused. */
    private static void empty() {
        Both x = new Both();
        dueEach(x, -2, "worn 0 0;say 0 0 0 0 0;say 0 1 0 0 0;say 0 2 0 0 0;say 0 3 0 0 0;deny 0 t;deny 0 f;first 0 0");
        dueEach(x, -2, "link 0 0 t;stands 0 1 0;life 0 0;lasts 0 0;half 0;bear 0 1 t;bear 0 1 f;along 0");
        dueEach(x, -10, "quarrel 0 -1;quarrel 0 -3;taking 0");
        dueEach(x, -2100000000, "sum 0 0 0;sum 0 0 1;sum 0 0 2");
        dueEach(x, -3, "from 0;from 1");
        dueEach(x, 0, "erase;scrap");
        Due.is("as new", x.ask("digest"), new OldWorks().digest());
    }
}
