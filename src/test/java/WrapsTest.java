/** Longs that wrap in the law of wear, divisions by 0, what is told 0 .. 10000; numbers that would wrap elsewhere. */
public final class WrapsTest {
    /** 2 to the 63 and less, as products of numbers of six digits at most. */
    private static final String LEAST = "524288*524288*524288*64";

    public static void main(String[] args) {
        sums();
        products();
        quotients();
        compared();
        truths();
        told();
        years();
        values();
        digest();
        Due.end("WrapsTest");
    }

    private static void worn(String law, long want) {
        Due.holds(law + " has 60 characters at most", law.length() <= 60);
        Both x = new Both().go("part 30 7 10 -1").write(law).due("fault", -1);
        Due.is("worn by " + law, x.ask("worn 0 15"), want);
    }

    private static void sums() {
        worn(LEAST, 0);
        worn(LEAST + "-1", 10000);
        worn(LEAST + "+1", 0);
        worn(LEAST + "-1+1", 0);
        worn(LEAST + "-1-0", 10000);
        worn(LEAST + "+" + LEAST, 0);
        worn(LEAST + "+" + LEAST + "+77", 77);
        worn("77-" + LEAST + "-" + LEAST, 77);
        worn("0-" + LEAST, 0);
        worn("0-" + LEAST + "-1", 10000);
    }

    private static void products() {
        worn("524288*524288*524288*128", 0);
        worn("524288*524288*524288*128+5", 5);
        worn("(65536*65536+1)*(65536*65536+1)-65536*65536*2", 1);
        // 2 to the 64 and 3 * 2 to the 62
        worn("524288*524288*524288*128*3", 0);
        worn("65536*65536*65536*16384*6/2", 0);
        worn("65536*65536*65536*16384*7/2", 0);
        worn("65536*65536*65536*16384*5/2", 10000);
        worn("999999*999999*999999*999999", clamped(999999L * 999999L * 999999L * 999999L));
        worn("999999*999999*999999*999999/999999/999999", clamped(999999L * 999999L * 999999L * 999999L / 999999 / 999999));
        worn("999983*999983*999983*999983*999983/999999/999999/99999", product());
        worn("999983*999983*999983*999983*999983*-1/999999/999999/999", negated());
    }

    private static long product() {
        long n = 999983;
        return clamped(n * n * n * n * n / 999999 / 999999 / 99999);
    }

    private static long negated() {
        long n = 999983;
        return clamped(n * n * n * n * n * -1 / 999999 / 999999 / 999);
    }

    private static long clamped(long n) {
        return Math.max(0, Math.min(10000, n));
    }

    private static void quotients() {
        // the one division that wraps
        worn(LEAST + "/-1", 0);
        worn(LEAST + "/-1<0", 1);
        worn(LEAST + "/-1=" + LEAST, 1);
        worn(LEAST + "/(0-1)+1<0", 1);
        worn("(" + LEAST + "-1)/-1<0", 1);
        worn(LEAST + "/0", 0);
        worn(LEAST + "/0+9", 9);
        worn(LEAST + "/" + LEAST, 0);
        worn("(" + LEAST + ")/(" + LEAST + ")+3", 4);
        worn("5/0", 0);
        worn("5/(3-3)+2", 2);
        worn("5/(y-5)+2", 2);
        worn("0/0+1", 1);
        worn("5/!1+4", 4);
        worn("-5/0+4", 4);
        // cut toward 0
        worn("-7/2+9", 6);
        worn("7/-2+9", 6);
        worn("-7/-2", 3);
        worn("-1/2+9", 9);
        worn("1/-2+9", 9);
        worn("7/2", 3);
        worn("(0-1)/1000+9", 9);
    }

    private static void compared() {
        worn(LEAST + "<0", 1);
        worn(LEAST + ">0", 0);
        worn(LEAST + "-1>0", 1);
        worn(LEAST + "-1<" + LEAST, 0);
        worn(LEAST + "<" + LEAST + "-1", 1);
        worn(LEAST + "=" + LEAST, 1);
        worn("0-" + LEAST + "=" + LEAST, 1);
        // alike in their lower 32 bits
        worn("65536*65536=0", 0);
        worn("65536*65536+7=7", 0);
        worn("65536*65536>0", 1);
        worn("0-65536*65536<0", 1);
        worn("65536*32768>0", 1);
        worn("65536*32768<65536*65536", 1);
    }

    private static void truths() {
        worn("!" + "(65536*65536)+4", 4);
        worn("65536*65536&1", 1);
        worn("0|65536*65536", 1);
        worn("65536*65536|0", 1);
        worn("524288*524288*524288*128|0", 0);
        worn("1&524288*524288*524288*128", 0);
        worn("!(524288*524288*524288*128)", 1);
        worn("-(" + LEAST + ")", 0);
        worn("-(" + LEAST + ")<0", 1);
        worn("--(" + LEAST + ")<0", 1);
        worn("-(" + LEAST + "-1)<0", 1);
        worn("-1&-1", 1);
        worn("-1|0", 1);
        worn("!-1", 0);
        worn("-!0+5", 4);
        worn("9&8", 1);
        worn("9|8", 1);
        worn("0&9", 0);
    }

    /** What it tells, 0 .. 10000, of longs, not of ints. */
    private static void told() {
        worn("10000", 10000);
        worn("9999", 9999);
        worn("10001", 10000);
        worn("999999", 10000);
        worn("0", 0);
        worn("1", 1);
        worn("-1", 0);
        worn("0-0", 0);
        worn("65536*65536", 10000);
        worn("65536*65536+5", 10000);
        worn("5-65536*65536", 0);
        worn("65536*32768", 10000);
        worn("65536*32768+9", 10000);
        worn("0-65536*32768-1", 0);
        worn("0-65536*65536*2+7", 0);
        worn("000000", 0);
        worn("000001", 1);
        worn("99*999999/999999", 99);
    }

    /** y: 0 up to the year in which it was put in, 99 at most. */
    private static void years() {
        Both x = new Both().go("part 0 1 0 -1;part 100 100 99 -1;part 50 50 50 -1");
        x.due("worn 0 0", 0).due("worn 0 1", 1).due("worn 0 99", 99);
        x.due("worn 1 0", 0).due("worn 1 98", 0).due("worn 1 99", 0);
        x.due("worn 2 49", 0).due("worn 2 50", 0).due("worn 2 51", 1).due("worn 2 99", 49).due("worn 2 0", 0);
        x.write("y*99+l+h").due("worn 0 99", 9802).due("worn 1 99", 200).due("worn 2 51", 199).due("worn 2 0", 100);
        x.write("*").due("worn 0 99", 99).due("worn 1 99", 0).due("worn 2 51", 1).due("worn 2 0", 0);
        x.write("2").due("worn 0 99", 9803).due("worn 1 0", 300);
        x.due("erase", 10).write("y*y*9").due("worn 0 33", 9801).due("worn 0 34", 10000).due("worn 0 99", 10000);
    }

    /** Sums, sizes and numbers that are as told, at their edges. */
    private static void values() {
        Both x = new Both();
        for (int i = 0; i < 6; i++) x.go("part 0 1 0 -1;say " + i + " 3 100000 0 0");
        x.write("10000").go("chain -100000 100000;chain -100000 100000");
        for (int i = 0; i < 6; i++) x.go("link 0 " + i + " f;link 1 " + i + " t");
        x.due("sum 0 0 0", 540000).due("sum 0 0 1", 540000).due("sum 1 0 0", -540000).due("sum 1 0 1", -540000);
        x.due("sum 0 0 2", 0).due("sum 1 0 2", 0).due("life 0 0", 0);
        Both z = new Both();
        for (int i = 0; i < 6; i++) z.go("part 0 1 0 -1");
        z.write("10000").go("chain -100000 100000;chain -100000 100000");
        for (int i = 0; i < 6; i++) z.go("link 0 " + i + " f;link 1 " + i + " t");
        z.due("sum 0 0 0", -59994).due("sum 0 0 1", 540000).due("sum 1 0 0", -540000).due("sum 1 0 1", 59994);
        for (int i = 0; i < 6; i++) z.go("say " + i + " 2 10000 0 0");
        z.due("sum 0 0 1", 0).due("sum 0 0 2", 1).due("sum 1 0 0", 0).due("sum 1 0 2", 1).due("life 0 0", 100);
        // a measure of -10000 worn 10000: first sizes of 0, less or more 10000
        z.due("say 0 0 -10000 0 0", 6).due("first 0 2", 0).due("deny 6 t", 1).due("say 0 0 -10000 1 0", 7);
        z.due("first 0 0", 1).due("first 0 1", 1).due("say 1 0 100000 10000 99", 8).due("first 1 2", 0);
        z.due("quarrel 1 -3", 1).due("quarrel 1 -1", 1).due("quarrel 1 0", 8);
        z.due("deny 1 t", 1).due("first 1 0", 100000).due("say 1 1 100000 0 0", 9).due("first 1 2", 1);
        z.due("say 1 1 -10000 10000 0", 10).due("first 1 2", 0).due("quarrel 1 -3", 100000).due("quarrel 1 0", 10);
    }

    /** h wraps: after some hundred values it is what longs make of it. */
    private static void digest() {
        Both x = new Both();
        for (int i = 0; i < 24; i++) x.go("part 100 100 99 3");
        for (int i = 0; i < 60; i++) x.go("write 127");
        for (int i = 0; i < 60; i++) x.go("say 23 0 -10000 10000 99");
        x.ask("digest");
        x.go("chain -100000 -100000").ask("digest");
    }
}
