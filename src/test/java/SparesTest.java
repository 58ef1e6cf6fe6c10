import java.math.BigInteger;

/** Promises 19 to 31: machines, spares, odds of breaking, what a break takes along. */
public final class SparesTest {
    public static void main(String[] args) {
        promise19();
        promise20();
        promise21();
        promise22();
        promise22Pairs();
        promise23();
        promise24();
        promise25();
        promise26And27();
        promise28();
        promise29();
        promise30();
        promise31();
        Due.end("SparesTest");
    }

    private static void promise19() {
        OldWorks x = new OldWorks();
        Due.is("-1", x.machine(-1), -2);
        Due.is("4", x.machine(4), -2);
        Due.is("none", x.count(5), 0);
        for (int i = 0; i < 6; i++) Due.is("machine " + i, x.machine(i % 4), i);
        Due.is("full", x.machine(0), -4);
        Due.is("bad before full", x.machine(4), -2);
    }

    private static void promise20() {
        OldWorks x = new OldWorks();
        Due.is("kind -1", x.spare(-1, 1, -1), -2);
        Due.is("kind 4", x.spare(4, 1, -1), -2);
        Due.is("years 0", x.spare(0, 0, -1), -2);
        Due.is("years 51", x.spare(0, 51, -1), -2);
        Due.is("pair -2", x.spare(0, 1, -2), -2);
        Due.is("pair 4", x.spare(0, 1, 4), -2);
        Due.is("none", x.count(6), 0);
        Due.is("least", x.spare(0, 1, -1), 0);
        Due.is("greatest", x.spare(3, 50, 3), 1);
        for (int i = 2; i < 9; i++) Due.is("spare " + i, x.spare(1, 2, -1), i);
        Due.is("full", x.spare(0, 1, -1), -4);
        Due.is("bad before full", x.spare(0, 0, -1), -2);
    }

    private static void promise21() {
        OldWorks x = new OldWorks();
        Due.is("nothing", x.scrap(), 0);
        Due.is("machine", x.machine(1), 0);
        Due.is("spare", x.spare(1, 30, 2), 0);
        Due.is("spare", x.spare(0, 30, 2), 1);
        Due.is("all", x.scrap(), 3);
        Due.is("machines", x.count(5), 0);
        Due.is("spares", x.count(6), 0);
        Due.is("anew", x.machine(0), 0);
        Due.is("anew", x.spare(0, 7, 2), 0);
        Due.is("the old pair is gone", x.taking(-1), 7);
    }

    private static void row(OldWorks x, int years, int... spares) {
        Due.is("years", x.taking(-1), years);
        for (int i = 0; i < spares.length; i++) Due.is("spare of machine " + i, x.taking(i), spares[i]);
    }

    private static void promise22() {
        OldWorks x = new OldWorks();
        Due.is("none there", x.taking(-1), 0);
        Due.is("what -2", x.taking(-2), -10);
        Due.is("what 0", x.taking(0), -10);
        Due.is("machine", x.machine(0), 0);
        Due.is("what 1", x.taking(1), -10);
        row(x, 0, -1);
        Due.is("spare of another kind", x.spare(1, 50, -1), 0);
        row(x, 0, -1);
        Due.is("spare", x.spare(0, 10, -1), 1);
        Due.is("spare", x.spare(0, 20, -1), 2);
        row(x, 20, 2);
        Due.is("another machine", x.machine(0), 1);
        row(x, 30, 1, 2);
        Due.is("another machine", x.machine(0), 2);
        row(x, 30, -1, 1, 2);
        Due.is("like years", x.spare(0, 10, -1), 3);
        row(x, 40, 1, 2, 3);
        OldWorks z = new OldWorks();
        for (int i = 0; i < 6; i++) Due.is("machine", z.machine(2), i);
        for (int i = 0; i < 9; i++) Due.is("spare", z.spare(2, 50 - i, -1), i);
        row(z, 50 + 49 + 48 + 47 + 46 + 45, 0, 1, 2, 3, 4, 5);
        OldWorks y = new OldWorks();
        for (int i = 0; i < 6; i++) Due.is("machine", y.machine(i % 2), i);
        for (int i = 0; i < 9; i++) Due.is("spare", y.spare(i % 2, 42 + i, -1), i);
        OldWorks w = new OldWorks();
        for (int kind = 0; kind < 4; kind++) Due.is("machine", w.machine(kind), kind);
        for (int kind = 3; kind >= 0; kind--) Due.is("spare", w.spare(kind, 10 + kind, -1), 3 - kind);
        row(w, 46, 3, 2, 1, 0);
        row(y, 42 + 3 + 4 + 5 + 6 + 7 + 8 + 5 * 42, 4, 3, 6, 5, 8, 7);
    }

    private static void promise22Pairs() {
        OldWorks x = new OldWorks();
        Due.is("machine", x.machine(0), 0);
        Due.is("machine", x.machine(0), 1);
        Due.is("a pair's one", x.spare(0, 50, 0), 0);
        Due.is("alone in its pair", x.taking(-1), 50);
        Due.is("a pair's other, of a kind that none needs", x.spare(1, 50, 0), 1);
        row(x, 0, -1, -1);
        Due.is("no pair", x.spare(0, 3, -1), 2);
        row(x, 3, -1, 2);
        Due.is("pair", x.spare(0, 2, 3), 3);
        Due.is("pair", x.spare(0, 2, 3), 4);
        row(x, 4, 3, 4);
        Due.is("its machine", x.machine(1), 2);
        row(x, 103, 0, 2, 1);
        Due.is("of a pair and of none", x.taking(-1), 103);
        Due.is("three in a pair, too", x.spare(0, 1, 0), 5);
        row(x, 101, 0, 5, 1);
    }

    private static void promise23() {
        OldWorks x = new OldWorks();
        Due.is("part", x.part(50, 1, 0, -1), 0);
        Due.is("a -1", x.odds(-1, 0), -2);
        Due.is("a 10", x.odds(10, 0), -2);
        Due.is("b -1", x.odds(0, -1), -2);
        Due.is("b 10", x.odds(0, 10), -2);
        Due.is("half", x.half(0), -1);
        Due.is("greatest", x.odds(9, 9), 1);
        Due.is("lasts", x.lasts(0, 1), 1);
        // odds of 459
        Due.is("above", x.limb(0, 0), 541);
        Due.is("below", x.limb(1, 0), 1000);
        Due.is("least", x.odds(0, 0), 1);
        Due.is("lasts", x.lasts(0, 1), 1);
        Due.is("above", x.limb(0, 0), 1);
        Due.is("below", x.limb(1, 0), 1);
    }

    private static void fraction(OldWorks x, int keeps, int n) {
        BigInteger above = BigInteger.valueOf(keeps).pow(n);
        BigInteger below = BigInteger.valueOf(1000).pow(n);
        BigInteger divisor = above.gcd(below);
        digits(x, 0, above.divide(divisor));
        digits(x, 1, below.divide(divisor));
    }

    private static void digits(OldWorks x, int which, BigInteger value) {
        int many = (value.bitLength() + 29) / 30;
        Due.is("limbs", x.limbs(which), many);
        for (int i = 0; i < many; i++) {
            int digit = value.shiftRight(30 * i).intValue() & (1 << 30) - 1;
            Due.is("limb " + i, x.limb(which, i), digit);
        }
        Due.is("no limb more", x.limb(which, many), -1);
    }

    private static void promise24() {
        OldWorks x = new OldWorks();
        Due.is("no part", x.lasts(0, 0), -2);
        Due.is("part", x.part(100, 1, 0, -1), 0);
        Due.is("part -1", x.lasts(-1, 0), -2);
        Due.is("n -1", x.lasts(0, -1), -2);
        Due.is("n 61", x.lasts(0, 61), -2);
        Due.is("still 0", x.limb(0, 0), 0);
        for (int a = 0; a < 10; a++) {
            for (int b = 0; b < 10; b += 3) {
                OldWorks z = new OldWorks();
                Due.is("part", z.part(100 - a, 1, 0, -1), 0);
                Due.is("odds", z.odds(a, b), 1);
                for (int n = 0; n <= 60; n += 15) {
                    Due.is("lasts", z.lasts(0, n), 1);
                    fraction(z, 1000 - a - b * (100 - a), n);
                }
            }
        }
    }

    private static void half(int load, int a, int b, int want) {
        OldWorks x = new OldWorks();
        Due.is("part", x.part(load, 1, 0, -1), 0);
        Due.is("odds", x.odds(a, b), 1);
        Due.is("half by " + a + ", " + b + ", " + load, x.half(0), want);
    }

    private static void promise25() {
        OldWorks x = new OldWorks();
        Due.is("no part", x.half(0), -2);
        Due.is("-1", x.half(-1), -2);
        half(0, 0, 9, -1);
        half(50, 3, 0, -1);
        half(50, 4, 0, 173);
        half(100, 0, 5, 1);
        half(62, 3, 8, 2);
        half(62, 2, 8, 2);
        half(100, 9, 9, 1);
        for (int load = 0; load <= 100; load += 7) {
            for (int b = 0; b < 10; b++) half(load, 1, b, plainHalf(1 + b * load));
        }
    }

    private static int plainHalf(int odds) {
        for (int n = 1; n <= 200; n++) {
            BigInteger above = BigInteger.valueOf(1000 - odds).pow(n).shiftLeft(1);
            if (above.compareTo(BigInteger.valueOf(1000).pow(n)) <= 0) return n;
        }
        return -1;
    }

    private static void promise26And27() {
        OldWorks x = new OldWorks();
        Due.is("limbs -1", x.limbs(-1), -2);
        Due.is("limbs 2", x.limbs(2), -2);
        Due.is("limb -1", x.limb(-1, 0), -2);
        Due.is("limb 2", x.limb(2, 0), -2);
        Due.is("i -1", x.limb(0, -1), -2);
        Due.is("i", x.limb(1, Integer.MAX_VALUE), -1);
        Due.is("part", x.part(1, 1, 0, -1), 0);
        Due.is("odds", x.odds(1, 0), 1);
        Due.is("lasts", x.lasts(0, 60), 1);
        fraction(x, 999, 60);
        Due.is("20 limbs", x.limbs(0), 20);
        Due.is("bad changes nothing", x.lasts(0, 61), -2);
        fraction(x, 999, 60);
    }

    private static void promise28() {
        OldWorks x = new OldWorks();
        Due.is("load -1", x.told(-1, true), -2);
        Due.is("load 101", x.told(101, false), -2);
        for (int i = 1; i <= 40; i++) Due.is("told " + i, x.told(i % 2 * 100, i % 3 == 0), i);
        Due.is("full", x.told(0, true), -4);
        Due.is("bad before full", x.told(101, true), -2);
        Due.is("40", x.count(7), 40);
    }

    private static void promise29() {
        OldWorks x = new OldWorks();
        Due.is("nothing told", x.fitted(), 0);
        Due.is("at rest it holds", x.told(0, false), 1);
        // odds of 0 may not be: A is 1, and B the first
        Due.is("A 1", x.fitted(), 10);
        Due.is("under load it breaks", x.told(100, true), 2);
        // 991 by 909 is more than 999 by 901
        Due.is("A 9, B 9", x.fitted(), 99);
        Due.is("at rest it holds", x.told(0, false), 3);
        Due.is("A 1, B 9", x.fitted(), 19);
        Due.is("at rest it breaks", x.told(0, true), 4);
        Due.is("A 9, B 9", x.fitted(), 99);
        OldWorks z = new OldWorks();
        for (int i = 0; i < 39; i++) Due.is("holds", z.told(100, false), i + 1);
        Due.is("least odds", z.fitted(), 10);
        Due.is("breaks once", z.told(100, true), 40);
        // 25 of 1000 would be the best; 9 and 0, or 0 and 1 (100): 9 by far
        Due.is("A 9", z.fitted(), 90);
    }

    private static void promise30() {
        OldWorks x = new OldWorks();
        Due.is("no parts", x.bear(0, 1, true), -2);
        for (int i = 0; i < 24; i++) Due.is("part", x.part(0, 1, 0, -1), i);
        Due.is("a -1", x.bear(-1, 1, true), -2);
        Due.is("b -1", x.bear(1, -1, true), -2);
        Due.is("a 24", x.bear(24, 1, true), -2);
        Due.is("b 24", x.bear(1, 24, true), -2);
        Due.is("alike", x.bear(3, 3, true), -2);
        Due.is("does not", x.bear(23, 0, false), -3);
        Due.is("bears", x.bear(23, 0, true), 1);
        Due.is("does", x.bear(23, 0, true), -3);
        Due.is("the other way round it does not", x.bear(0, 23, false), -3);
        Due.is("along", x.along(0), 1 << 23);
        Due.is("no more", x.bear(23, 0, false), 1);
        Due.is("along", x.along(0), 0);
    }

    private static void promise31() {
        OldWorks x = new OldWorks();
        Due.is("no part", x.along(0), -2);
        for (int i = 0; i < 24; i++) Due.is("part", x.part(0, 1, 0, -1), i);
        Due.is("-1", x.along(-1), -2);
        Due.is("24", x.along(24), -2);
        for (int i = 0; i < 23; i++) Due.is("bear", x.bear(i, i + 1, true), 1);
        Due.is("all below", x.along(23), (1 << 23) - 1);
        Due.is("one", x.along(1), 1);
        Due.is("none", x.along(0), 0);
        Due.is("round", x.bear(23, 0, true), 1);
        Due.is("all", x.along(5), (1 << 24) - 1);
        Due.is("round cut", x.bear(10, 11, false), 1);
        Due.is("from behind the cut", x.along(11), 0);
        Due.is("to the cut", x.along(10), (1 << 24) - 1 - (1 << 10));
    }
}
