/** Promises 12 to 18: chains of fits, what stands for what, works. */
public final class ChainsTest {
    public static void main(String[] args) {
        promise12();
        promise13();
        promise14();
        promise15();
        promise16();
        promise17();
        promise18();
        promise18Last();
        promise18Ties();
        Due.end("ChainsTest");
    }

    /** Parts 0 .. n-1 put in in the year 0, with first sizes of 100 times their number and 100, and 1 more or less. */
    private static OldWorks withParts(int n) {
        OldWorks x = new OldWorks();
        for (int i = 0; i < n; i++) {
            Due.is("part", x.part(i, 1, 0, -1), i);
            Due.is("book", x.say(i, 1, 100 * (i + 1), 1, 0), i);
        }
        return x;
    }

    private static void promise12() {
        OldWorks x = new OldWorks();
        Due.is("low", x.chain(-100001, 0), -2);
        Due.is("high", x.chain(0, 100001), -2);
        Due.is("low above high", x.chain(1, 0), -2);
        Due.is("none", x.count(3), 0);
        Due.is("widest", x.chain(-100000, 100000), 0);
        Due.is("narrowest", x.chain(5, 5), 1);
        Due.is("no parts: does not hold", x.sum(1, 0, 2), 0);
        Due.is("no parts: holds", x.sum(0, 0, 2), 1);
        for (int i = 2; i < 16; i++) Due.is("chain " + i, x.chain(0, 0), i);
        Due.is("full", x.chain(0, 0), -4);
        Due.is("bad before full", x.chain(1, 0), -2);
        Due.is("16", x.count(3), 16);
    }

    private static void promise13() {
        OldWorks x = withParts(8);
        Due.is("no chain", x.link(0, 0, false), -2);
        Due.is("chain", x.chain(0, 0), 0);
        Due.is("chain -1", x.link(-1, 0, false), -2);
        Due.is("chain 1", x.link(1, 0, false), -2);
        Due.is("part -1", x.link(0, -1, false), -2);
        Due.is("part 8", x.link(0, 8, false), -2);
        for (int i = 0; i < 6; i++) {
            Due.is("link " + i, x.link(0, i, i == 3), i + 1);
            Due.is("it is in it", x.link(0, i, false), -2);
        }
        Due.is("full", x.link(0, 6, false), -4);
        Due.is("bad before full", x.link(0, 5, false), -2);
        Due.is("six parts", x.sum(0, 0, 0), 100 + 200 + 300 - 400 + 500 + 600 - 6);
        Due.is("another chain", x.chain(0, 0), 1);
        Due.is("in another chain", x.link(1, 5, true), 1);
    }

    private static void promise14() {
        OldWorks x = withParts(3);
        Due.is("chain", x.chain(57, 139), 0);
        Due.is("add", x.link(0, 1, false), 1);
        Due.is("take off", x.link(0, 0, true), 2);
        Due.is("chain -1", x.sum(-1, 0, 0), -2100000000);
        Due.is("chain 1", x.sum(1, 0, 0), -2100000000);
        Due.is("year -1", x.sum(0, -1, 0), -2100000000);
        Due.is("year 100", x.sum(0, 100, 0), -2100000000);
        Due.is("what -1", x.sum(0, 0, -1), -2100000000);
        Due.is("what 3", x.sum(0, 0, 3), -2100000000);
        Due.is("least", x.sum(0, 0, 0), 98);
        Due.is("greatest", x.sum(0, 0, 1), 102);
        Due.is("both wear alike", x.sum(0, 50, 0), 98);
        Due.write(x, "y*l");
        Due.is("least", x.sum(0, 37, 0), 98 - 37);
        Due.is("greatest", x.sum(0, 37, 1), 102 - 37);
        Due.is("holds at its bound", x.sum(0, 41, 2), 1);
        Due.is("least at its bound", x.sum(0, 41, 0), 57);
        Due.is("below its bound", x.sum(0, 42, 2), 0);
        Due.is("none of part 0", x.say(0, 1, 500, 0, 0), 3);
        Due.is("least of none", x.sum(0, 0, 0), -2000000000);
        Due.is("greatest of none", x.sum(0, 0, 1), -2000000000);
        Due.is("does not hold", x.sum(0, 0, 2), 0);
        OldWorks z = withParts(1);
        Due.is("chain", z.chain(99, 100), 0);
        Due.is("link", z.link(0, 0, false), 1);
        Due.is("greatest above high", z.sum(0, 0, 2), 0);
        Due.is("worn by one", z.sum(0, 1, 2), 0);
        Due.is("at high", z.chain(99, 101), 1);
        Due.is("link", z.link(1, 0, false), 1);
        Due.is("at high", z.sum(1, 0, 2), 1);
    }

    private static void promise15() {
        OldWorks x = withParts(3);
        Due.is("part 3", x.part(0, 1, 40, -1), 3);
        Due.is("like part 1 in the year 40", x.say(3, 1, 160, 1, 0), 3);
        Due.is("p -1", x.stands(-1, 0, 0), -2);
        Due.is("q -1", x.stands(0, -1, 0), -2);
        Due.is("p 4", x.stands(4, 0, 0), -2);
        Due.is("q 4", x.stands(0, 4, 0), -2);
        Due.is("alike", x.stands(1, 1, 0), -2);
        Due.is("year -1", x.stands(0, 1, -1), -2);
        Due.is("year 100", x.stands(0, 1, 100), -2);
        Due.is("in no chain", x.stands(0, 1, 0), 1);
        Due.is("chain", x.chain(159, 161), 0);
        Due.is("link", x.link(0, 1, false), 1);
        Due.is("its own wear: as put in", x.stands(3, 1, 40), 1);
        Due.is("its own wear: worn", x.stands(3, 1, 41), 0);
        Due.is("other size", x.stands(0, 1, 40), 0);
        Due.is("another chain", x.chain(-261, -259), 1);
        Due.is("off", x.link(1, 1, true), 1);
        Due.is("off", x.link(1, 0, true), 2);
        Due.is("all chains: 160 and 60", x.stands(3, 1, 40), 0);
        Due.is("with what it is with", x.stands(0, 1, 0), 0);
        OldWorks y = withParts(3);
        Due.is("a chain without it", y.chain(5, 6), 0);
        Due.is("its chain", y.chain(99, 101), 1);
        Due.is("link", y.link(1, 0, false), 1);
        Due.is("does not fit", y.stands(2, 0, 0), 0);
        Due.is("in none", y.stands(0, 2, 0), 1);
        OldWorks z = withParts(3);
        Due.is("chain", z.chain(-100000, 100000), 0);
        Due.is("link", z.link(0, 0, false), 1);
        Due.is("stands", z.stands(1, 0, 0), 1);
        Due.is("link", z.link(0, 1, false), 2);
        Due.is("both in one", z.stands(1, 0, 0), 0);
        Due.is("another one", z.stands(2, 0, 0), 1);
        Due.is("q has none", z.say(0, 1, 777, 0, 0), 3);
        Due.is("p's sizes", z.stands(2, 0, 0), 1);
        Due.is("p has none", z.say(2, 1, 777, 0, 0), 4);
        Due.is("p's sizes", z.stands(2, 0, 0), 0);
    }

    private static void promise16() {
        OldWorks x = withParts(1);
        Due.is("chain", x.chain(50, 90), 0);
        Due.is("link", x.link(0, 0, false), 1);
        Due.is("chain -1", x.life(-1, 0), -2);
        Due.is("chain 1", x.life(1, 0), -2);
        Due.is("year -1", x.life(0, -1), -2);
        Due.is("year 100", x.life(0, 100), -2);
        // from 99 - y and 101 - y: holds from the year 11 to the year 49
        Due.is("not yet", x.life(0, 10), 0);
        Due.is("all", x.life(0, 11), 39);
        Due.is("its last", x.life(0, 49), 1);
        Due.is("after", x.life(0, 50), 0);
        Due.is("wide", x.chain(-100000, 100000), 1);
        Due.is("to the end", x.life(1, 0), 100);
        Due.is("to the end", x.life(1, 99), 1);
        Due.write(x, "(y=30)*100");
        Due.is("wide", x.chain(99, 101), 2);
        Due.is("link", x.link(2, 0, false), 1);
        Due.is("a gap ends it", x.life(2, 20), 10);
        Due.is("in the gap", x.life(2, 30), 0);
        Due.is("behind it", x.life(2, 31), 69);
    }

    private static void promise17() {
        OldWorks x = new OldWorks();
        Due.is("more 0", x.work(0, 1, 1, 1), -2);
        Due.is("more -501", x.work(-501, 1, 1, 1), -2);
        Due.is("more 501", x.work(501, 1, 1, 1), -2);
        Due.is("price 0", x.work(1, 0, 1, 1), -2);
        Due.is("price 1001", x.work(1, 1001, 1, 1), -2);
        Due.is("low 0", x.work(1, 1, 0, 1), -2);
        Due.is("high 3001", x.work(1, 1, 1, 3001), -2);
        Due.is("low above high", x.work(1, 1, 2, 1), -2);
        Due.is("none", x.count(4), 0);
        Due.is("least", x.work(-500, 1, 1, 1), 0);
        Due.is("greatest", x.work(500, 1000, 3000, 3000), 1);
        for (int i = 2; i < 8; i++) Due.is("work " + i, x.work(1, 1, 1, 3000), i);
        Due.is("full", x.work(1, 1, 1, 3000), -4);
        Due.is("bad before full", x.work(0, 1, 1, 3000), -2);
    }

    private static void promise18() {
        OldWorks x = new OldWorks();
        Due.is("size 0", x.way(0, 1, 1, -1), -10);
        Due.is("size 3001", x.way(3001, 1, 1, -1), -10);
        Due.is("low 0", x.way(1, 0, 1, -1), -10);
        Due.is("high 3001", x.way(1, 1, 3001, -1), -10);
        Due.is("low above high", x.way(1, 2, 1, -1), -10);
        Due.is("what -3", x.way(1, 1, 1, -3), -10);
        Due.is("there already", x.way(1, 1, 1, -1), 0);
        Due.is("there already", x.way(3000, 1, 3000, -2), 0);
        Due.is("there already", x.way(1, 1, 1, 0), -1);
        Due.is("no way", x.way(1, 2, 2, -1), -5);
        Due.is("no way", x.way(1, 2, 2, -2), -5);
        Due.is("no way", x.way(1, 2, 2, 0), -5);
        Due.is("one more", x.work(1, 3, 1, 3000), 0);
        Due.is("five", x.way(1, 6, 9, -1), 15);
        Due.is("five", x.way(1, 6, 9, -2), 5);
        Due.is("fifth", x.way(1, 6, 9, 4), 0);
        Due.is("no sixth", x.way(1, 6, 9, 5), -1);
        Due.is("no sixth", x.way(1, 6, 9, Integer.MAX_VALUE), -1);
        Due.is("six are too many", x.way(1, 7, 9, -1), -5);
        Due.is("not above 3000", x.work(10, 1, 2995, 2995), 1);
        Due.is("not above 3000", x.work(-9, 1, 1, 3000), 2);
        Due.is("not above 3000", x.way(2995, 2996, 2996, -1), 3);
        Due.is("not below 1", x.way(5, 1, 4, -1), -5);
        Due.is("at its low", x.work(100, 1, 50, 60), 3);
        Due.is("at its low", x.way(50, 150, 150, -1), 1);
        Due.is("at its high", x.way(60, 160, 160, -1), 1);
        Due.is("above its high", x.way(61, 161, 161, -1), -5);
        Due.is("round about", x.way(61, 153, 154, -1), 1 + 1 + 3);
        // 1, -9, 100 comes before -9, 100, 1
        Due.is("by numbers", x.way(61, 153, 154, 0), 0);
        Due.is("by numbers", x.way(61, 153, 154, 1), 2);
        Due.is("by numbers", x.way(61, 153, 154, 2), 3);
    }

    private static void promise18Last() {
        OldWorks x = new OldWorks();
        for (int i = 0; i < 7; i++) Due.is("for other sizes", x.work(1, 1, 2000 * (i % 2) + 1, 2000 * (i % 2) + 9), i);
        Due.is("the last", x.work(1, 1000, 1, 3000), 7);
        Due.is("five of the last", x.way(20, 25, 25, -1), 5000);
        for (int i = 0; i < 5; i++) Due.is("five of the last", x.way(20, 25, 25, i), 7);
        Due.is("within 3000", x.way(2996, 3000, 3000, -2), 4);
        Due.is("within 3000", x.way(2996, 3000, 3000, 4), -1);
    }

    private static void promise18Ties() {
        OldWorks x = new OldWorks();
        Due.is("2 for 4", x.work(2, 4, 1, 3000), 0);
        Due.is("4 for 8", x.work(4, 8, 1, 3000), 1);
        Due.is("1 for 2", x.work(1, 2, 1, 3000), 2);
        Due.is("3 for 6", x.work(3, 6, 1, 3000), 3);
        Due.is("4: fewest", x.way(10, 14, 14, -2), 1);
        Due.is("4: price", x.way(10, 14, 14, -1), 8);
        Due.is("4: work 1", x.way(10, 14, 14, 0), 1);
        Due.is("5: two", x.way(10, 15, 15, -2), 2);
        Due.is("5: 0 then 3", x.way(10, 15, 15, 0), 0);
        Due.is("5: 0 then 3", x.way(10, 15, 15, 1), 3);
        Due.is("4 or 5: the cheaper", x.way(10, 14, 15, -1), 8);
        Due.is("dear", x.work(5, 11, 1, 3000), 4);
        Due.is("cheap before few", x.way(10, 15, 15, -1), 10);
        Due.is("cheap before few", x.way(10, 15, 15, -2), 2);
        Due.is("like price, few", x.work(5, 10, 1, 3000), 5);
        Due.is("like price, few", x.way(10, 15, 15, -2), 1);
        Due.is("like price, few", x.way(10, 15, 15, 0), 5);
        // 8 = 1 and 1 (4 and 4), 3 and 5 (3 and 5), 5 and 3
        Due.is("row", x.way(10, 18, 18, 0), 1);
        Due.is("row", x.way(10, 18, 18, 1), 1);
        Due.is("like work, later", x.work(5, 10, 1, 3000), 6);
        Due.is("the first of like ones", x.way(10, 15, 15, 0), 5);
        // of two sizes of the span with like prices and many: the first row, whichever size it leads to
        OldWorks z = new OldWorks();
        Due.is("7 more", z.work(7, 5, 1, 3000), 0);
        Due.is("6 more", z.work(6, 5, 1, 3000), 1);
        Due.is("first row", z.way(100, 106, 107, 0), 0);
        Due.is("first row of two", z.way(100, 112, 113, 0), 0);
        Due.is("first row of two", z.way(100, 112, 113, 1), 1);
    }
}
