/** Promises 1 to 11: a new object, parts, families, the law of wear, sayings. */
public final class PartsTest {
    public static void main(String[] args) {
        promise1();
        promise2();
        promise3();
        promise4();
        promise5();
        promise6();
        promise7();
        promise7Values();
        promise8();
        promise9();
        promise10();
        promise10Sixty();
        promise11();
        promise11Least();
        Due.end("PartsTest");
    }

    private static OldWorks withPart(int load, int hardness, int year, int family) {
        OldWorks x = new OldWorks();
        Due.is("part", x.part(load, hardness, year, family), 0);
        return x;
    }

    private static void promise1() {
        OldWorks x = new OldWorks();
        for (int what = 0; what < 10; what++) Due.is("new count " + what, x.count(what), 0);
        Due.is("new limb above", x.limb(0, 0), 0);
        Due.is("new limbs above", x.limbs(0), 1);
        Due.is("new limbs below", x.limbs(1), 1);
        Due.is("new limb below", x.limb(1, 0), 1);
        Due.is("new limb below 1", x.limb(1, 1), -1);
        Due.is("new taking", x.taking(-1), 0);
        Due.is("new plan", x.plan(8, -1), 0);
        Due.is("new fitted", x.fitted(), 0);
        Due.is("new fault", x.fault(), 1);
        Due.is("new from", x.from(0), -3);
        long h = 383;
        for (int what = 0; what < 10; what++) h = 31 * h;
        for (int family = 0; family < 4; family++) h = 31 * (31 * (31 * h + 1) + 1) + 100000;
        for (int i = 0; i < 6; i++) h = 31 * h;
        Due.is("new digest", x.digest(), h);
    }

    private static void promise2() {
        OldWorks x = new OldWorks();
        Due.is("load -1", x.part(-1, 1, 0, -1), -2);
        Due.is("load 101", x.part(101, 1, 0, -1), -2);
        Due.is("hardness 0", x.part(0, 0, 0, -1), -2);
        Due.is("hardness 101", x.part(0, 101, 0, -1), -2);
        Due.is("year -1", x.part(0, 1, -1, -1), -2);
        Due.is("year 100", x.part(0, 1, 100, -1), -2);
        Due.is("family -2", x.part(0, 1, 0, -2), -2);
        Due.is("family 4", x.part(0, 1, 0, 4), -2);
        Due.is("none was made", x.count(0), 0);
        Due.is("least", x.part(0, 1, 0, -1), 0);
        Due.is("greatest", x.part(100, 100, 99, 3), 1);
        for (int i = 2; i < 24; i++) Due.is("part " + i, x.part(5, 5, 5, 0), i);
        Due.is("full", x.part(5, 5, 5, 0), -4);
        Due.is("bad before full", x.part(5, 5, 5, 4), -2);
        Due.is("24", x.count(0), 24);
    }

    private static void promise3() {
        OldWorks x = withPart(0, 1, 0, 2);
        Due.is("family -1", x.family(-1, 1, 1, 1), -2);
        Due.is("family 4", x.family(4, 1, 1, 1), -2);
        Due.is("least 0", x.family(2, 0, 1, 1), -2);
        Due.is("least 100001", x.family(2, 100001, 1, 1), -2);
        Due.is("step 0", x.family(2, 1, 0, 1), -2);
        Due.is("many 0", x.family(2, 1, 1, 0), -2);
        Due.is("many 100001", x.family(2, 1, 1, 100001), -2);
        Due.is("last size 100001", x.family(2, 2, 1, 100000), -2);
        Due.is("last size wraps", x.family(2, 1, 99999, 99999), -2);
        Due.is("still all", x.first(0, 2), 100000);
        Due.is("last size 100000", x.family(2, 1, 1, 100000), 1);
        Due.is("one size", x.family(2, 100000, 100000, 1), 1);
        Due.is("one size", x.first(0, 0), 100000);
        Due.is("twos", x.family(2, 1, 99999, 2), 1);
        Due.is("two sizes", x.first(0, 2), 2);
        Due.is("two sizes", x.first(0, 1), 100000);
        Due.is("part of none", x.part(0, 1, 0, -1), 1);
        Due.is("part of none", x.first(1, 2), 100000);
    }

    private static void promise4() {
        OldWorks x = new OldWorks();
        Due.is("-1", x.write(-1), -2);
        Due.is("128", x.write(128), -2);
        Due.is("0", x.write(0), 1);
        Due.is("127", x.write(127), 2);
        for (int i = 2; i < 60; i++) Due.is("write " + i, x.write(' '), i + 1);
        Due.is("full", x.write(' '), -4);
        Due.is("bad before full", x.write(128), -2);
        Due.is("60", x.count(9), 60);
    }

    private static void promise5() {
        OldWorks x = withPart(0, 1, 0, -1);
        Due.is("nothing", x.erase(), 0);
        Due.write(x, "y*3");
        Due.is("worn", x.worn(0, 7), 21);
        Due.is("three", x.erase(), 3);
        Due.is("count", x.count(9), 0);
        Due.is("fault", x.fault(), 1);
        Due.is("worn", x.worn(0, 7), 7);
        Due.is("first again", x.write('y'), 1);
    }

    private static void fault(String law, int want) {
        OldWorks x = new OldWorks();
        Due.write(x, law);
        Due.is("fault of \"" + law + "\"", x.fault(), want);
    }

    private static void promise6() {
        fault("", 1);
        fault("   ", 31);
        fault("y", -1);
        fault(" y + l * h / 2 - 7 ", -1);
        fault("y+", 21);
        fault("(y", 21);
        fault("(y ", 31);
        fault("()", 11);
        fault("y)", 11);
        fault("y y", 21);
        fault("1 2", 21);
        fault("12y", 21);
        fault("y12", 11);
        fault("y(1)", 11);
        fault("+1", 1);
        fault("1+*2", 21);
        fault("--1", -1);
        fault("!-!1", -1);
        fault("1!", 11);
        fault("1!2", 11);
        fault("1~2", 11);
        fault("~2", 1);
        fault("x", 1);
        fault("Y", 1);
        fault("1\t", 11);
        fault("1<2", -1);
        fault("1<2<3", 31);
        fault("1=2 > 3", 41);
        fault("1<2+3=4", 51);
        fault("1<2&3<4|5=6", -1);
        fault("(1<2)<3", -1);
        fault("1<(2<3)", -1);
        fault("1==2", 21);
        fault("1||2", 21);
        fault("123456", -1);
        fault("1234567", 2);
        fault(" y+0000000", 32);
        fault("12345678 )", 2);
        fault("123456 7", 71);
        fault("((((((((1))))))))", -1);
        fault("(((((((((1)))))))))", 83);
        fault("((((((((1+(", 103);
        fault("((((((((1(", 91);
        fault("(1)+((((((((2))))))))", -1);
        fault("!-!-!-!-!-!-!-!-!-!-!-!-!-!-!-!-!-!-!-!-!-!-!-!-!-!-!-!-!-!1", -1);
        fault("!-!-!-!-!-!-!-!-!-!-!-!-!-!-!-!-!-!-!-!-!-!-!-!-!-!-!-!-!-!-", 601);
    }

    private static void promise7() {
        OldWorks x = withPart(30, 7, 10, -1);
        Due.is("part -1", x.worn(-1, 0), -2);
        Due.is("part 1", x.worn(1, 0), -2);
        Due.is("year -1", x.worn(0, -1), -2);
        Due.is("year 100", x.worn(0, 100), -2);
        Due.is("empty", x.worn(0, 99), 89);
        Due.is("before it was put in", x.worn(0, 3), 0);
        Due.write(x, "y*l/h+");
        Due.is("fault", x.worn(0, 30), 20);
        Due.is("ends", x.write('1'), 7);
        Due.is("law", x.worn(0, 30), 20 * 30 / 7 + 1);
        Due.is("law in the first year", x.worn(0, 10), 1);
        Due.is("law before", x.worn(0, 0), 1);
    }

    private static void worn(String law, int want) {
        OldWorks x = withPart(30, 7, 10, -1);
        Due.write(x, law);
        Due.is("worn by " + law, x.worn(0, 15), want);
    }

    private static void promise7Values() {
        worn("0-5", 0);
        worn("9999+1", 10000);
        worn("10001", 10000);
        worn("999999*999999*999999*1000", 10000);
        worn("1/0", 0);
        worn("7/0+3", 3);
        worn("(0-7)/2+10", 7);
        worn("7/(0-2)+10", 7);
        worn("-7/2+10", 7);
        worn("2+3*4", 14);
        worn("20-3-4", 13);
        worn("100/7/2", 7);
        worn("100/7*2", 28);
        worn("2*3+4*5", 26);
        worn("y", 5);
        worn("l", 30);
        worn("h", 7);
        worn("5|0", 1);
        worn("0|0", 0);
        worn("5&3", 1);
        worn("5&0", 0);
        worn("1|0&0", 1);
        worn("3<4", 1);
        worn("4<4", 0);
        worn("4>4", 0);
        worn("5>4", 1);
        worn("4=4", 1);
        worn("4=5", 0);
        worn("2+2=4", 1);
        worn("!5", 0);
        worn("!0", 1);
        worn("!0*7", 7);
        worn("!!9", 1);
        worn("--9", 9);
        worn("-!0+2", 1);
        worn("!-0", 1);
        worn("5--3", 8);
        worn("5-!3", 5);
        worn("(y>3)*40+(y<3)*50", 40);
        worn("0007", 7);
        worn("1 < 2 & 3 < 4", 1);
        worn("1<2|1/0", 1);
        worn("(0|3)*7", 7);
        worn("(0|0)*7+2", 2);
        worn("(2&3|0)*7", 7);
        worn("2*(3+4)*5", 70);
        worn("9-(3-(2-1))", 7);
        worn("1|2=3", 1);
        worn("5&2>1", 1);
        worn("999999*999999*999999*999999/-999999/999999/999", wrapped());
    }

    private static int wrapped() {
        long n = 999999L * 999999L * 999999L * 999999L / -999999 / 999999 / 999;
        return (int) Math.max(0, Math.min(10000, n));
    }

    private static void promise8() {
        OldWorks x = withPart(0, 1, 0, -1);
        Due.is("part -1", x.say(-1, 1, 0, 0, 0), -2);
        Due.is("part 1", x.say(1, 1, 0, 0, 0), -2);
        Due.is("sort -1", x.say(0, -1, 0, 0, 0), -2);
        Due.is("sort 4", x.say(0, 4, 0, 0, 0), -2);
        Due.is("v -10001", x.say(0, 1, -10001, 0, 0), -2);
        Due.is("v 100001", x.say(0, 1, 100001, 0, 0), -2);
        Due.is("e -1", x.say(0, 0, 0, -1, 0), -2);
        Due.is("e 10001", x.say(0, 1, 0, 10001, 0), -2);
        Due.is("year -1", x.say(0, 0, 0, 0, -1), -2);
        Due.is("year 100", x.say(0, 0, 0, 0, 100), -2);
        Due.is("none was said", x.count(1), 0);
        Due.is("measure", x.say(0, 0, -10000, 10000, 99), 0);
        Due.is("book without a year", x.say(0, 1, 100000, 0, -7), 1);
        Due.is("feel without e", x.say(0, 2, 5, -1, 1000), 2);
        Due.is("feel without e", x.say(0, 3, 5, 20000, -1), 3);
        for (int i = 4; i < 60; i++) Due.is("saying " + i, x.say(0, 3, 1, 0, 0), i);
        Due.is("full", x.say(0, 3, 1, 0, 0), -4);
        Due.is("bad before full", x.say(0, 4, 1, 0, 0), -2);
    }

    private static void promise9() {
        OldWorks x = withPart(0, 1, 0, -1);
        Due.is("none", x.deny(0, true), -2);
        Due.is("say", x.say(0, 1, 50, 0, 0), 0);
        Due.is("-1", x.deny(-1, true), -2);
        Due.is("1", x.deny(1, false), -2);
        Due.is("is not", x.deny(0, false), -3);
        Due.is("deny", x.deny(0, true), 1);
        Due.is("is", x.deny(0, true), -3);
        Due.is("all sizes", x.first(0, 2), 100000);
        Due.is("count", x.count(2), 1);
        Due.is("not any more", x.deny(0, false), 1);
        Due.is("one size", x.first(0, 2), 1);
        Due.is("count", x.count(2), 0);
    }

    private static void promise10() {
        OldWorks x = withPart(0, 1, 10, 1);
        Due.is("part -1", x.first(-1, 0), -2);
        Due.is("part 1", x.first(1, 0), -2);
        Due.is("what -1", x.first(0, -1), -2);
        Due.is("what 3", x.first(0, 3), -2);
        Due.is("all", x.first(0, 0), 1);
        Due.is("all", x.first(0, 1), 100000);
        Due.is("all", x.first(0, 2), 100000);
        Due.is("family", x.family(1, 10, 7, 5), 1);
        Due.is("least", x.first(0, 0), 10);
        Due.is("greatest", x.first(0, 1), 38);
        // worn 5 in the year 15: first sizes 20 to 30
        Due.is("measure", x.say(0, 0, 20, 5, 15), 0);
        Due.is("least", x.first(0, 0), 24);
        Due.is("greatest", x.first(0, 1), 24);
        Due.is("many", x.first(0, 2), 1);
        Due.is("of another part", x.part(0, 1, 0, 1), 1);
        Due.is("of another part", x.say(1, 1, 1, 0, 0), 1);
        Due.is("its own only", x.first(0, 2), 1);
        Due.is("at least", x.say(0, 3, 24, 0, 0), 2);
        Due.is("at most", x.say(0, 2, 24, 0, 0), 3);
        Due.is("both bounds are in", x.first(0, 2), 1);
        Due.is("at least", x.say(0, 3, 25, 0, 0), 4);
        Due.is("none", x.first(0, 0), -1);
        Due.is("none", x.first(0, 1), -1);
        Due.is("none", x.first(0, 2), 0);
        Due.is("least below 1", x.first(1, 0), -1);
    }

    private static void promise10Sixty() {
        OldWorks x = withPart(0, 1, 0, -1);
        for (int i = 0; i < 59; i++) Due.is("saying", x.say(0, 1, 500 + i, 100, 0), i);
        Due.is("least", x.first(0, 0), 458);
        Due.is("greatest", x.first(0, 1), 600);
        Due.is("the sixtieth", x.say(0, 1, 300, 160, 0), 59);
        Due.is("least", x.first(0, 0), 458);
        Due.is("greatest", x.first(0, 1), 460);
        Due.is("bounds far out", x.deny(59, true), 1);
        Due.is("sorts", x.first(0, 2), 143);
        OldWorks z = withPart(0, 1, 0, -1);
        Due.is("nothing allows it", z.say(0, 2, 0, 0, 0), 0);
        Due.is("nothing allows it", z.first(0, 2), 0);
        Due.is("not any more", z.deny(0, true), 1);
        Due.is("the greatest alone", z.say(0, 3, 100000, 0, 0), 1);
        Due.is("the greatest alone", z.first(0, 0), 100000);
        Due.is("the least alone", z.deny(1, true), 1);
        Due.is("the least alone", z.say(0, 2, 1, 0, 0), 2);
        Due.is("the least alone", z.first(0, 1), 1);
        Due.write(z, "10000");
        Due.is("deny", z.deny(2, true), 1);
        Due.is("measure", z.say(0, 0, -10000, 1, 0), 3);
        Due.is("worn 10000", z.first(0, 2), 1);
        Due.is("measure", z.say(0, 0, 100000, 10000, 0), 4);
        Due.is("worn 10000", z.first(0, 2), 0);
        Due.is("deny", z.deny(3, true), 1);
        Due.is("worn 10000", z.first(0, 0), 100000);
    }

    private static void promise11Least() {
        for (int turn = 0; turn < 2; turn++) {
            OldWorks x = withPart(0, 1, 0, 0);
            Due.is("family", x.family(0, 100, 10, 11), 1);
            Due.is("say", x.say(0, 1, turn == 0 ? 180 : 130, 5, 0), 0);
            Due.is("say", x.say(0, 1, turn == 0 ? 130 : 180, 5, 0), 1);
            Due.is("one against either: the least", x.quarrel(0, -3), 130);
            Due.is("the other one", x.quarrel(0, 0), 1 - (turn == 0 ? 1 : 0));
        }
        OldWorks z = withPart(0, 1, 0, 0);
        Due.is("family", z.family(0, 100, 10, 11), 1);
        Due.is("its upper bound is allowed", z.say(0, 2, 100, 0, 0), 0);
        Due.is("its lower bound is allowed", z.say(0, 3, 150, 0, 0), 1);
        Due.is("the least", z.quarrel(0, -3), 100);
        Due.is("against it", z.quarrel(0, 0), 1);
        Due.is("one against it", z.quarrel(0, 1), -1);
        OldWorks x = withPart(0, 1, 0, 0);
        Due.is("family", x.family(0, 100, 10, 11), 1);
        Due.is("behind the last", x.say(0, 3, 201, 0, 0), 0);
        Due.is("the last", x.say(0, 1, 205, 5, 0), 1);
        Due.is("the last", x.quarrel(0, -3), 200);
        Due.is("against it", x.quarrel(0, -1), 1);
        Due.is("against it", x.quarrel(0, 0), 0);
        Due.is("the least two", x.say(0, 2, 110, 0, 0), 2);
        Due.is("the least two", x.say(0, 2, 109, 0, 0), 3);
        Due.is("the least", x.quarrel(0, -3), 100);
    }

    private static void promise11() {
        OldWorks x = withPart(0, 1, 0, 0);
        Due.is("part -1", x.quarrel(-1, -1), -10);
        Due.is("part 1", x.quarrel(1, -1), -10);
        Due.is("what -2", x.quarrel(0, -2), -10);
        Due.is("what -4", x.quarrel(0, -4), -10);
        Due.is("none", x.quarrel(0, -1), 0);
        Due.is("the least size", x.quarrel(0, -3), 1);
        Due.is("not so many", x.quarrel(0, 0), -1);
        Due.is("family", x.family(0, 100, 10, 11), 1);
        Due.is("the least size", x.quarrel(0, -3), 100);
        Due.is("at most 120", x.say(0, 2, 120, 0, 0), 0);
        Due.is("at least 150", x.say(0, 3, 150, 0, 0), 1);
        Due.is("one each: the least size", x.quarrel(0, -3), 100);
        Due.is("one", x.quarrel(0, -1), 1);
        Due.is("it", x.quarrel(0, 0), 1);
        Due.is("151 to 159: no size", x.say(0, 1, 155, 4, 0), 2);
        Due.is("141 to 149: no size", x.say(0, 1, 145, 4, 0), 3);
        Due.is("three", x.quarrel(0, -1), 3);
        Due.is("first", x.quarrel(0, 0), 1);
        Due.is("second", x.quarrel(0, 1), 2);
        Due.is("third", x.quarrel(0, 2), 3);
        Due.is("no fourth", x.quarrel(0, 3), -1);
        Due.is("165 to 185", x.say(0, 1, 175, 10, 0), 4);
        Due.is("size", x.quarrel(0, -3), 170);
        Due.is("three", x.quarrel(0, -1), 3);
        Due.is("first", x.quarrel(0, 0), 0);
        Due.is("deny it", x.deny(4, true), 1);
        Due.is("size", x.quarrel(0, -3), 100);
        Due.is("above all sizes", x.say(0, 3, 90000, 0, 0), 5);
        Due.is("size", x.quarrel(0, -3), 100);
        Due.is("no end", x.quarrel(0, Integer.MAX_VALUE), -1);
    }
}
