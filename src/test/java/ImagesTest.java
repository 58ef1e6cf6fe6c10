/** Promises 35 to 38: images, counts, the digest. */
public final class ImagesTest {
    public static void main(String[] args) {
        promise35();
        promise36();
        promise36Anew();
        promise36Fraction();
        promise37();
        promise38();
        constants();
        Due.end("ImagesTest");
    }

    /** Something of everything. */
    private static OldWorks full() {
        OldWorks x = new OldWorks();
        Due.is("part", x.part(20, 3, 4, 1), 0);
        Due.is("part", x.part(30, 5, 6, -1), 1);
        Due.is("family", x.family(1, 7, 5, 100), 1);
        Due.write(x, "y*2+1");
        Due.is("say", x.say(0, 0, 40, 9, 9), 0);
        Due.is("say", x.say(0, 2, 45, 3, 9), 1);
        Due.is("say", x.say(1, 1, 45, 3, 9), 2);
        Due.is("deny", x.deny(2, true), 1);
        Due.is("chain", x.chain(-7, 8), 0);
        Due.is("link", x.link(0, 1, true), 1);
        Due.is("link", x.link(0, 0, false), 2);
        Due.is("work", x.work(3, 4, 5, 6), 0);
        Due.is("machine", x.machine(2), 0);
        Due.is("spare", x.spare(2, 9, 1), 0);
        Due.is("spare", x.spare(3, 8, -1), 1);
        Due.is("odds", x.odds(3, 2), 1);
        Due.is("told", x.told(55, true), 1);
        Due.is("told", x.told(44, false), 2);
        Due.is("bear", x.bear(1, 0, true), 1);
        Due.is("hand", x.hand(6, 5), 0);
        Due.is("need", x.need(1, 8), 0);
        return x;
    }

    private static void promise35() {
        OldWorks x = new OldWorks();
        Due.is("-1", x.image(-1), -2);
        Due.is("2", x.image(2), -2);
        Due.is("none kept", x.from(0), -3);
        Due.is("kept", x.image(1), 1);
        Due.is("none kept", x.from(0), -3);
        Due.is("part", x.part(1, 1, 1, 1), 0);
        Due.is("kept anew", x.image(1), 1);
        Due.is("another part", x.part(1, 1, 1, 1), 1);
        Due.is("from", x.from(1), 1);
        Due.is("one part", x.count(0), 1);
    }

    private static void promise36() {
        OldWorks x = full();
        long before = x.digest();
        Due.is("-1", x.from(-1), -2);
        Due.is("2", x.from(2), -2);
        Due.is("none", x.from(1), -3);
        Due.is("image", x.image(0), 1);
        long empty = new OldWorks().digest();
        for (int round = 0; round < 3; round++) {
            Due.is("part", x.part(1, 2, 3, 0), 2);
            Due.is("family", x.family(0, 2, 2, 2), 1);
            Due.is("erase", x.erase(), 5);
            Due.is("write", x.write('y'), 1);
            Due.is("say", x.say(1, 3, 9, 9, 9), 3);
            Due.is("deny", x.deny(0, true), 1);
            Due.is("chain", x.chain(1, 2), 1);
            Due.is("link", x.link(0, 2, false), 3);
            Due.is("work", x.work(1, 1, 1, 1), 1);
            Due.is("scrap", x.scrap(), 3);
            Due.is("machine", x.machine(0), 0);
            Due.is("odds", x.odds(1, 1), 1);
            Due.is("told", x.told(1, true), 3);
            Due.is("bear", x.bear(1, 0, false), 1);
            Due.is("hand", x.hand(1, 1), 1);
            Due.is("need", x.need(1, 2), 8);
            Due.holds("all is changed", x.digest() != before);
            Due.is("from", x.from(0), 1);
            Due.is("all is as it was", x.digest(), before);
            Due.is("the law is as it was", x.worn(0, 10), 13);
        }
        Due.is("another image", x.image(1), 1);
        Due.is("part", x.part(1, 2, 3, 0), 2);
        Due.is("the first anew", x.image(0), 1);
        Due.is("from the other", x.from(1), 1);
        Due.is("as it was", x.digest(), before);
        Due.is("from the first", x.from(0), 1);
        Due.is("three parts", x.count(0), 3);
        Due.holds("not a new object", x.digest() != empty);
    }

    /** What comes behind an image comes as new, whatever stood there before. */
    private static void promise36Anew() {
        OldWorks x = full();
        Due.is("image", x.image(0), 1);
        for (int round = 0; round < 2; round++) {
            Due.is("part", x.part(1, 2, 3, -1), 2);
            Due.is("nothing bears on it", x.along(2), 0);
            Due.is("bear", x.bear(0, 2, true), 1);
            Due.is("say", x.say(2, 1, 9, 0, 0), 3);
            Due.is("not denied", x.deny(3, false), -3);
            Due.is("deny", x.deny(3, true), 1);
            Due.is("chain", x.chain(0, 0), 1);
            Due.is("link", x.link(1, 2, true), 1);
            Due.is("from", x.from(0), 1);
        }
    }

    private static void promise36Fraction() {
        OldWorks x = full();
        Due.is("image", x.image(0), 1);
        // odds of 3 and 2 times 20
        Due.is("lasts", x.lasts(0, 1), 1);
        Due.is("from", x.from(0), 1);
        Due.is("the fraction stays", x.limb(0, 0), 957);
        Due.is("the fraction stays", x.limb(1, 0), 1000);
    }

    private static void promise37() {
        OldWorks x = full();
        int[] due = {2, 3, 1, 1, 1, 1, 2, 2, 1, 5};
        for (int what = 0; what < due.length; what++) Due.is("count " + what, x.count(what), due[what]);
        Due.is("-1", x.count(-1), -2);
        Due.is("10", x.count(10), -2);
    }

    private static void promise38() {
        OldWorks x = full();
        long[] values = {
            2, 3, 1, 1, 1, 1, 2, 2, 1, 5,
            // worn 11 in the year 9: first sizes 42 to 60 and 45 at most
            20, 3, 4, 1, 42, 42, 1, 2,
            30, 5, 6, -1, 1, 100000, 100000, 0,
            1, 1, 100000, 7, 5, 100, 1, 1, 100000, 1, 1, 100000,
            0, 0, 40, 9, 9, 0, 0, 2, 45, 0, 0, 0, 1, 1, 45, 3, 0, 1,
            -7, 8, 2, 1, 1, 0, 0,
            3, 4, 5, 6,
            2,
            2, 9, 1, 3, 8, -1,
            3, 2,
            55, 1, 44, 0,
            6, 5,
            0, 8, 0, 0,
            'y', '*', '2', '+', '1'
        };
        long h = 383;
        for (long v : values) h = 31 * h + v;
        Due.is("digest", x.digest(), h);
        Due.is("digest again", x.digest(), h);
        Due.is("none", x.say(0, 1, 1, 0, 0), 3);
        Due.holds("digest", x.digest() != h);
    }

    private static void constants() {
        Due.is("NONE", OldWorks.NONE, -1);
        Due.is("BAD", OldWorks.BAD, -2);
        Due.is("NO", OldWorks.NO, -3);
        Due.is("FULL", OldWorks.FULL, -4);
    }
}
