/** Promises 32 to 34: hands who teach their skills in time. */
public final class HandsTest {
    public static void main(String[] args) {
        promise32();
        promise33();
        promise34();
        promise34Leaving();
        promise34Ties();
        promise34All();
        Due.end("HandsTest");
    }

    private static void promise32() {
        OldWorks x = new OldWorks();
        Due.is("skills -1", x.hand(-1, 0), -2);
        Due.is("skills 16", x.hand(16, 0), -2);
        Due.is("leaves -1", x.hand(0, -1), -2);
        Due.is("leaves 10", x.hand(0, 10), -2);
        Due.is("none", x.count(8), 0);
        Due.is("least", x.hand(0, 0), 0);
        Due.is("greatest", x.hand(15, 9), 1);
        Due.is("third", x.hand(1, 1), 2);
        Due.is("full", x.hand(1, 1), -4);
        Due.is("bad before full", x.hand(16, 1), -2);
    }

    private static void promise33() {
        OldWorks x = new OldWorks();
        Due.is("skill -1", x.need(-1, 0), -2);
        Due.is("skill 4", x.need(4, 0), -2);
        Due.is("runs -1", x.need(0, -1), -2);
        Due.is("runs 10", x.need(0, 10), -2);
        Due.is("at first", x.need(3, 9), 0);
        Due.is("then", x.need(3, 0), 9);
        Due.is("then", x.need(3, 4), 0);
        Due.is("hand", x.hand(8, 9), 0);
        Due.is("a year", x.plan(1, -1), 4);
    }

    private static void years(OldWorks x, int n, int runs, int... lessons) {
        Due.is("runs of " + n, x.plan(n, -1), runs);
        for (int i = 0; i < lessons.length; i++) Due.is("lesson in " + i, x.plan(n, i), lessons[i]);
    }

    private static void promise34() {
        OldWorks x = new OldWorks();
        Due.is("n 0", x.plan(0, -1), -10);
        Due.is("n 9", x.plan(9, -1), -10);
        Due.is("what -2", x.plan(3, -2), -10);
        Due.is("what 3", x.plan(3, 3), -10);
        years(x, 1, 0, -5);
        years(x, 8, 0, -5, -5, -5, -5, -5, -5, -5, -5);
        Due.is("need", x.need(1, 7), 0);
        Due.is("nobody there", x.plan(8, -1), 0);
        Due.is("hand", x.hand(2, 9), 0);
        years(x, 8, 56, -5, -5, -5, -5, -5, -5, -5, -5);
        Due.is("without the skill", x.need(0, 9), 0);
        Due.is("nobody has it", x.plan(8, -1), 56);
    }

    /** The one who has the skill leaves: it is taught as soon as that costs nothing else. */
    private static void promise34Leaving() {
        OldWorks x = new OldWorks();
        Due.is("need", x.need(2, 5), 0);
        Due.is("leaves in 3", x.hand(4, 3), 0);
        Due.is("learns", x.hand(0, 9), 1);
        // three years of 5 and no more, or two of 5 and later ones
        years(x, 3, 15, -5, -5, -5);
        years(x, 4, 15, -5, -5, -5, -5);
        // nobody first: to teach in the third year, 2, is the first row
        years(x, 5, 20, -5, -5, 16 * 0 + 4 * 2 + 1, -5, -5);
        years(x, 8, 35, -5, -5, 9, -5, -5, -5, -5, -5);
        Due.is("need 1", x.need(2, 1), 5);
        years(x, 8, 7, -5, -5, 9, -5, -5, -5, -5, -5);
        OldWorks z = new OldWorks();
        Due.is("need", z.need(2, 5), 0);
        Due.is("need", z.need(3, 5), 0);
        Due.is("leaves in 2", z.hand(12, 2), 0);
        Due.is("leaves in 9", z.hand(0, 9), 1);
        // both skills in both years: 6 years of 10
        years(z, 8, 60, 9, 13, -5, -5, -5, -5, -5, -5);
        Due.is("who learns must be there", z.hand(0, 0), 2);
        years(z, 8, 60, 9, 13, -5, -5, -5, -5, -5, -5);
        OldWorks y = new OldWorks();
        Due.is("need", y.need(0, 1), 0);
        Due.is("not there at all", y.hand(15, 0), 0);
        Due.is("there", y.hand(0, 9), 1);
        years(y, 8, 0, -5, -5);
    }

    /** Eight lessons in eight years, so that all that can be learned is learned. */
    private static void promise34All() {
        OldWorks x = new OldWorks();
        for (int skill = 0; skill < 4; skill++) Due.is("need", x.need(skill, 1), 0);
        Due.is("leaves in 8", x.hand(15, 8), 0);
        Due.is("leaves in 9", x.hand(0, 9), 1);
        Due.is("leaves in 9", x.hand(0, 9), 2);
        // a lesson by the first stops all until the third knows something
        Due.is("eight years", x.plan(8, -1), 32);
        OldWorks z = new OldWorks();
        for (int skill = 0; skill < 4; skill++) Due.is("need", z.need(skill, 9), 0);
        Due.is("leaves in 4", z.hand(15, 4), 0);
        Due.is("leaves in 5", z.hand(0, 8), 1);
        Due.is("stays", z.hand(0, 9), 2);
        // two to the second, then two to the third while the second works
        years(z, 8, 2 * 18 + 4 * 36, 1, 5, 10, 14, -5, -5, -5, -5);
        Due.is("one skill needed no more", z.need(0, 0), 9);
        // the second hands on what it learned, so that the first works on: 0, 9, 27, 18
        years(z, 8, 54 + 4 * 27, 5, 10, 22, 13, -5, -5, -5, -5);
    }

    private static void promise34Ties() {
        // the third works on while the first teaches the second
        OldWorks x = new OldWorks();
        Due.is("need", x.need(0, 2), 0);
        Due.is("hand", x.hand(1, 2), 0);
        Due.is("hand", x.hand(1, 2), 1);
        Due.is("hand", x.hand(0, 9), 2);
        // in the year 1 the first teaches the third: the second works
        years(x, 4, 8, -5, 0 + 0 + 2, -5, -5);
        OldWorks z = new OldWorks();
        Due.is("need", z.need(0, 2), 0);
        Due.is("need", z.need(3, 2), 0);
        Due.is("hand", z.hand(0, 9), 0);
        Due.is("hand", z.hand(9, 1), 1);
        Due.is("hand", z.hand(9, 1), 2);
        // one lesson only: skill 0 or 3 by the second to the first; the third does both
        years(z, 3, 4 + 2 + 2, 16 * 1 + 4 * 0 + 0, -5, -5);
        Due.is("skill 3 is worth more", z.need(3, 3), 2);
        years(z, 3, 5 + 3 + 3, 16 * 1 + 4 * 3 + 0, -5, -5);
        // what is learned is taught on, from the next year on
        OldWorks y = new OldWorks();
        Due.is("need", y.need(1, 9), 0);
        Due.is("hand", y.hand(2, 1), 0);
        Due.is("hand", y.hand(0, 2), 1);
        Due.is("hand", y.hand(0, 9), 2);
        years(y, 8, 9 * 7, 0 + 4 + 2, -5);
        Due.is("two years", y.plan(2, -1), 9);
        years(y, 2, 9, -5, -5);
    }
}
