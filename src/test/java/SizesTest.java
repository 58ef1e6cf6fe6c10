/** FIRST and QUARREL: sayings put on, beside and beyond every size of a family, at its ends and at those of all sizes. */
public final class SizesTest {
    public static void main(String[] args) {
        for (int sort = 0; sort < 4; sort++) {
            one(sort, "family 0 100 10 5", 85, 155, 0, 4, 5, 6, 10, 60);
            one(sort, "family 0 1 1 3", -3, 8, 0, 1, 2, 10000);
            one(sort, "family 0 100000 1 1", 99995, 100000, 0, 1, 4, 5, 6, 10000);
            one(sort, "family 0 99998 1 3", 99994, 100000, 0, 1, 2, 3);
        }
        two();
        bounds();
        Due.end("SizesTest");
    }

    /** Whether a saying allows a size, as the document says it; what is worn is 3. */
    private static boolean allows(int sort, int v, int e, int size) {
        switch (sort) {
            case 0: return size - 3 >= v - e && size - 3 <= v + e;
            case 1: return size >= v - e && size <= v + e;
            case 2: return size <= v;
            default: return size >= v;
        }
    }

    private static void one(int sort, String family, int from, int to, int... errors) {
        String[] f = family.split(" ");
        int base = Integer.parseInt(f[2]);
        int step = Integer.parseInt(f[3]);
        int many = Integer.parseInt(f[4]);
        for (int v = from; v <= to; v++) {
            for (int e : errors) {
                Both x = new Both().go("part 0 1 4 0").go(family).due("say 0 " + sort + " " + v + " " + e + " 7", 0);
                int least = -1;
                int greatest = -1;
                int found = 0;
                for (int i = 0; i < many; i++) {
                    if (!allows(sort, v, e, base + i * step)) continue;
                    if (found++ == 0) least = base + i * step;
                    greatest = base + i * step;
                }
                x.due("first 0 0", least).due("first 0 1", greatest).due("first 0 2", found);
                x.due("quarrel 0 -3", found > 0 ? least : base).due("quarrel 0 -1", found > 0 ? 0 : 1);
                x.due("quarrel 0 0", found > 0 ? -1 : 0);
            }
        }
    }

    /** Two sayings that touch, overlap by one size or leave one out; and where they are said the other way round. */
    private static void two() {
        for (int gap = -2; gap <= 3; gap++) {
            for (int turn = 0; turn < 2; turn++) {
                Both x = new Both().go("part 0 1 0 0;family 0 10 5 9");
                String low = "say 0 2 " + 25 + " 0 0";
                String high = "say 0 3 " + (25 + 5 * gap) + " 0 0";
                x.go(turn == 0 ? low + ";" + high : high + ";" + low);
                x.due("first 0 2", gap <= 0 ? 1 - gap : 0).due("first 0 0", gap <= 0 ? 25 + 5 * gap : -1);
                x.due("first 0 1", gap <= 0 ? 25 : -1).due("quarrel 0 -3", gap <= 0 ? 25 + 5 * gap : 10);
                x.due("quarrel 0 0", gap <= 0 ? -1 : 1 - turn);
            }
        }
    }

    /** Without a family: 1 .. 100000. */
    private static void bounds() {
        Both x = new Both().go("part 0 1 0 -1").due("say 0 2 1 0 0", 0).due("first 0 2", 1).due("first 0 1", 1);
        x.due("deny 0 t", 1).due("say 0 2 0 0 0", 1).due("first 0 2", 0).due("quarrel 0 -3", 1).due("deny 1 t", 1);
        x.due("say 0 3 100000 0 0", 2).due("first 0 2", 1).due("first 0 0", 100000).due("quarrel 0 -3", 100000);
        x.due("deny 2 t", 1).due("say 0 3 -10000 0 0", 3).due("first 0 2", 100000).due("deny 3 t", 1);
        x.due("say 0 1 -10000 10000 0", 4).due("first 0 2", 0).due("deny 4 t", 1).due("say 0 1 -9999 10000 0", 5);
        x.due("first 0 2", 1).due("first 0 1", 1).due("deny 5 t", 1).due("say 0 1 100000 10000 0", 6);
        x.due("first 0 2", 10001).due("first 0 0", 90000).due("deny 6 t", 1).due("say 0 2 -10000 0 0", 7);
        x.due("first 0 2", 0).due("first 0 0", -1).due("first 0 1", -1).due("deny 7 t", 1).due("first 0 2", 100000);
        // worn 99 in the year 99: 100000 less 99 is 99901
        x.due("say 0 0 99901 0 99", 8).due("first 0 0", 100000).due("deny 8 t", 1).due("say 0 0 99902 0 99", 9);
        x.due("first 0 2", 0).due("deny 9 t", 1).due("say 0 0 -98 0 99", 10).due("first 0 1", 1).due("deny 10 t", 1);
        x.due("say 0 0 -99 0 99", 11).due("first 0 2", 0).due("quarrel 0 0", 11);
    }
}
