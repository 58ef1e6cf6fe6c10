/** Every list empty, with one, full, and one more. */
public final class ListsTest {
    public static void main(String[] args) {
        parts();
        sizes();
        characters();
        sayings();
        denied();
        quarrel();
        chains();
        linksAndParts();
        everyPart();
        works();
        way();
        machinesAndSpares();
        moreMachinesThanSpares();
        pairs();
        pairsAnew();
        told();
        bears();
        limbs();
        hands();
        plan();
        everyLesson();
        images();
        imagesAnew();
        Due.end("ListsTest");
    }

    private static void parts() {
        Both x = new Both().due("count 0", 0).due("along 0", -2);
        x.due("part 1 2 3 -1", 0).due("count 0", 1).due("along 0", 0).due("along 1", -2);
        for (int i = 1; i < 24; i++) x.due("part 1 2 3 " + i % 4, i);
        x.due("count 0", 24).refused("part 1 2 3 -1", -4).due("count 0", 24);
        x.due("worn 23 5", 2).due("first 23 2", 100000).due("along 23", 0);
        x.refused("worn 24 5", -2).refused("first 24 2", -2).refused("along 24", -2).refused("half 24", -2);
        x.due("bear 23 0 t", 1).due("along 0", 1 << 23).refused("bear 24 0 t", -2);
    }

    private static void sizes() {
        Both x = new Both().go("part 1 1 0 3").due("first 0 2", 100000);
        x.due("family 3 5 1 1", 1).due("first 0 0", 5).due("first 0 1", 5).due("first 0 2", 1).due("quarrel 0 -3", 5);
        x.due("say 0 1 4 0 0", 0).due("first 0 2", 0).due("first 0 0", -1).due("first 0 1", -1);
        x.due("quarrel 0 -3", 5).due("quarrel 0 -1", 1).due("deny 0 t", 1);
        x.due("family 3 1 1 99999", 1).due("first 0 2", 99999).due("first 0 1", 99999);
        x.due("family 3 1 1 100000", 1).due("first 0 2", 100000).due("first 0 1", 100000).due("first 0 0", 1);
        x.refused("family 3 1 1 100001", -2).due("first 0 2", 100000);
        x.due("family 3 50000 50000 2", 1).due("first 0 2", 2).due("first 0 1", 100000);
        x.refused("family 3 50000 50000 3", -2).due("first 0 0", 50000);
        x.go("say 0 3 99999 0 0").due("first 0 0", 100000).due("first 0 2", 1);
        x.go("say 0 2 99999 0 0").due("first 0 0", -1).due("first 0 2", 0).due("quarrel 0 -3", 50000);
        for (int family = 0; family < 4; family++) {
            x.due("part 1 1 0 " + family, family + 1).due("family " + family + " 7 3 9", 1);
            x.due("first " + (family + 1) + " 1", 31);
        }
    }

    private static void characters() {
        Both x = new Both().go("part 2 3 0 -1").due("count 9", 0).due("erase", 0).due("fault", 1).due("worn 0 9", 9);
        x.due("write 108", 1).due("fault", -1).due("worn 0 9", 2).due("count 9", 1);
        x.due("erase", 1).due("count 9", 0).due("fault", 1).due("worn 0 9", 9);
        // a law of exactly 60 characters that could go on
        StringBuilder law = new StringBuilder("y");
        while (law.length() < 57) law.append("+h");
        law.append("+77");
        x.write(law.toString()).due("count 9", 60).due("fault", -1).due("worn 0 9", 9 + 28 * 3 + 77);
        x.refused("write 43", -4).refused("write 32", -4).refused("write 0", -4);
        x.due("fault", -1).due("worn 0 9", 9 + 28 * 3 + 77).due("count 9", 60);
        x.due("erase", 60).due("count 9", 0).due("fault", 1).due("write 121", 1);
        // 60 characters that end too early
        x.due("erase", 1).write("1" + "+1".repeat(29) + "+").due("fault", 601).refused("write 49", -4).due("fault", 601);
    }

    private static void sayings() {
        Both x = new Both().go("part 1 1 0 -1;part 1 1 0 -1").due("count 1", 0).due("first 0 2", 100000);
        x.refused("deny 0 t", -2);
        x.due("say 0 1 500 50 0", 0).due("count 1", 1).due("first 0 2", 101).due("first 1 2", 100000);
        for (int i = 1; i < 59; i++) x.due("say " + i % 2 + " 1 " + (500 + i) + " 50 0", i);
        x.due("first 0 0", 508).due("first 0 1", 550).due("first 1 0", 507).due("first 1 1", 551);
        x.due("say 1 3 551 0 0", 59).due("count 1", 60).due("first 1 0", 551).due("first 1 2", 1);
        x.refused("say 1 3 552 0 0", -4).refused("say 0 0 1 1 1", -4).refused("say 0 2 1 1 1", -4);
        x.due("first 1 2", 1).due("count 1", 60);
        x.due("deny 59 t", 1).due("first 1 0", 507).refused("deny 60 t", -2);
        // one that is denied is still one of the sixty
        x.refused("say 1 3 551 0 0", -4).due("count 2", 1);
    }

    private static void denied() {
        Both x = new Both().go("part 1 1 0 0;family 0 10 10 10").due("count 2", 0);
        for (int i = 0; i < 60; i++) x.go("say 0 1 " + (10 + i % 10 * 10) + " 4 0");
        x.due("first 0 2", 0).due("quarrel 0 -1", 54).due("quarrel 0 -3", 10);
        x.due("deny 0 t", 1).due("count 2", 1).refused("deny 0 t", -3).due("quarrel 0 -1", 53).due("quarrel 0 -3", 20);
        for (int i = 1; i < 60; i++) x.due("deny " + i + " t", 1);
        x.due("count 2", 60).due("first 0 2", 10).due("quarrel 0 -1", 0).due("quarrel 0 -3", 10);
        x.refused("deny 59 t", -3).refused("deny 60 t", -2);
        for (int i = 59; i >= 0; i--) x.due("deny " + i + " f", 1);
        x.due("count 2", 0).refused("deny 0 f", -3).due("quarrel 0 -1", 54).due("quarrel 0 -3", 10);
    }

    private static void quarrel() {
        Both x = new Both().go("part 1 1 0 0;family 0 500 1 1");
        x.due("quarrel 0 -1", 0).due("quarrel 0 0", -1).due("quarrel 0 -3", 500);
        x.due("say 0 2 500 0 0", 0).due("quarrel 0 -1", 0).due("quarrel 0 0", -1);
        x.due("say 0 2 499 0 0", 1).due("quarrel 0 -1", 1).due("quarrel 0 0", 1).due("quarrel 0 1", -1);
        for (int i = 2; i < 60; i++) x.due("say 0 3 501 0 0", i);
        x.due("quarrel 0 -1", 59).due("quarrel 0 0", 1).due("quarrel 0 1", 2).due("quarrel 0 58", 59);
        x.due("quarrel 0 59", -1).due("quarrel 0 60", -1).due("quarrel 0 61", -1);
        x.due("family 0 499 1 1", 1).due("quarrel 0 -1", 58).due("quarrel 0 57", 59).due("quarrel 0 58", -1);
        x.due("family 0 502 1 1", 1).due("quarrel 0 -1", 2).due("quarrel 0 1", 1).due("quarrel 0 2", -1);
        x.due("deny 0 t", 1).due("deny 1 t", 1).due("quarrel 0 -1", 0).due("quarrel 0 0", -1);
    }

    private static void chains() {
        Both x = new Both().go("part 1 1 0 -1;part 1 1 0 -1;say 0 1 50 0 0;say 1 1 60 0 0").due("count 3", 0);
        x.refused("link 0 0 f", -2).refused("sum 0 0 2", -2100000000).refused("life 0 0", -2).due("stands 1 0 0", 1);
        x.due("chain 50 60", 0).due("count 3", 1).due("sum 0 0 2", 0).due("life 0 0", 0);
        x.refused("life 1 0", -2).refused("sum 1 0 0", -2100000000);
        for (int i = 1; i < 16; i++) x.due("chain 50 " + (75 - i), i);
        x.due("count 3", 16).refused("chain 50 60", -4).due("count 3", 16);
        x.due("link 15 0 f", 1).due("sum 15 0 0", 50).due("sum 15 0 2", 1).refused("link 16 0 f", -2);
        x.due("stands 1 0 0", 1).due("stands 0 1 0", 1);
        for (int i = 1; i < 15; i++) x.due("link " + i + " 0 f", 1);
        x.due("stands 1 0 0", 1).due("link 0 0 f", 1).due("stands 1 0 0", 1);
        // the last chain's high is 60
        x.go("say 1 1 61 1 0").due("stands 1 0 0", 1).go("deny 1 t").due("stands 1 0 0", 0);
    }

    private static void linksAndParts() {
        Both x = new Both();
        for (int i = 0; i < 8; i++) x.go("part 1 1 0 -1;say " + i + " 1 " + (10 << i) + " " + i + " 0");
        x.due("chain -5000 5000", 0).due("sum 0 0 0", 0).due("sum 0 0 1", 0).due("sum 0 0 2", 1).due("life 0 0", 100);
        x.due("link 0 5 t", 1).due("sum 0 0 0", -325).due("sum 0 0 1", -315).refused("link 0 5 f", -2);
        int[] more = {0, 1, 2, 3, 4};
        for (int part : more) x.due("link 0 " + part + " " + (part % 2 == 0 ? "f" : "t"), part + 2);
        x.due("sum 0 0 0", -320 + 10 - 20 + 40 - 80 + 160 - 15).due("sum 0 0 1", -320 + 10 - 20 + 40 - 80 + 160 + 15);
        x.refused("link 0 6 f", -4).refused("link 0 7 t", -4).refused("link 0 4 t", -2).refused("link 0 8 t", -2);
        // a part may be in all chains
        for (int i = 1; i < 16; i++) x.due("chain 0 9", i).due("link " + i + " 4 f", 1);
        x.due("chain 0 9", -4);
        // three are added and three taken off: they wear alike
        x.due("sum 0 10 0", -320 + 10 - 20 + 40 - 80 + 160 - 15);
    }

    /** Each of the 24 parts is in a chain of six. */
    private static void everyPart() {
        Both x = new Both();
        for (int i = 0; i < 24; i++) x.go("part 0 1 " + i + " -1;say " + i + " 1 " + (10 << i % 6) + " 0 0");
        for (int chain = 0; chain < 4; chain++) {
            x.go("chain 600 630");
            for (int i = 0; i < 6; i++) x.go("link " + chain + " " + (6 * chain + i) + " f");
            x.due("sum " + chain + " 0 0", 630).due("sum " + chain + " 0 1", 630).due("sum " + chain + " 0 2", 1);
            // in the year 6 after the first was put in: 6, 5, 4, 3, 2, 1
            x.due("sum " + chain + " " + (6 * chain + 6) + " 0", 609).due("life " + chain + " 0", 6 * chain + 8);
        }
        x.due("stands 23 0 0", 0).due("stands 18 0 0", 1).due("stands 18 6 20", 0).due("stands 0 18 22", 1).due("stands 0 18 23", 0);
    }

    private static void works() {
        Both x = new Both().due("count 4", 0).due("way 5 5 5 -1", 0).due("way 5 6 6 -1", -5);
        x.due("work 1 9 5 5", 0).due("count 4", 1).due("way 5 6 6 -1", 9).due("way 5 7 7 -1", -5);
        for (int i = 1; i < 8; i++) x.due("work " + (i + 1) + " " + (9 - i) + " 5 5", i);
        x.due("count 4", 8).refused("work 9 1 5 5", -4).due("count 4", 8);
        x.due("way 5 13 13 -1", 2).due("way 5 13 13 0", 7).due("way 5 14 14 -1", -5).due("way 5 6 13 0", 7);
        x.refused("work 0 1 5 5", -2);
    }

    private static void way() {
        Both x = new Both().go("work 10 1 1 3000;work -1 5 1 3000");
        x.due("way 100 100 100 -2", 0).due("way 100 100 100 -1", 0).due("way 100 100 100 0", -1);
        x.due("way 100 110 110 -2", 1).due("way 100 110 110 0", 0).due("way 100 110 110 1", -1);
        x.due("way 100 150 150 -2", 5).due("way 100 150 150 -1", 5).due("way 100 150 150 4", 0);
        x.due("way 100 150 150 5", -1).due("way 100 150 150 6", -1);
        x.due("way 100 160 160 -2", -5).due("way 100 160 160 -1", -5).due("way 100 160 160 0", -5);
        // least and greatest sizes on the way
        x.due("way 2990 3000 3000 -2", 1).due("way 2991 3000 3000 -2", 2).due("way 2991 3000 3000 0", 1);
        x.due("way 2995 3000 3000 -2", -5).due("way 2 1 1 -2", 1).due("way 1 1 1 -2", 0).due("way 1 8 8 -2", 4);
        x.due("way 1 8 8 0", 0).due("way 1 8 8 3", 1).due("way 6 1 1 -2", 5).due("way 7 1 1 -2", -5);
        x.due("way 3000 2999 2999 0", 1).due("way 3000 1 3000 -2", 0).due("way 1 3000 3000 -1", -5);
        x.due("way 3000 1 1 -1", -5);
        Both z = new Both().go("work 500 1000 1 3000;work -500 1 1 3000;work 499 999 2500 2500");
        z.due("way 1 2501 2501 -1", 5000).due("way 1 2501 2501 -2", 5).due("way 1 2502 3000 -1", -5);
        z.due("way 2500 1 500 -1", 4).due("way 2501 1 1 -1", 5).due("way 2502 1 1 -1", -5).due("way 2500 2999 2999 0", 2);
        z.due("way 2500 3000 3000 0", 0).due("way 2501 3000 3000 -1", -5).due("way 500 1 499 -1", -5);
        z.due("way 501 1 1 0", 1);
    }

    private static void machinesAndSpares() {
        Both x = new Both().due("count 5", 0).due("count 6", 0).due("taking -1", 0).refused("taking 0", -10).due("scrap", 0);
        x.due("machine 3", 0).due("count 5", 1).due("taking -1", 0).due("taking 0", -1).refused("taking 1", -10);
        x.due("spare 3 50 -1", 0).due("count 6", 1).due("taking -1", 50).due("taking 0", 0);
        x.due("scrap", 2).due("count 5", 0).due("count 6", 0).due("taking -1", 0).refused("taking 0", -10).due("scrap", 0);
        for (int i = 0; i < 6; i++) x.due("machine 1", i);
        x.refused("machine 1", -4).due("count 5", 6);
        for (int i = 0; i < 9; i++) x.due("spare 1 " + (50 - 5 * i) + " -1", i);
        x.refused("spare 1 50 -1", -4).due("count 6", 9);
        x.due("taking -1", 50 + 45 + 40 + 35 + 30 + 25);
        for (int i = 0; i < 6; i++) x.due("taking " + i, i);
        x.refused("taking 6", -10).due("scrap", 15).due("taking -1", 0);
        x.due("spare 0 1 0", 0).due("machine 0", 0).due("taking 0", 0);
        // the last spare to the last machine
        x.due("scrap", 2);
        for (int i = 0; i < 6; i++) x.due("machine " + (i == 5 ? 3 : 0), i);
        for (int i = 0; i < 9; i++) x.due("spare " + (i == 8 ? 3 : 2) + " 50 -1", i);
        x.due("taking -1", 50).due("taking 5", 8).due("taking 4", -1).due("taking 0", -1);
    }

    private static void moreMachinesThanSpares() {
        Both x = new Both().go("machine 0;machine 0;machine 0;machine 0;machine 0;machine 0;spare 0 7 -1;spare 0 7 -1");
        x.due("taking -1", 14);
        for (int i = 0; i < 4; i++) x.due("taking " + i, -1);
        x.due("taking 4", 0).due("taking 5", 1);
    }

    private static void pairs() {
        // a pair of one, of two, of more than there are machines
        Both x = new Both().go("machine 0;machine 0;machine 1").due("spare 0 9 2", 0).due("taking -1", 9).due("taking 1", 0);
        x.due("spare 1 8 2", 1).due("taking -1", 17).due("taking 2", 1).due("taking 1", 0).due("taking 0", -1);
        x.due("spare 0 1 2", 2).due("taking -1", 18).due("taking 0", 0).due("taking 1", 2);
        x.due("spare 0 50 2", 3).due("taking -1", 0).due("taking 0", -1).due("taking 2", -1);
        x.due("spare 0 3 -1", 4).due("taking -1", 3).due("taking 0", -1).due("taking 1", 4);
        // all nine in one pair can never be given
        Both z = new Both();
        for (int i = 0; i < 6; i++) z.go("machine 0");
        for (int i = 0; i < 6; i++) z.go("spare 0 50 1");
        z.due("taking -1", 300).due("taking 5", 5).go("spare 0 1 1").due("taking -1", 0).due("taking 5", -1);
        z.go("spare 0 1 0;spare 0 1 3").due("taking -1", 2).due("taking 4", 7).due("taking 5", 8);
    }

    /** What was paired before all spares went, or before the works went on from an image, is paired no more. */
    private static void pairsAnew() {
        Both x = new Both().go("image 0;machine 0;machine 0;spare 0 5 1;spare 0 6 1;spare 1 9 3").due("taking -1", 11);
        x.due("scrap", 5).go("machine 0;spare 0 7 1").due("taking -1", 7).due("taking 0", 0);
        x.due("spare 0 8 -1", 1).due("taking -1", 8).due("taking 0", 1).due("spare 1 8 1", 2).due("taking -1", 8);
        x.due("from 0", 1).due("taking -1", 0).go("machine 1;spare 1 4 1;spare 0 9 2").due("taking -1", 4);
        x.due("machine 0", 1).due("taking -1", 13).due("taking 0", 0).due("taking 1", 1);
    }

    private static void told() {
        Both x = new Both().due("count 7", 0).due("fitted", 0);
        x.due("told 0 t", 1).due("count 7", 1).due("fitted", 90);
        for (int i = 2; i <= 40; i++) x.due("told 0 f", i);
        // one of 40 broke: 9 of 1000 is the nearest
        x.due("fitted", 90).due("count 7", 40).refused("told 0 t", -4).refused("told 0 f", -4).due("fitted", 90);
        Both z = new Both();
        for (int i = 1; i <= 39; i++) z.due("told 100 f", i);
        z.due("fitted", 10).due("told 100 t", 40).due("fitted", 90).refused("told 101 t", -2);
        Both y = new Both();
        for (int i = 1; i <= 40; i++) y.due("told 100 t", i);
        y.due("fitted", 99).refused("told 100 t", -4);
        Both w = new Both().due("told 0 f", 1).due("fitted", 10);
        for (int i = 2; i <= 40; i++) w.due("told " + (i % 2 * 100) + " " + (i % 4 > 1 ? "t" : "f"), i);
        w.ask("fitted");
        // like odds of A and of B: the first by A; odds of 0 may not be
        new Both().go("told 1 f").due("fitted", 1).go("told 0 f").due("fitted", 10);
        new Both().go("told 2 f").due("fitted", 10);
        new Both().go("told 1 t").due("fitted", 99).go("told 1 f").due("fitted", 99);
        new Both().go("told 100 t").due("fitted", 99).go("told 100 f").due("fitted", 5);
    }

    /** 22 parts: each bears on each other one. */
    private static void bears() {
        Both x = new Both();
        for (int i = 0; i < 22; i++) x.go("part 0 1 0 0");
        x.due("along 0", 0).due("bear 21 0 t", 1).due("along 0", 1 << 21).due("along 21", 0);
        x.due("bear 21 0 f", 1).due("along 0", 0);
        for (int a = 0; a < 22; a++) {
            for (int b = 0; b < 22; b++) if (a != b) x.due("bear " + a + " " + b + " t", 1);
        }
        x.due("along 0", (1 << 22) - 1).due("along 21", (1 << 22) - 1).due("bear 0 1 t", -3).due("bear 5 5 t", -2);
        x.due("bear 21 20 f", 1).due("along 20", (1 << 22) - 1);
    }

    private static void limbs() {
        Both x = new Both().due("limbs 0", 1).due("limbs 1", 1).due("limb 0 0", 0).due("limb 1 0", 1);
        x.due("limb 0 1", -1).due("limb 1 1", -1).go("part 1 1 0 -1;odds 1 0");
        x.due("lasts 0 0", 1).due("limbs 0", 1).due("limbs 1", 1).due("limb 0 0", 1).due("limb 1 0", 1);
        x.due("lasts 0 1", 1).due("limb 0 0", 999).due("limb 1 0", 1000).due("limbs 1", 1);
        x.due("lasts 0 3", 1).due("limb 0 0", 997002999).due("limb 1 0", 1000000000).due("limb 1 1", -1);
        x.due("lasts 0 4", 1).due("limbs 0", 2).due("limbs 1", 2).due("limb 1 1", 931).due("limb 0 2", -1);
        x.due("lasts 0 60", 1).due("limbs 0", 20).due("limbs 1", 20).due("limb 0 20", -1).due("limb 1 20", -1);
        Due.holds("the last limb is not 0", x.ask("limb 0 19") > 0 && x.ask("limb 1 19") > 0);
        x.refused("lasts 0 61", -2).due("limbs 0", 20);
        x.due("odds 0 9", 1).due("limbs 0", 20).due("lasts 0 60", 1).due("limbs 1", 20);
        // the least that can be kept, of a thousand: 91
        Both z = new Both().go("part 100 1 0 -1;odds 9 9;lasts 0 60").due("limbs 0", 14).due("limbs 1", 20);
        z.due("half 0", 1).go("odds 0 0;lasts 0 60").due("limbs 0", 1).due("limb 0 0", 1).due("half 0", -1);
    }

    private static void hands() {
        Both x = new Both().go("need 0 5").due("count 8", 0).due("plan 8 -1", 0).due("plan 8 0", -5);
        x.due("hand 1 1", 0).due("count 8", 1).due("plan 8 -1", 5).due("plan 1 0", -5);
        x.due("hand 0 9", 1).due("plan 8 -1", 35).due("plan 8 0", 1).due("hand 0 9", 2).due("count 8", 3);
        x.refused("hand 1 9", -4).due("plan 8 -1", 35).due("count 8", 3);
        // no skill, all skills; there never, always
        Both z = new Both().go("hand 0 9;hand 15 0;need 0 9;need 1 9;need 2 9;need 3 9").due("plan 8 -1", 0);
        z.due("hand 15 9", 2).due("plan 8 -1", 288).due("plan 8 7", -5).due("plan 1 -1", 36);
    }

    private static void plan() {
        Both x = new Both().go("need 3 4;hand 8 1;hand 0 2;hand 0 9");
        x.due("plan 1 -1", 4).due("plan 1 0", -5).refused("plan 1 1", -10);
        x.due("plan 2 -1", 4).due("plan 2 0", -5).due("plan 2 1", -5).refused("plan 2 2", -10);
        x.due("plan 3 -1", 8).due("plan 3 0", 0 + 12 + 2).due("plan 3 2", -5);
        x.due("plan 8 -1", 28).due("plan 8 0", 14).due("plan 8 7", -5).refused("plan 8 8", -10);
        // need of none and of nine
        x.due("need 3 0", 4).due("plan 8 -1", 0).due("plan 8 0", -5).due("need 3 9", 0).due("plan 8 -1", 63);
        // all have all: nothing is left to teach
        Both z = new Both().go("hand 15 9;hand 15 9;hand 15 9;need 2 1").due("plan 8 -1", 8);
        for (int year = 0; year < 8; year++) z.due("plan 8 " + year, -5);
        // a hand leaves in a year: there in those below it
        Both y = new Both().go("hand 4 7;need 2 1").due("plan 7 -1", 7).due("plan 8 -1", 7);
        y.go("hand 4 8").due("plan 8 -1", 8);
        // who learns in the last year before the other leaves, works on alone; one year later it is too late
        Both w = new Both().go("hand 4 2;hand 0 3;need 2 6").due("plan 3 -1", 12).due("plan 3 1", -5);
        w.go("hand 0 9").due("plan 3 -1", 12).due("plan 4 -1", 18).due("plan 4 0", -5).due("plan 4 1", 8 + 2);
    }

    /** One year to teach in, and each time another lesson is the only one worth it; also where nobody has a skill. */
    private static void everyLesson() {
        for (int who = 0; who < 3; who++) {
            for (int whom = 0; whom < 3; whom++) {
                for (int skill = 0; skill < 4; skill++) {
                    for (int lost = -1; who != whom && lost < 4; lost++) {
                        if (lost != skill) lesson(who, whom, skill, lost < 0 ? 15 : 15 - (1 << lost));
                    }
                }
            }
        }
    }

    private static void lesson(int who, int whom, int skill, int skills) {
        Both x = new Both();
        for (int i = 0; i < 3; i++) x.go("hand " + (i == who ? skills + " 1" : i == whom ? "0 9" : "0 1"));
        for (int i = 0; i < 4; i++) x.due("need " + i + " " + (i == skill ? 9 : 1), 0);
        x.due("plan 8 -1", 63).due("plan 8 0", 16 * who + 4 * skill + whom).due("plan 8 1", -5);
        x.due("plan 2 -1", 8 + Integer.bitCount(skills)).due("plan 2 0", -5);
    }

    /** From an image on, what was there behind it is gone, whatever was asked before. */
    private static void imagesAnew() {
        Both x = new Both().go("need 0 5;image 0;hand 1 9;hand 1 9").due("plan 8 -1", 40).due("from 0", 1);
        x.due("plan 8 -1", 0).due("hand 1 2", 0).due("plan 8 -1", 10).due("hand 0 9", 1).due("plan 8 -1", 35);
        x.due("plan 8 0", -5).due("plan 8 1", 1).due("from 0", 1).due("hand 2 9", 0).due("plan 8 -1", 0);
        Both z = new Both().go("part 5 5 0 1;image 1;family 1 3 3 3;say 0 2 8 0 0;chain 0 9;link 0 0 f");
        z.due("sum 0 0 1", 6).write("l+1").due("worn 0 9", 6).due("sum 0 9 1", 0).due("from 1", 1).due("worn 0 9", 9);
        z.due("first 0 1", 100000).due("quarrel 0 -3", 1).due("count 3", 0).due("chain 3 4", 0).due("sum 0 0 0", 0);
        z.due("link 0 0 t", 1).due("sum 0 9 0", 9 - 100000).due("sum 0 9 1", 8).due("fault", 1).due("say 0 1 7 1 0", 0);
        z.due("sum 0 9 0", 1).due("sum 0 9 1", 3).due("sum 0 9 2", 0).due("from 0", -3).due("from 1", 1).due("count 1", 0);
        z.go("work 1 1 1 3000;part 1 1 1 1;bear 1 0 t").due("along 0", 2).due("way 1 2 2 0", 0).due("from 1", 1);
        z.due("way 1 2 2 0", -5).due("along 0", 0).go("part 1 1 1 1").due("bear 1 0 f", -3).due("along 0", 0);
    }

    private static void images() {
        Both x = new Both().refused("from 0", -3).refused("from 1", -3);
        x.due("image 1", 1).refused("from 0", -3).due("part 1 1 1 1", 0).due("from 1", 1).due("count 0", 0);
        x.due("part 1 1 1 1", 0).due("image 0", 1).due("part 1 1 1 1", 1).due("from 1", 1).due("count 0", 0);
        x.due("from 0", 1).due("count 0", 1).due("from 0", 1).due("count 0", 1).refused("image 2", -2).refused("from 2", -2);
        // both are kept where the works go on from one, and a full one stays full
        for (int i = 1; i < 24; i++) x.due("part 1 1 1 1", i);
        x.due("image 1", 1).due("from 0", 1).due("part 1 1 1 1", 1).due("from 1", 1).refused("part 1 1 1 1", -4);
        x.due("from 0", 1).due("count 0", 1);
    }
}
