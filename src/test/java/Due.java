/** What the tests have in common: an answer against the one that is due. */
final class Due {
    private static int wrong = 0;
    private static int looked = 0;

    private Due() {
    }

    static void is(String call, long got, long want) {
        looked++;
        if (got == want) return;
        wrong++;
        System.out.println(call + " answered " + got + ", due is " + want);
    }

    static void holds(String what, boolean is) {
        is(what, is ? 1 : 0, 1);
    }

    static void write(OldWorks x, String law) {
        for (int i = 0; i < law.length(); i++) {
            is("write " + law.charAt(i) + " of " + law, x.write(law.charAt(i)), i + 1);
        }
    }

    /** Ends the test: exit code 1 if an answer was wrong. */
    static void end(String test) {
        System.out.println(test + ": " + looked + " answers, " + wrong + " wrong");
        if (wrong > 0 || looked == 0) System.exit(1);
    }
}
