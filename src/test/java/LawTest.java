/** FAULT: each of the 128 characters behind each kind of beginning; brackets, digits and lengths at their edges. */
public final class LawTest {
    private static final String NUMBERS = "0123456789", VALUES = "ylh", OPENERS = "(!-", COMPARES = "<>=";
    private static final String JOINS = "|&+-*/";

    public static void main(String[] args) {
        for (String text : new String[] {"", " ", "(", "( ", "((", "!", "-", "!-!", "y+", "y-", "l*", "h/", "y|", "y&", "y<", "y>",
            "1=", "y<y&", "y<y|", "(y<", "y+(", "y<(y<y)+", "(((((((", "7+ "}) {
            for (int c = 0; c < 128; c++) unitDue(text, (char) c);
        }
        for (String text : new String[] {"y", "l ", "h  ", "7 ", "(y)", "(7)", "(y", "((y)", "!y", "-y", "y+y", "y<y", "(y<y)", "(y<y",
            "y<y+y", "y=y*y", "y>y&y", "y|y", "y<y|y", "(y<y)+y", "y<(y<y)", "((((((((y", "y<y ", "y<-y"}) {
            for (int c = 0; c < 128; c++) unitDone(text, (char) c);
        }
        brackets();
        digits();
        lengths();
        blanks();
        tells();
        Due.end("LawTest");
    }

    private static void fault(String text, int want) {
        new Both().write(text).due("fault", want);
    }

    private static int openIn(String text) {
        int open = 0;
        for (char c : text.toCharArray()) open += c == '(' ? 1 : c == ')' ? -1 : 0;
        return open;
    }

    private static boolean in(String signs, char c) {
        return signs.indexOf(c) >= 0;
    }

    private static void unitDue(String text, char c) {
        int early = 10 * (text.length() + 1) + 1;
        boolean ends = in(NUMBERS, c) || in(VALUES, c);
        if (ends) fault(text + c, openIn(text) > 0 ? early : -1);
        else fault(text + c, in(OPENERS, c) || c == ' ' ? early : 10 * text.length() + 1);
    }

    private static void unitDone(String text, char c) {
        int early = 10 * (text.length() + 1) + 1;
        int here = 10 * text.length() + 1;
        int open = openIn(text);
        String since = text.substring(Math.max(text.lastIndexOf('|'), text.lastIndexOf('&')) + 1);
        boolean compared = comparedIn(since);
        if (c == ' ') fault(text + c, open > 0 ? early : -1);
        else if (c == ')') fault(text + c, open > 1 ? early : open == 1 ? -1 : here);
        else if (in(COMPARES, c)) fault(text + c, compared ? here : early);
        else fault(text + c, in(JOINS, c) ? early : here);
    }

    /** Whether the HELD that the text ends in has been compared already. */
    private static boolean comparedIn(String text) {
        int open = 0;
        for (int i = text.length() - 1; i >= 0; i--) {
            char c = text.charAt(i);
            if (c == ')') open++;
            if (c == '(' && --open < 0) return false;
            if (open == 0 && in(COMPARES, c)) return true;
        }
        return false;
    }

    private static void brackets() {
        for (int many = 1; many <= 12; many++) {
            String opens = "(".repeat(many);
            String closes = ")".repeat(many);
            fault(opens, many > 8 ? 83 : 10 * many + 1);
            fault(opens + "y" + closes, many > 8 ? 83 : -1);
            fault("!-" + opens + "y" + closes, many > 8 ? 103 : -1);
            fault(" " + opens + "y" + closes + "+1", many > 8 ? 93 : -1);
            if (many <= 8) fault(opens + "y" + closes + ")", 10 * (2 * many + 1) + 1);
            if (many <= 8) fault(opens + "y" + closes.substring(1), 10 * (2 * many) + 1);
        }
        // the ninth that is open, not the ninth there is
        fault("(1)+(1)+(1)+(1)+(1)+(1)+(1)+(1)+(1)+(1)", -1);
        fault("(((((((((", 83);
        fault("(((((((y)+((y", 10 * 13 + 1);
        fault("(((((((y)+((((y", 123);
        fault("((((((((y)+(y)+((y", 163);
        fault("((((((((y(", 91);
        fault("((((((((!(", 93);
        fault("((((((((y+ (", 113);
        fault("((((((((y)))))))))", 171);
        fault("(((((((((x", 83);
        fault("(((((((( x", 91);
    }

    private static void digits() {
        for (int many = 1; many <= 12; many++) {
            String number = "9".repeat(many);
            fault(number, many > 6 ? 2 : -1);
            fault("y+" + number, many > 6 ? 22 : -1);
            fault("(" + number + ")", many > 6 ? 12 : -1);
            fault("  -" + number + " ", many > 6 ? 32 : -1);
            fault("0".repeat(many) + "<" + number, many > 6 ? 2 : -1);
            fault("1*" + number + "*", many > 6 ? 22 : 10 * (many + 3) + 1);
            fault(number + number, 2 * many > 6 ? 2 : -1);
            fault(number + " " + number, many > 6 ? 2 : 10 * (many + 1) + 1);
            fault("y" + number, 11);
            fault("(y)" + number, 31);
            fault(number + "y", many > 6 ? 2 : 10 * many + 1);
        }
        fault("123456+1234567", 72);
        fault("1234567+12345678", 2);
        fault("123456 +123456 ", -1);
        fault("x1234567", 1);
        fault("1234567x", 2);
        fault("123456x7", 61);
    }

    /** What ends too early is told at its length, blanks with it. */
    private static void lengths() {
        fault("", 1);
        for (int many = 1; many <= 60; many++) {
            fault(" ".repeat(many), 10 * many + 1);
            fault("-".repeat(many), 10 * many + 1);
            fault("!".repeat(many - 1) + "y", -1);
            fault(" ".repeat(many - 1) + "y", -1);
            fault("y" + " ".repeat(many - 1), -1);
            fault(" ".repeat(many - 1) + "+", 10 * (many - 1) + 1);
            fault(" ".repeat(many - 1) + ")", 10 * (many - 1) + 1);
            fault(" ".repeat(many - 1) + "(", 10 * many + 1);
        }
        fault(" ".repeat(53) + "1234567", 532);
        fault(" ".repeat(51) + "(((((((((", 593);
        fault("y" + "+1".repeat(29), -1);
        fault("y" + "+1".repeat(29) + "+", 601);
        fault("y" + "+1".repeat(29) + "2", -1);
        fault("y" + "+1".repeat(29) + ")", 591);
    }

    private static void blanks() {
        fault(" ( ( y ) < ( l ) & ! h | - 12 * 3 ) ", -1);
        fault("1 2", 21);
        fault("12 3", 31);
        fault("1 +2", -1);
        fault("y y", 21);
        fault("! !1", -1);
        fault("- 1", -1);
        for (char c : new char[] {0, 9, 10, 11, 12, 13, 31, 127}) {
            fault("y" + c, 11);
            fault(c + "y", 1);
        }
    }

    private static void worn(String law, int want) {
        new Both().go("part 30 7 10 -1").write(law).due("worn 0 15", want);
    }

    /** Each sign between each other one: which one binds more, and that like ones go from the left. */
    private static void tells() {
        String joins = JOINS + COMPARES;
        for (char a : joins.toCharArray()) {
            for (char b : joins.toCharArray()) {
                for (String law : new String[] {"7" + a + "3" + b + "2", "0" + a + "5" + b + "5", "-7" + a + "!0" + b + "-2"}) {
                    Both x = new Both().go("part 30 7 10 -1").write(law);
                    Due.holds(law + " is answered", x.ask("worn 0 15") >= 0);
                    boolean twice = in(COMPARES, a) && in(COMPARES, b);
                    int second = law.lastIndexOf(b);
                    if (b == '-' && law.endsWith("-2") && second > 0 && law.charAt(second - 1) == '-') second--;
                    x.due("fault", twice ? 10 * second + 1 : -1);
                }
            }
        }
        worn("8-4-2", 2);
        worn("8-4+2", 6);
        worn("64/4/2", 8);
        worn("64/4*2", 32);
        worn("2+3*4<14", 0);
        worn("2+3*4<15", 1);
        worn("14>2+3*4", 0);
        worn("2*3=3*2", 1);
        worn("1=1&2=2", 1);
        worn("1=2|2=2", 1);
        worn("1|0&0", 1);
        worn("(1|0)&0", 0);
        worn("0&0|1", 1);
        worn("5", 5);
        worn("(5)", 5);
        worn("5&5", 1);
        worn("5|5", 1);
        worn("-2*-3", 6);
        worn("!2*3", 0);
        worn("!(2*0)*3", 3);
        worn("-2+5", 3);
        worn("-(2+5)+9", 2);
        worn("!y", 0);
        worn("!(y-5)", 1);
        worn("y", 5);
        worn("l", 30);
        worn("h", 7);
    }
}
