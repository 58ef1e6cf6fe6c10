import java.lang.reflect.Constructor;
import java.lang.reflect.Field;
import java.lang.reflect.Method;
import java.lang.reflect.Modifier;
import java.nio.file.Files;
import java.nio.file.Path;
import java.util.ArrayList;
import java.util.Arrays;
import java.util.List;
import java.util.Set;
import java.util.TreeSet;
import java.util.regex.Matcher;
import java.util.regex.Pattern;

/** The public face, and the rules of LANGUAGE.md that can be read off the source or the classes. */
public final class LanguageTest {
    private static final String[] FACE = {
        "int part(int,int,int,int)", "int family(int,int,int,int)", "int write(int)", "int erase()", "int fault()",
        "int worn(int,int)", "int say(int,int,int,int,int)", "int deny(int,boolean)", "int first(int,int)",
        "int quarrel(int,int)", "int chain(int,int)", "int link(int,int,boolean)", "int sum(int,int,int)",
        "int stands(int,int,int)", "int life(int,int)", "int work(int,int,int,int)", "int way(int,int,int,int)",
        "int machine(int)", "int spare(int,int,int)", "int scrap()", "int taking(int)", "int odds(int,int)",
        "int lasts(int,int)", "int half(int)", "int limbs(int)", "int limb(int,int)", "int told(int,boolean)",
        "int fitted()", "int bear(int,int,boolean)", "int along(int)", "int hand(int,int)", "int need(int,int)",
        "int plan(int,int)", "int image(int)", "int from(int)", "int count(int)", "long digest()"
    };
    private static final Set<String> LIBRARY = Set.of("Math.max", "Math.min", "Integer.bitCount", "Arrays.fill",
        "System.arraycopy");
    private static final Set<String> FORBIDDEN = Set.of("throw", "throws", "try", "catch", "finally", "synchronized",
        "assert", "double", "float", "volatile", "transient", "native", "package", "protected", "record", "Object",
        "clone", "equals", "hashCode", "toString", "yield", "var", "instanceof", "null");

    public static void main(String[] args) throws Exception {
        face();
        Class<?>[] inside = OldWorks.class.getDeclaredClasses();
        Due.holds("at most twelve classes", inside.length + 1 <= 12);
        for (Class<?> c : inside) inside(c);
        names(OldWorks.class);
        fields(OldWorks.class);
        source(plain(Files.readString(Path.of("src/main/java/OldWorks.java"))));
        Due.end("LanguageTest");
    }

    private static String told(Method m) {
        List<String> types = new ArrayList<>();
        for (Class<?> type : m.getParameterTypes()) types.add(type.getSimpleName());
        return m.getReturnType().getSimpleName() + " " + m.getName() + "(" + String.join(",", types) + ")";
    }

    private static void face() {
        Class<?> c = OldWorks.class;
        Due.holds("public final", Modifier.isPublic(c.getModifiers()) && Modifier.isFinal(c.getModifiers()));
        Set<String> open = new TreeSet<>();
        for (Method m : c.getDeclaredMethods()) {
            if (m.isSynthetic() || Modifier.isPrivate(m.getModifiers())) continue;
            Due.holds(m.getName() + " is public", Modifier.isPublic(m.getModifiers()));
            Due.holds(m.getName() + " is no static method", !Modifier.isStatic(m.getModifiers()));
            open.add(told(m));
        }
        Due.holds("methods " + open, open.equals(new TreeSet<>(Arrays.asList(FACE))));
        Constructor<?>[] made = c.getDeclaredConstructors();
        Due.is("constructors", made.length, 1);
        Due.holds("public", Modifier.isPublic(made[0].getModifiers()) && made[0].getParameterCount() == 0);
        Set<String> constants = new TreeSet<>();
        for (Field f : c.getDeclaredFields()) {
            if (!Modifier.isPrivate(f.getModifiers())) constants.add(f.toString().replace("OldWorks.", ""));
        }
        Set<String> due = new TreeSet<>();
        for (String name : new String[] {"NONE", "BAD", "NO", "FULL"}) due.add("public static final int " + name);
        Due.holds("constants " + constants, constants.equals(due));
    }

    private static void inside(Class<?> c) {
        Due.holds(c + " is static", Modifier.isStatic(c.getModifiers()));
        Due.holds(c + " is not public", !Modifier.isPublic(c.getModifiers()) && !Modifier.isProtected(c.getModifiers()));
        names(c);
        fields(c);
        Due.is(c + " has classes inside", c.getDeclaredClasses().length, 0);
    }

    private static void names(Class<?> c) {
        Set<String> names = new TreeSet<>();
        for (String signature : FACE) names.add(signature.replaceAll("^\\w+ |\\(.*", ""));
        for (Method m : c.getDeclaredMethods()) {
            boolean open = Modifier.isPublic(m.getModifiers());
            Due.holds(c + " " + m.getName() + " is no public name", open || !names.contains(m.getName()));
            Due.holds(c + " " + m.getName() + " takes at most seven", m.getParameterCount() <= 7);
        }
    }

    private static void fields(Class<?> c) {
        int own = 0;
        for (Field f : c.getDeclaredFields()) {
            boolean constant = Modifier.isStatic(f.getModifiers());
            if (!constant) own++;
            else Due.holds(f + " is final", Modifier.isFinal(f.getModifiers()) && f.getType().isPrimitive());
        }
        Due.holds(c + " has some twenty fields", own <= 20);
    }

    /** The source without what stands in comments, texts and signs. */
    private static String plain(String source) {
        Due.holds("signs below 127", source.chars().allMatch(sign -> sign < 127));
        String text = source.replaceAll("(?s)/\\*.*?\\*/", "").replaceAll("//[^\n]*", "");
        return text.replaceAll("'(\\\\.|[^'\\\\])'", "' '");
    }

    private static void source(String text) {
        Matcher word = Pattern.compile("\\w+").matcher(text);
        while (word.find()) Due.holds("no " + word.group(), !FORBIDDEN.contains(word.group()));
        for (String sign : new String[] {"->", "::", "@", "\"", "static {", "static{", "...", "?>"}) {
            Due.holds("no " + sign, !text.contains(sign));
        }
        Matcher used = Pattern.compile("\\b(Math|Integer|Long|Arrays|System|String)\\.\\w+").matcher(text);
        while (used.find()) Due.holds(used.group(), LIBRARY.contains(used.group()));
        Matcher imported = Pattern.compile("import ([^;]+);").matcher(text);
        while (imported.find()) Due.holds(imported.group(), imported.group(1).equals("java.util.Arrays"));
        loops(text);
        methods(text.split("\n"));
    }

    /** Every loop counts against a bound, or goes over an array. */
    private static void loops(String text) {
        Due.holds("no while, no do", !Pattern.compile("\\b(while|do)\\b").matcher(text).find());
        Matcher loop = Pattern.compile("\\bfor \\((.*)").matcher(text);
        int many = 0;
        while (loop.find()) {
            String head = loop.group(1);
            boolean over = head.matches("int \\w+ : \\w+\\) .*");
            boolean up = head.matches("int (\\w+) = [^;]+; \\1 (<|<=) [^;]+; \\1\\+\\+\\).*");
            boolean down = head.matches("int (\\w+) = [^;]+; \\1 >= 0[^;]*; \\1--\\).*");
            Due.holds("for (" + head, over || up || down);
            many++;
        }
        Due.holds("loops were seen", many > 40);
    }

    /** Methods of some sixty lines, and not one that makes an object but the constructors. */
    private static void methods(String[] lines) {
        Pattern head = Pattern.compile("^( {4}| {8})(?! )[^=;]*\\b(\\w+)\\([^=;]*\\) \\{$");
        String name = "";
        int since = -1;
        for (int i = 0; i < lines.length; i++) {
            Matcher m = head.matcher(lines[i]);
            if (m.matches()) {
                name = m.group(2);
                since = i;
            }
            if (since >= 0 && lines[i].matches("^( {4}| {8})\\}$")) {
                Due.holds(name + " is of some sixty lines", i - since < 60);
                since = -1;
            }
            boolean makes = since >= 0 && lines[i].contains("new ");
            Due.holds("line " + (i + 1) + ": " + name + " makes nothing", !makes || Character.isUpperCase(name.charAt(0)));
        }
    }
}
