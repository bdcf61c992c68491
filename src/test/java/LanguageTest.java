import java.lang.reflect.Field;
import java.lang.reflect.Method;
import java.lang.reflect.Modifier;
import java.nio.file.Files;
import java.nio.file.Path;
import java.util.HashSet;
import java.util.Set;
import java.util.TreeSet;
import java.util.regex.Matcher;
import java.util.regex.Pattern;

/** The rules of ../shared/LANGUAGE.md that can be seen from outside, by their numbers. */
public final class LanguageTest {
    private static final String[] FACE = {"asks(int,int,int)", "at(int,int)", "copies(int,int,int)", "copy(int,int,int,int,int)", "count(int)",
        "crossings(int)", "digest()", "findings(int)", "gauge(int,boolean)", "go(int,int)", "least(int)", "length(int)", "looks()", "lose(int)",
        "melt(int,int)", "none(int,int,int)", "odd(int)", "oneWay(int,boolean)", "out(int)", "pair(int,int,int)", "part(int,int)",
        "partner(int)", "plough(int,int)", "read(int,int)", "reading(int,int,int)", "round()", "row(int,int)", "salt(int,int)",
        "shut(int,boolean)", "sides(int,int)", "sign(int)", "snow(int)", "split()", "status()", "street(int,int,int,boolean)", "text()",
        "told(int,int)", "trace()", "undo()", "way(int,int)", "wayAt(int,int,int)"};
    private static final String[] CONSTANTS = {"NONE", "BAD", "FULL", "NULL", "INDEX", "CAST", "SIZE", "NO", "DEEP"};
    private static final String[] FORBIDDEN = {"\\btry\\b", "\\bcatch\\b", "\\bfinally\\b", "\\bthrow\\b", "\\bsynchronized\\b", "\\bassert\\b", "->",
        "::", "@", "Exact\\b", "\\bNaN\\b", "\\bFloat\\b", "\\bShort\\b", "\\bDouble\\b", "\\bSystem\\.(?!arraycopy\\b)", "\\bstatic\\s*\\{",
        "\\bequals\\b", "\\bhashCode\\b", "\\btoString\\b", "\\bprotected\\b", "\\bdouble\\b", "\\bMath\\.(?!min\\b|max\\b)"};
    private static int wrong = 0;

    private static void rule(int number, boolean kept, String what) {
        if (!kept) {
            wrong++;
            System.out.println("rule " + number + ": " + what);
        }
    }

    public static void main(String[] args) throws Exception {
        face();
        privateNames();
        classesInside();
        words(Files.readString(Path.of("src/main/java/PloughDepot.java")));
        System.out.println(wrong == 0 ? "the rules that can be seen are kept" : wrong + " rules are broken");
        if (wrong != 0) {
            System.exit(1);
        }
    }

    private static String signature(Method m) {
        StringBuilder s = new StringBuilder(m.getName()).append('(');
        for (Class<?> p : m.getParameterTypes()) {
            s.append(s.charAt(s.length() - 1) == '(' ? "" : ",").append(p.getName());
        }
        return s.append(')').toString();
    }

    private static void face() {
        rule(1, Modifier.isPublic(PloughDepot.class.getModifiers()) && Modifier.isFinal(PloughDepot.class.getModifiers()), "public and final");
        Set<String> methods = new TreeSet<>();
        for (Method m : PloughDepot.class.getDeclaredMethods()) {
            if (!Modifier.isPrivate(m.getModifiers())) {
                methods.add(signature(m));
                rule(1, m.getReturnType() == int.class && !Modifier.isStatic(m.getModifiers()), m.toString());
            }
        }
        rule(1, methods.equals(new TreeSet<>(Set.of(FACE))), "the methods are " + methods);
        Set<String> constants = new TreeSet<>();
        for (Field f : PloughDepot.class.getDeclaredFields()) {
            if (!Modifier.isPrivate(f.getModifiers())) {
                constants.add(f.getName());
            }
        }
        rule(1, constants.equals(new TreeSet<>(Set.of(CONSTANTS))), "the constants are " + constants);
    }

    private static void privateNames() {
        Set<String> names = new HashSet<>();
        for (String signature : FACE) {
            names.add(signature.substring(0, signature.indexOf('(')));
        }
        for (Method m : PloughDepot.class.getDeclaredMethods()) {
            rule(1, !Modifier.isPrivate(m.getModifiers()) || !names.contains(m.getName()), m + " bears a public name");
        }
        for (Class<?> inside : PloughDepot.class.getDeclaredClasses()) {
            for (Method m : inside.getDeclaredMethods()) {
                rule(1, !names.contains(m.getName()), m + " bears a public name");
            }
        }
    }

    private static void classesInside() {
        Class<?>[] inside = PloughDepot.class.getDeclaredClasses();
        rule(11, inside.length + 1 <= 12, "classes: " + (inside.length + 1));
        thrifty(PloughDepot.class);
        for (Class<?> c : inside) {
            rule(1, Modifier.isStatic(c.getModifiers()) && !Modifier.isPublic(c.getModifiers()), c.toString());
            thrifty(c);
        }
    }

    private static void thrifty(Class<?> c) {
        int fields = 0;
        for (Field f : c.getDeclaredFields()) {
            boolean isStatic = Modifier.isStatic(f.getModifiers());
            fields += isStatic ? 0 : 1;
            rule(5, !isStatic || Modifier.isFinal(f.getModifiers()), f.toString());
        }
        rule(11, fields <= 20, c + " has " + fields + " fields");
        for (Method m : c.getDeclaredMethods()) {
            rule(11, m.getParameterCount() <= 7, m.toString());
        }
    }

    private static void words(String source) {
        String code = source.replaceAll("(?s)/\\*.*?\\*/", "").replaceAll("//[^\n]*", "").replaceAll("'.'", "' '");
        Matcher imports = Pattern.compile("import ([^;]*);").matcher(code);
        while (imports.find()) {
            rule(4, imports.group(1).equals("java.util.Arrays"), "import " + imports.group(1));
        }
        for (String word : FORBIDDEN) {
            Matcher m = Pattern.compile(word).matcher(code);
            rule(4, !m.find(), "the text has " + word);
        }
        for (int i = 0; i < source.length(); i++) {
            rule(3, source.charAt(i) < 128, "a sign above 127 at " + i);
        }
        shortMethods(source);
    }

    private static void shortMethods(String source) {
        Matcher m = Pattern.compile("(?ms)^( {4}| {8})(\\S[^\n]*\\) \\{)\n(.*?)^\\1\\}").matcher(source);
        int methods = 0;
        while (m.find()) {
            methods++;
            rule(11, m.group(3).split("\n").length <= 60, "too long: " + m.group(2));
        }
        rule(11, methods > 100, "only " + methods + " methods were seen");
    }
}
