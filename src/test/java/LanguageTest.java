import java.io.IOException;
import java.lang.reflect.Constructor;
import java.lang.reflect.Field;
import java.lang.reflect.Method;
import java.lang.reflect.Modifier;
import java.nio.file.Files;
import java.nio.file.Path;
import java.util.Set;
import java.util.TreeSet;
import java.util.regex.Matcher;
import java.util.regex.Pattern;

/** What of ../shared/LANGUAGE.md can be seen from the class and its source. */
public final class LanguageTest {
    private static final Checks C = new Checks();

    public static void main(String[] args) throws IOException {
        String source = Files.readString(Path.of("src/main/java/ThrownHome.java"));
        String code = source.replaceAll("(?s)/\\*.*?\\*/", "").replaceAll("//[^\n]*", "");
        face();
        classesInside(code);
        forbidden(code);
        methods(code);
        C.end("LanguageTest");
    }

    private static void face() {
        Set<String> want = new TreeSet<>(Set.of(
            "int write(int long)", "int wipe()", "int fault()", "int lay()", "int load(int int)", "int far(int int)",
            "int rock(int)", "int price(int)", "int all(int)"));
        want.addAll(Set.of("int aim(int int)", "int move(int int)", "int speed(int int)", "int undo()",
            "int bestAim(int int)", "int bestDay(int int)", "int net(int int)", "int clear()"));
        want.addAll(Set.of("int stray(int int int)", "int meeters(int int)", "int stand(int int int)",
            "long odds(int int int)", "int year(int int)", "int keep()", "int back()", "int count(int)"));
        Set<String> has = new TreeSet<>();
        Set<String> names = new TreeSet<>();
        for (Method m : ThrownHome.class.getDeclaredMethods()) {
            if (!Modifier.isPrivate(m.getModifiers()) && !m.isSynthetic()) {
                has.add(signature(m));
                names.add(m.getName());
                C.due("public, nothing else: " + m, m.getModifiers(), Modifier.PUBLIC);
            }
        }
        C.due("the face is the document's: " + has, has.equals(want) ? 1 : 0, 1);
        for (Method m : ThrownHome.class.getDeclaredMethods()) {
            if (Modifier.isPrivate(m.getModifiers())) {
                C.due("a private name that is a public one: " + m, names.contains(m.getName()) ? 1 : 0, 0);
            }
        }
        C.due("public and final", ThrownHome.class.getModifiers(), Modifier.PUBLIC | Modifier.FINAL);
        C.due("constructors", ThrownHome.class.getDeclaredConstructors().length, 1);
        for (Constructor<?> c : ThrownHome.class.getDeclaredConstructors()) {
            C.due("the constructor", c.getModifiers() == Modifier.PUBLIC && c.getParameterCount() == 0 ? 1 : 0, 1);
        }
        Set<String> constants = Set.of("BAD", "NO", "FULL", "NONE");
        for (Field f : ThrownHome.class.getDeclaredFields()) {
            int kind = f.getModifiers();
            boolean told = constants.contains(f.getName()) ? Modifier.isPublic(kind) : Modifier.isPrivate(kind);
            C.due("a field: " + f, told ? 1 : 0, 1);
            C.due("a static field is final: " + f, Modifier.isStatic(kind) && !Modifier.isFinal(kind) ? 1 : 0, 0);
        }
    }

    private static String signature(Method m) {
        StringBuilder s = new StringBuilder(m.getReturnType() + " " + m.getName() + "(");
        for (Class<?> p : m.getParameterTypes()) {
            s.append(s.charAt(s.length() - 1) == '(' ? "" : " ").append(p);
        }
        return s.append(")").toString();
    }

    private static void classesInside(String code) {
        int classes = 1;
        for (Class<?> inside : ThrownHome.class.getDeclaredClasses()) {
            classes++;
            int kind = inside.getModifiers();
            C.due("static, not public: " + inside, Modifier.isStatic(kind) && !Modifier.isPublic(kind) ? 1 : 0, 1);
            int fields = 0;
            for (Field f : inside.getDeclaredFields()) {
                C.due("no static field inside: " + f, Modifier.isStatic(f.getModifiers()) ? 1 : 0, 0);
                fields++;
            }
            C.due("fields of " + inside, fields <= 20 ? 1 : 0, 1);
        }
        C.due("classes", classes <= 12 ? 1 : 0, 1);
    }

    private static void forbidden(String code) {
        String[] words = {"throw", "throws", "try", "catch", "finally", "synchronized", "assert", "import", "package",
            "native", "volatile", "transient", "protected", "instanceof", "equals", "hashCode", "toString", "System\\.(?!arraycopy)"};
        for (String word : words) {
            Matcher m = Pattern.compile("\\b" + word + (word.endsWith(")") ? "" : "\\b")).matcher(code);
            C.due("no " + word, m.find() ? 1 : 0, 0);
        }
        for (String sign : new String[] {"->", "::", "@", "static {"}) {
            C.due("no " + sign, code.contains(sign) ? 1 : 0, 0);
        }
        // Every cell is read and put behind a look at its index: in four places alone.
        Matcher cells = Pattern.compile("\\w\\[[^\\]]").matcher(code.replaceAll("new int\\[", ""));
        int looked = 0;
        while (cells.find()) {
            looked++;
        }
        C.due("places that use an index", looked, 4);
    }

    /** A method begins with a line that ends with ") {" at the depth of members. */
    private static void methods(String code) {
        String[] lines = code.split("\n");
        Pattern head = Pattern.compile("^(    |        )(?=\\S)(?!if|for|while|switch|return)[\\w\\[\\]<> ]+\\(([^()]*)\\) \\{$");
        int found = 0;
        for (int k = 0; k < lines.length; k++) {
            Matcher m = head.matcher(lines[k]);
            if (m.matches()) {
                found++;
                int end = k;
                while (end < lines.length && !lines[end].equals(m.group(1) + "}")) {
                    end++;
                }
                C.due("lines of" + lines[k], end - k < 60 ? 1 : 0, 1);
                C.due("parameters of" + lines[k], m.group(2).split(",").length <= 7 ? 1 : 0, 1);
            }
        }
        C.due("methods are found", found > 70 ? 1 : 0, 1);
    }
}
