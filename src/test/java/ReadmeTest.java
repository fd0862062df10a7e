import java.io.IOException;
import java.lang.reflect.Method;
import java.lang.reflect.Modifier;
import java.nio.file.Files;
import java.nio.file.Path;
import java.util.Set;
import java.util.TreeSet;
import java.util.regex.Matcher;
import java.util.regex.Pattern;

/** The example of README.md: each answer that it tells is the class's own. */
public final class ReadmeTest {
    private static final Checks C = new Checks();
    private static final Pattern EXAMPLE = Pattern.compile("(?s)```java\n(.*?)\n```");
    private static final Pattern LINE = Pattern.compile("x\\.(\\w+)\\(([^()]*)\\);\\s+// (-?\\d+|BAD|NO|FULL|NONE): \\S.*");

    public static void main(String[] args) throws IOException, ReflectiveOperationException {
        String readme = Files.readString(Path.of("README.md"));
        Matcher example = EXAMPLE.matcher(readme);
        C.due("an example", example.find() ? 1 : 0, 1);
        Set<String> called = follow(example.group(1).split("\n"));
        C.due("one example", example.find() ? 1 : 0, 0);
        C.due("the example leaves out no call: " + called, called.equals(allCalls()) ? 1 : 0, 1);
        for (String word : new String[] {"`BAD` (-1)", "`NO` (-2)", "`FULL` (-3)", "`NONE` (-4)", "    .ci/run\n"}) {
            C.due("README.md tells " + word, readme.contains(word) ? 1 : 0, 1);
        }
        C.end("ReadmeTest");
    }

    /** Calls the example line by line; which calls it names. */
    private static Set<String> follow(String[] lines) throws ReflectiveOperationException {
        Set<String> called = new TreeSet<>();
        C.due("an object is made: " + lines[0], lines[0].equals("ThrownHome x = new ThrownHome();") ? 1 : 0, 1);
        ThrownHome x = new ThrownHome();
        for (int k = 1; k < lines.length; k++) {
            Matcher line = LINE.matcher(lines[k]);
            boolean whole = line.matches();
            C.due("a call with its answer: " + lines[k], whole ? 1 : 0, 1);
            if (whole) {
                called.add(line.group(1));
                C.due("README.md: " + lines[k], answer(x, line.group(1), line.group(2)), number(line.group(3)));
            }
        }
        return called;
    }

    private static long answer(ThrownHome x, String call, String numbers) throws ReflectiveOperationException {
        String[] told = numbers.isEmpty() ? new String[0] : numbers.split(", ");
        for (Method m : ThrownHome.class.getDeclaredMethods()) {
            if (m.getName().equals(call) && m.getParameterCount() == told.length) {
                Object[] given = new Object[told.length];
                for (int k = 0; k < told.length; k++) {
                    long v = Long.decode(told[k].replace("L", ""));
                    if (m.getParameterTypes()[k] == long.class) {
                        given[k] = v;
                    } else {
                        given[k] = (int) v;
                    }
                }
                return ((Number) m.invoke(x, given)).longValue();
            }
        }
        C.due("there is a call " + call, 0, 1);
        return Long.MIN_VALUE;
    }

    private static long number(String answer) throws ReflectiveOperationException {
        boolean named = Character.isUpperCase(answer.charAt(0));
        return named ? ThrownHome.class.getField(answer).getInt(null) : Long.parseLong(answer);
    }

    private static Set<String> allCalls() {
        Set<String> calls = new TreeSet<>();
        for (Method m : ThrownHome.class.getDeclaredMethods()) {
            if (Modifier.isPublic(m.getModifiers())) {
                calls.add(m.getName());
            }
        }
        return calls;
    }
}
