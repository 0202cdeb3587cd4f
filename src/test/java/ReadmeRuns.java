import java.io.IOException;
import java.lang.reflect.Method;
import java.nio.file.Files;
import java.nio.file.Path;
import java.util.List;
import java.util.regex.Matcher;
import java.util.regex.Pattern;

/** README.md's example, line by line: what each call answers is what the comment behind it begins with. */
public final class ReadmeRuns {
    private static final Pattern FED = Pattern.compile("feedText\\(call, \"([^\"]*)\"\\);");
    private static final Pattern CALLED = Pattern.compile("call\\.(\\w+)\\(([^)]*)\\); +// (\\S+): .*");
    private static int wrong = 0;
    private static int checked = 0;

    private static void feedText(PloughCall call, String text) {
        for (int from = 0; from < text.length(); from += 24) {
            long[] parts = new long[3];
            for (int i = 0; i < 24 && from + i < text.length(); i++) {
                parts[i / 8] |= (long) text.charAt(from + i) << 56 - 8 * (i % 8);
            }
            call.feed(parts[0], parts[1], parts[2]);
        }
    }

    private static Method named(String name) {
        for (Method m : PloughCall.class.getMethods()) {
            if (m.getDeclaringClass() == PloughCall.class && m.getName().equals(name)) {
                return m;
            }
        }
        throw new IllegalArgumentException("no call " + name);
    }

    private static Object[] numbers(String arguments) {
        if (arguments.isEmpty()) {
            return new Object[0];
        }
        String[] parts = arguments.split(", ");
        Object[] all = new Object[parts.length];
        for (int i = 0; i < parts.length; i++) {
            all[i] = Integer.valueOf(parts[i]);
        }
        return all;
    }

    private static void complain(String what) {
        wrong++;
        System.out.println(what);
    }

    private static void runExample(List<String> lines) throws ReflectiveOperationException {
        PloughCall call = null;
        for (String line : lines) {
            Matcher fed = FED.matcher(line);
            Matcher called = CALLED.matcher(line);
            if (line.equals("PloughCall call = new PloughCall();")) {
                call = new PloughCall();
            } else if (fed.matches()) {
                feedText(call, fed.group(1));
            } else if (called.matches()) {
                checked++;
                String got = String.valueOf(named(called.group(1)).invoke(call, numbers(called.group(2))));
                if (!got.equals(called.group(3))) {
                    complain("README.md: " + line + " answered " + got);
                }
            } else {
                complain("README.md: what is this? " + line);
            }
        }
    }

    private static void namesEveryCall(List<String> readme) {
        StringBuilder table = new StringBuilder();
        for (String line : readme) {
            if (line.startsWith("| ")) {
                table.append(line);
            }
        }
        for (Method m : PloughCall.class.getDeclaredMethods()) {
            if (java.lang.reflect.Modifier.isPublic(m.getModifiers()) && table.indexOf("`" + m.getName() + "`") < 0) {
                complain("README.md's table does not name " + m.getName());
            }
        }
    }

    public static void main(String[] args) throws IOException, ReflectiveOperationException {
        List<String> readme = Files.readAllLines(Path.of("README.md"));
        int from = readme.indexOf("```java") + 1;
        int to = from + readme.subList(from, readme.size()).indexOf("```");
        runExample(readme.subList(from, to));
        namesEveryCall(readme);
        if (checked == 0) {
            complain("README.md has no example");
        }
        System.out.println(wrong == 0 ? "README.md's " + checked + " answers are as due" : wrong + " are not as due");
        if (wrong != 0) {
            System.exit(1);
        }
    }
}
