import java.io.IOException;
import java.lang.management.ManagementFactory;
import java.lang.reflect.Constructor;
import java.lang.reflect.Field;
import java.lang.reflect.InvocationTargetException;
import java.lang.reflect.Method;
import java.lang.reflect.Modifier;
import java.nio.file.Files;
import java.nio.file.Path;
import java.util.ArrayList;
import java.util.Arrays;
import java.util.List;
import java.util.NoSuchElementException;
import java.util.Random;
import java.util.Set;
import java.util.TreeSet;
import java.util.regex.Matcher;
import java.util.regex.Pattern;

/** The face as the document has it, LANGUAGE.md where a text can tell, calls with any arguments, and what a run makes. */
public final class FaceRuns {
    private static final String[] FACE = {
        "int feed(long,long,long)", "int city()", "int months()", "int man(int,int)", "int danger(int,int)", "boolean may(int,int)",
        "boolean name(int,int)", "boolean master(int)", "int month(int)", "int disobey(int,int)", "int lay()", "boolean undo()", "int judged(int)",
        "int soon(int,int)", "int whom(int)", "int terms(int)", "int headings(int,int)", "int all(int)", "int waits(int)",
        "int chance(int,int,int,int)", "int falls(int)", "int anew(int,int)", "boolean tell(int,int,int)", "int who()", "int when(int)",
        "int rests(int,int,int,int)", "int ages(int,int,int)", "boolean mark(int,boolean)", "int count(int)"};
    private static final String TOWN = "man a plain skill 4 field 12 want 1;man b poor skill 7 field 25 want 2;man c proud skill 5 field 50 want 3;"
        + "man d idle skill 9 field 99 want 9;man e idle skill 3 field 9 want 0;man f poor skill 8 field 1 want 5;consul a;consul c;hates a b;"
        + "danger p size 10 grows 2;danger q size 66 grows 9;danger r size 1 grows 0;danger s size 99 grows 1;danger t size 20 grows 3;"
        + "decree u;decree v on u;decree w on v u;works able+passed*2-(large<5);keeps liked+greed-left*2<4;";
    private static int wrong = 0;

    private static void check(boolean so, String what) {
        if (!so) {
            wrong++;
            System.out.println("wrong: " + what);
        }
    }

    private static void face() {
        Class<?> c = PloughCall.class;
        check(Modifier.isPublic(c.getModifiers()) && Modifier.isFinal(c.getModifiers()), "public final class");
        Set<String> due = new TreeSet<>(Arrays.asList(FACE));
        Set<String> found = new TreeSet<>();
        Set<String> names = new TreeSet<>();
        for (Method m : c.getDeclaredMethods()) {
            if (!Modifier.isPrivate(m.getModifiers()) && !m.isSynthetic()) {
                StringBuilder b = new StringBuilder(m.getReturnType() + " " + m.getName() + "(");
                for (Class<?> p : m.getParameterTypes()) {
                    b.append(b.charAt(b.length() - 1) == '(' ? "" : ",").append(p);
                }
                found.add(b + ")");
                names.add(m.getName());
                boolean throwing = m.getName().equals("chance") || m.getName().equals("rests");
                check(Arrays.equals(m.getExceptionTypes(), throwing ? new Class<?>[] {NoSuchElementException.class} : new Class<?>[0]), "throws of " + m);
            }
        }
        check(found.equals(due), "methods are " + found);
        for (Field f : c.getDeclaredFields()) {
            check(Modifier.isPrivate(f.getModifiers()) || f.getName().equals("NONE"), "field " + f);
        }
        Constructor<?>[] made = c.getDeclaredConstructors();
        check(made.length == 1 && Modifier.isPublic(made[0].getModifiers()) && made[0].getParameterCount() == 0, "one constructor");
        List<Class<?>> all = new ArrayList<>(List.of(c));
        all.addAll(Arrays.asList(c.getDeclaredClasses()));
        check(all.size() <= 12, "twelve classes");
        for (Class<?> k : all) {
            int fields = 0;
            for (Field f : k.getDeclaredFields()) {
                boolean fixed = Modifier.isStatic(f.getModifiers());
                check(!fixed || Modifier.isFinal(f.getModifiers()), "static " + f);
                fields += fixed ? 0 : 1;
            }
            check(fields <= 20, "twenty fields of " + k);
            for (Method m : k.getDeclaredMethods()) {
                check(m.getParameterCount() <= 7, "seven parameters of " + m);
                boolean ofFace = k == c && Modifier.isPublic(m.getModifiers());
                check(ofFace || !names.contains(m.getName()), "a name of the face: " + m);
            }
        }
    }

    private static void language() throws IOException {
        String path = System.getProperty("plough.source", "src/main/java/PloughCall.java");
        String source = Files.readString(Path.of(path)).replaceAll("(?s)/\\*.*?\\*/", "").replaceAll("//[^\n]*", "");
        String code = source.replaceAll("\"[^\"\n]*\"", "\"\"");
        String[] none = {"->", "::", "\\bfinally\\b", "\\bsynchronized\\b", "\\bassert\\b", "\\bpackage\\b", "\\bcatch\\b", "Exact\\(", "\\bObject\\b",
            "\\bSystem\\.(?!arraycopy)", "\\bString\\.", "\\bnew Random\\b", "static\\s*\\{", "\"\"\\s*\\+", "\\+\\s*\"\"", "\\.equals\\(", "hashCode", "toString",
            "\\bdouble\\b", "\\bfloat\\b", "@", "\\bvar\\b", "Integer\\.MAX", "Thread", "\\bprotected\\b"};
        for (String n : none) {
            Matcher m = Pattern.compile(n).matcher(code);
            check(!m.find(), "the source has " + n);
        }
        Matcher imports = Pattern.compile("import ([^;]+);").matcher(code);
        while (imports.find()) {
            check(imports.group(1).equals("java.util.NoSuchElementException"), "import " + imports.group(1));
        }
        check(source.chars().allMatch(ch -> ch == 10 || ch >= 32 && ch < 127), "signs of the source");
        Matcher news = Pattern.compile("throw new (\\w+)\\(").matcher(code);
        while (news.find()) {
            check(news.group(1).equals("NoSuchElementException"), "throws " + news.group(1));
        }
        int lines = 0;
        for (String line : source.split("\n")) {
            boolean head = line.matches("( {4}| {8})(public |private |static |final )*[\\w\\[\\]<>]+ \\w+\\(.*\\{");
            lines = head ? 0 : lines + 1;
            check(!line.matches("( {4}| {8})\\}") || lines <= 60, "sixty lines up to " + line + lines);
        }
    }

    private static void feed(PloughCall x, String text) {
        for (int from = 0; from < text.length(); from += 24) {
            long[] parts = new long[3];
            for (int i = 0; i < 24 && from + i < text.length(); i++) {
                parts[i / 8] |= (long) text.charAt(from + i) << 56 - 8 * (i % 8);
            }
            x.feed(parts[0], parts[1], parts[2]);
        }
    }

    private static Object any(Random r, Class<?> type) {
        if (type == boolean.class) {
            return r.nextBoolean();
        }
        if (type == long.class) {
            return r.nextInt(4) == 0 ? r.nextLong() : 0x6d616e20612a3b00L + r.nextInt();
        }
        int[] edges = {Integer.MIN_VALUE, Integer.MAX_VALUE, -1, -2, 6, 5, 12, 13, 99, 100, 495, 64, 1000000, 1 << 30};
        return r.nextInt(4) == 0 ? edges[r.nextInt(edges.length)] : r.nextInt(6);
    }

    private static void anyCalls() throws IllegalAccessException {
        for (int run = 0; run < 400; run++) {
            Random r = new Random(run);
            PloughCall x = new PloughCall();
            if (run % 4 != 0) {
                feed(x, TOWN);
                check(x.city() == 0, "the town");
            }
            Method[] methods = Arrays.stream(PloughCall.class.getDeclaredMethods()).filter(m -> Modifier.isPublic(m.getModifiers()))
                .sorted((a, b) -> a.getName().compareTo(b.getName())).toArray(Method[]::new);
            for (int call = 0; call < 512; call++) {
                Method m = methods[r.nextInt(methods.length)];
                if (m.getName().equals("city") && r.nextInt(20) > 0) {
                    continue;
                }
                Object[] args = Arrays.stream(m.getParameterTypes()).map(t -> any(r, t)).toArray();
                try {
                    m.invoke(x, args);
                } catch (InvocationTargetException e) {
                    boolean due = e.getCause().getClass() == NoSuchElementException.class && m.getExceptionTypes().length == 1;
                    check(due, m + " of " + Arrays.toString(args) + " threw " + e.getCause());
                }
            }
        }
    }

    // A run's calls share one room; these make nothing, so that it can't grow full.
    private static void room() {
        com.sun.management.ThreadMXBean threads = (com.sun.management.ThreadMXBean) ManagementFactory.getThreadMXBean();
        long most = 0;
        for (int round = 0; round < 3; round++) {
            long before = threads.getCurrentThreadAllocatedBytes();
            PloughCall x = new PloughCall();
            long made = threads.getCurrentThreadAllocatedBytes() - before;
            check(made < 100000, "an object takes " + made + " bytes");
            feed(x, TOWN);
            x.city();
            before = threads.getCurrentThreadAllocatedBytes();
            for (int i = 0; i < 60; i++) {
                x.name(2, 1);
                x.master(3);
                x.month(i % 5);
                x.mark(i % 4, i % 3 == 0);
                x.headings(5, 0);
                x.all(-1);
                x.judged(0);
                x.ages(i, 99, 2);
                x.terms(1);
                x.who();
                x.when(1);
                x.chance(1, 1, 3, 12);
                x.tell(0, 0, 10);
                x.feed(0x6c61793b00000000L, 0, 0);
                x.months();
            }
            most = threads.getCurrentThreadAllocatedBytes() - before;
        }
        check(most < 50000, "calls made " + most + " bytes");
    }

    public static void main(String[] args) throws Exception {
        face();
        language();
        anyCalls();
        room();
        System.out.println(wrong == 0 ? "the face is as the document has it" : wrong + " things are wrong");
        if (wrong != 0) {
            System.exit(1);
        }
    }
}
