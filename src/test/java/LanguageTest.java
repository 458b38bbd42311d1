import java.lang.reflect.Array;
import java.lang.reflect.Executable;
import java.lang.reflect.Field;
import java.lang.reflect.Method;
import java.lang.reflect.Modifier;
import java.nio.file.Files;
import java.nio.file.Path;
import java.util.ArrayDeque;
import java.util.ArrayList;
import java.util.Arrays;
import java.util.Collections;
import java.util.IdentityHashMap;
import java.util.List;
import java.util.Set;
import java.util.TreeSet;
import java.util.regex.Matcher;
import java.util.regex.Pattern;

/** The face of the document, and the rules of LANGUAGE.md that can be seen in the text or in the classes. */
public final class LanguageTest {
    private static final Check check = new Check("LanguageTest");
    private static final String[] FACE = {
        "ratio(long,long)", "root(int,int,int,int)", "row(int,int)", "rule(int)", "act(int,int,int)", "turn(int)",
        "factor(int,int)", "mix(int,int)", "drop(int)", "told(int,int)", "part(int,int)", "exact(int,int)",
        "round(int,int)", "sign(int)", "compare(int,int)", "near(int,int,int)", "best(int,int,int,int)",
        "figure(int,int,int)", "roll(int,int)", "count(int)"};

    public static void main(String[] args) throws Exception {
        String text = withoutComments(Files.readString(Path.of("src/main/java/RatioStreams.java")));
        face();
        constants();
        for (Class<?> one : allClasses()) {
            members(one);
        }
        words(text);
        onlyTheConstructorMakesObjects(text);
        shortMethods(text);
        room();
        check.end();
    }

    private static String withoutComments(String text) {
        return text.replaceAll("(?s)/\\*.*?\\*/", " ").replaceAll("//[^\n]*", " ");
    }

    private static List<Class<?>> allClasses() {
        List<Class<?>> all = new ArrayList<>();
        all.add(RatioStreams.class);
        all.addAll(Arrays.asList(RatioStreams.class.getDeclaredClasses()));
        check.due("at most twelve classes", all.size() <= 12 ? 1 : 0, 1);
        return all;
    }

    private static void face() {
        TreeSet<String> found = new TreeSet<>();
        for (Method m : RatioStreams.class.getDeclaredMethods()) {
            if (!Modifier.isPrivate(m.getModifiers())) {
                check.dueText("what " + m.getName() + " gives", m.getReturnType().getName(), "long");
                found.add(m.getName() + Arrays.toString(m.getParameterTypes())
                    .replace("[", "(").replace("]", ")").replace(" ", ""));
            }
        }
        check.dueText("the face", found.toString(), new TreeSet<>(Arrays.asList(FACE)).toString());
        check.due("final", Modifier.isFinal(RatioStreams.class.getModifiers()) ? 1 : 0, 1);
        check.due("constructors", RatioStreams.class.getDeclaredConstructors().length, 1);
    }

    private static void constants() {
        TreeSet<String> found = new TreeSet<>();
        for (Field f : RatioStreams.class.getDeclaredFields()) {
            if (!Modifier.isPrivate(f.getModifiers())) {
                found.add(f.getType() + " " + f.getName());
            }
        }
        check.dueText("the constants", found.toString(),
            "[int NONE, long FULL, long ISFAR, long ISOPEN, long OUTSIDE, long STATE, long UNKNOWN]");
    }

    private static void members(Class<?> one) {
        TreeSet<String> names = new TreeSet<>();
        for (String call : FACE) {
            names.add(call.substring(0, call.indexOf('(')));
        }
        List<Executable> all = new ArrayList<>(Arrays.asList(one.getDeclaredMethods()));
        all.addAll(Arrays.asList(one.getDeclaredConstructors()));
        for (Executable e : all) {
            check.due("seven parameters at most: " + e, e.getParameterCount() <= 7 ? 1 : 0, 1);
            boolean hidden = Modifier.isPrivate(e.getModifiers());
            check.due("no name of the face: " + e, hidden && names.contains(e.getName()) ? 1 : 0, 0);
        }
        int fields = 0;
        for (Field f : one.getDeclaredFields()) {
            boolean shared = Modifier.isStatic(f.getModifiers());
            fields += shared ? 0 : 1;
            check.due("static and not final: " + f, shared && !Modifier.isFinal(f.getModifiers()) ? 1 : 0, 0);
        }
        check.due("twenty fields at most: " + one, fields <= 20 ? 1 : 0, 1);
        if (one != RatioStreams.class) {
            check.due("static: " + one, Modifier.isStatic(one.getModifiers()) ? 1 : 0, 1);
        }
    }

    private static void words(String text) {
        String[] refused = {
            "\\b(throw|throws|try|catch|finally|synchronized|assert|import|package|protected|float|double)\\b",
            "->", "::", "\\w*Exact\\s*\\(", "\\b(System|Thread|Class|Object|Random|Long|Integer)\\b", "\""};
        for (String pattern : refused) {
            Matcher m = Pattern.compile(pattern).matcher(text);
            check.dueText("refused", m.find() ? m.group() : "nothing", "nothing");
        }
        Matcher m = Pattern.compile("Math\\.(\\w+)").matcher(text);
        while (m.find()) {
            check.due("Math." + m.group(1), List.of("abs", "floorDiv").contains(m.group(1)) ? 1 : 0, 1);
        }
    }

    private static void onlyTheConstructorMakesObjects(String text) {
        for (String line : text.split("\n")) {
            boolean makes = line.matches(".*\\bnew\\b.*");
            boolean early = line.matches("\\s*private final .* = new .*") || line.contains("streams[i] = new Stream();");
            check.dueText("a line that makes objects", makes && !early ? line : "", "");
        }
    }

    /** "Methods stay short (some sixty lines)" */
    private static void shortMethods(String text) {
        Matcher m = Pattern.compile("(?m)^( {4}| {8})((?:private|public)[^=;{]*\\)) \\{$(?s:(.*?))^\\1\\}$").matcher(text);
        int found = 0;
        while (m.find()) {
            found++;
            check.due("sixty lines at most: " + m.group(2), m.group(3).lines().count() <= 60 ? 1 : 0, 1);
        }
        check.due("methods are found", found > FACE.length ? 1 : 0, 1);
    }

    /** All that an object holds is there from the first, so that a run of calls takes no more room. */
    private static void room() throws Exception {
        RatioStreams bench = new RatioStreams();
        long[] first = roomOf(bench);
        check.due("objects and arrays", first[0] <= 200 ? 1 : 0, 1);
        check.due("fields and elements", first[1] <= 10000 ? 1 : 0, 1);
        for (int i = 0; i < 40; i++) {
            bench.row(1 + i, i);
            bench.root(i, 1, 2 + i, 1);
            bench.rule(i);
            bench.act(i % 4, i, i / 2);
            bench.best(i, 1000, 0, 0);
            bench.figure(i, 10, 20);
        }
        long[] then = roomOf(bench);
        check.due("objects and arrays, then", then[0], first[0]);
        check.due("fields and elements, then", then[1], first[1]);
    }

    private static long[] roomOf(Object start) throws Exception {
        Set<Object> seen = Collections.newSetFromMap(new IdentityHashMap<>());
        ArrayDeque<Object> ahead = new ArrayDeque<>();
        ahead.add(start);
        long elements = 0;
        while (!ahead.isEmpty()) {
            Object one = ahead.poll();
            if (!seen.add(one)) {
                continue;
            }
            List<Object> inside = new ArrayList<>();
            if (one.getClass().isArray()) {
                elements += Array.getLength(one);
                for (int i = 0; i < Array.getLength(one) && one instanceof Object[]; i++) {
                    inside.add(Array.get(one, i));
                }
            } else {
                for (Field f : one.getClass().getDeclaredFields()) {
                    if (!Modifier.isStatic(f.getModifiers())) {
                        elements++;
                        f.setAccessible(true);
                        inside.add(f.getType().isPrimitive() ? null : f.get(one));
                    }
                }
            }
            for (Object next : inside) {
                if (next != null) {
                    ahead.add(next);
                }
            }
        }
        return new long[] {seen.size(), elements};
    }
}
