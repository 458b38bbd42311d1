import java.lang.reflect.Executable;
import java.lang.reflect.Field;
import java.lang.reflect.Method;
import java.lang.reflect.Modifier;
import java.nio.file.Files;
import java.nio.file.Path;
import java.util.ArrayList;
import java.util.Arrays;
import java.util.List;
import java.util.TreeSet;
import java.util.regex.Matcher;
import java.util.regex.Pattern;

/** The face of the document, and the rules of LANGUAGE.md that can be seen in the text or in the classes. */
public final class LanguageTest {
    private static final Check check = new Check("LanguageTest");
    private static final String[] FACE = {
        "ratio(long,long)", "root(int,int,int,int)", "row(int,int)", "rule(int)", "act(int,int,int)", "turn(int)",
        "factor(int,int)", "mix(int,int)", "drop(int)", "told(int,int)", "part(int,int)", "exact(int,int)",
        "round(int,int)", "sign(int)", "compare(int,int)", "near(int,int,int)", "best(int,int,int,int)",
        "figure(int,int,int)", "roll(int,int)", "count(int)"};

    public static void main(String[] args) throws Exception {
        String text = withoutComments(Files.readString(Path.of("src/main/java/RatioStreams.java")));
        face();
        constants();
        for (Class<?> one : allClasses()) {
            members(one);
        }
        words(text);
        onlyTheConstructorMakesObjects(text);
        check.end();
    }

    private static String withoutComments(String text) {
        return text.replaceAll("(?s)/\\*.*?\\*/", " ").replaceAll("//[^\n]*", " ");
    }

    private static List<Class<?>> allClasses() {
        List<Class<?>> all = new ArrayList<>();
        all.add(RatioStreams.class);
        all.addAll(Arrays.asList(RatioStreams.class.getDeclaredClasses()));
        check.due("at most twelve classes", all.size() <= 12 ? 1 : 0, 1);
        return all;
    }

    private static void face() {
        TreeSet<String> found = new TreeSet<>();
        for (Method m : RatioStreams.class.getDeclaredMethods()) {
            if (!Modifier.isPrivate(m.getModifiers())) {
                check.dueText("what " + m.getName() + " gives", m.getReturnType().getName(), "long");
                found.add(m.getName() + Arrays.toString(m.getParameterTypes())
                    .replace("[", "(").replace("]", ")").replace(" ", ""));
            }
        }
        check.dueText("the face", found.toString(), new TreeSet<>(Arrays.asList(FACE)).toString());
        check.due("final", Modifier.isFinal(RatioStreams.class.getModifiers()) ? 1 : 0, 1);
        check.due("constructors", RatioStreams.class.getDeclaredConstructors().length, 1);
    }

    private static void constants() {
        TreeSet<String> found = new TreeSet<>();
        for (Field f : RatioStreams.class.getDeclaredFields()) {
            if (!Modifier.isPrivate(f.getModifiers())) {
                found.add(f.getType() + " " + f.getName());
            }
        }
        check.dueText("the constants", found.toString(),
            "[int NONE, long FULL, long ISFAR, long ISOPEN, long OUTSIDE, long STATE, long UNKNOWN]");
    }

    private static void members(Class<?> one) {
        TreeSet<String> names = new TreeSet<>();
        for (String call : FACE) {
            names.add(call.substring(0, call.indexOf('(')));
        }
        List<Executable> all = new ArrayList<>(Arrays.asList(one.getDeclaredMethods()));
        all.addAll(Arrays.asList(one.getDeclaredConstructors()));
        for (Executable e : all) {
            check.due("seven parameters at most: " + e, e.getParameterCount() <= 7 ? 1 : 0, 1);
            boolean hidden = Modifier.isPrivate(e.getModifiers());
            check.due("no name of the face: " + e, hidden && names.contains(e.getName()) ? 1 : 0, 0);
        }
        int fields = 0;
        for (Field f : one.getDeclaredFields()) {
            boolean shared = Modifier.isStatic(f.getModifiers());
            fields += shared ? 0 : 1;
            check.due("static and not final: " + f, shared && !Modifier.isFinal(f.getModifiers()) ? 1 : 0, 0);
        }
        check.due("twenty fields at most: " + one, fields <= 20 ? 1 : 0, 1);
        if (one != RatioStreams.class) {
            check.due("static: " + one, Modifier.isStatic(one.getModifiers()) ? 1 : 0, 1);
        }
    }

    private static void words(String text) {
        String[] refused = {
            "\\b(throw|throws|try|catch|finally|synchronized|assert|import|package|protected|float|double)\\b",
            "->", "::", "\\w*Exact\\s*\\(", "\\b(System|Thread|Class|Object|Random|Long|Integer)\\b", "\""};
        for (String pattern : refused) {
            Matcher m = Pattern.compile(pattern).matcher(text);
            check.dueText("refused", m.find() ? m.group() : "nothing", "nothing");
        }
        Matcher m = Pattern.compile("Math\\.(\\w+)").matcher(text);
        while (m.find()) {
            check.due("Math." + m.group(1), List.of("abs", "floorDiv").contains(m.group(1)) ? 1 : 0, 1);
        }
    }

    private static void onlyTheConstructorMakesObjects(String text) {
        for (String line : text.split("\n")) {
            boolean makes = line.matches(".*\\bnew\\b.*");
            boolean early = line.matches("\\s*private final .* = new .*") || line.contains("streams[i] = new Stream();");
            check.dueText("a line that makes objects", makes && !early ? line : "", "");
        }
    }
}
