import java.io.IOException;
import java.lang.reflect.Constructor;
import java.lang.reflect.Field;
import java.lang.reflect.Method;
import java.lang.reflect.Modifier;
import java.nio.file.Files;
import java.nio.file.Path;
import java.util.ArrayList;
import java.util.List;
import java.util.Set;
import java.util.TreeSet;
import java.util.regex.Matcher;
import java.util.regex.Pattern;

/** The face of the document, and such rules of LANGUAGE.md as can be seen without a compiler. */
public final class LanguageTest {
    private static final String SOURCE = "src/main/java/HopHomes.java";
    private static final int MOST_LINES = 60;

    private static final String[] FACE = {
        "int setFrames(int, int)", "int addPage(int)", "int addThread(int)", "int go(int, int)",
        "int set(int, int)", "int read(int, int)", "int write(int, int)", "int fade()",
        "int type(char)", "int clearText()", "int perform()", "int undo()", "int keep()",
        "int restore()", "int home(int, int)", "int page(int, int)", "int thread(int, int)",
        "int hops(int, int)", "int wouldPay(int, int, boolean)", "int trial(int)",
        "int bestPolicy()", "int bestHome(int)", "int event(int, int)", "int count(int)"};

    private static final String[] FORBIDDEN = {
        "\\b(throws?|try|catch|finally|synchronized|assert|import|package|instanceof)\\b",
        "\\b(Object|System\\.(?!arraycopy)|Thread|Random|Iterator)\\b", "\\w+Exact\\b", "->", "::",
        "\\bnew \\w+\\([^)]*\\) *\\{", "\"", "\\b(protected|volatile|transient|native)\\b",
        "\\bwhile\\b", "\\bfor \\(;", "\\b(float|double)\\b"};

    public static void main(String[] args) throws IOException {
        face();
        constants();
        classesInside();
        words();
        lengths();
        Check.end();
    }

    private static void face() {
        Check.holds("the class is public and final", Modifier.isPublic(HopHomes.class.getModifiers())
                && Modifier.isFinal(HopHomes.class.getModifiers()));
        Set<String> found = new TreeSet<>();
        Set<String> publicNames = new TreeSet<>();
        for (Method method : HopHomes.class.getDeclaredMethods()) {
            if (!Modifier.isPrivate(method.getModifiers())) {
                Check.holds(method + " is public", Modifier.isPublic(method.getModifiers()));
                found.add(signature(method));
                publicNames.add(method.getName());
            }
        }
        Check.holds("the methods are those of the document: " + found,
                found.equals(new TreeSet<>(List.of(FACE))));
        for (Class<?> one : allClasses()) {
            for (Method method : one.getDeclaredMethods()) {
                boolean clash = publicNames.contains(method.getName());
                Check.holds(method + " bears no public name",
                        !clash || Modifier.isPublic(method.getModifiers()));
            }
        }
        Constructor<?>[] constructors = HopHomes.class.getDeclaredConstructors();
        Check.due("constructors", constructors.length, 1);
        Check.holds("the constructor is public and has no parameters",
                Modifier.isPublic(constructors[0].getModifiers())
                && constructors[0].getParameterCount() == 0);
    }

    private static String signature(Method method) {
        StringBuilder text = new StringBuilder(method.getReturnType().getName());
        text.append(' ').append(method.getName()).append('(');
        for (int i = 0; i < method.getParameterCount(); i++) {
            text.append(i == 0 ? "" : ", ").append(method.getParameterTypes()[i].getName());
        }
        return text.append(')').toString();
    }

    private static void constants() {
        Set<String> found = new TreeSet<>();
        for (Field field : HopHomes.class.getDeclaredFields()) {
            if (!Modifier.isPrivate(field.getModifiers())) {
                found.add(Modifier.toString(field.getModifiers()) + " " + field.getName());
            }
        }
        Set<String> due = new TreeSet<>();
        for (String name : List.of("UNKNOWN", "BAD_VALUE", "FULL", "NOT_POSSIBLE", "NONE")) {
            due.add("public static final " + name);
        }
        Check.holds("the constants are those of the document: " + found, found.equals(due));
    }

    private static List<Class<?>> allClasses() {
        List<Class<?>> all = new ArrayList<>(List.of(HopHomes.class.getDeclaredClasses()));
        all.add(HopHomes.class);
        return all;
    }

    private static void classesInside() {
        Check.holds("some twelve classes", allClasses().size() <= 12);
        for (Class<?> one : allClasses()) {
            boolean inside = one != HopHomes.class;
            Check.holds(one + " is static and not public", !inside
                    || Modifier.isStatic(one.getModifiers()) && !Modifier.isPublic(one.getModifiers()));
            int fields = 0;
            for (Field field : one.getDeclaredFields()) {
                if (Modifier.isStatic(field.getModifiers())) {
                    Check.holds(field + " is a constant", Modifier.isFinal(field.getModifiers())
                            && field.getType().isPrimitive());
                } else {
                    fields++;
                }
            }
            Check.holds(one + " has some twenty fields", fields <= 20);
            for (Method method : one.getDeclaredMethods()) {
                Check.holds(method + " has few parameters", method.getParameterCount() <= 7);
            }
        }
    }

    private static String withoutComments(String source) {
        return source.replaceAll("(?s)/\\*.*?\\*/", "").replaceAll("//[^\n]*", "");
    }

    private static void words() throws IOException {
        String source = Files.readString(Path.of(SOURCE));
        Check.holds("signs 1 to 127", source.chars().allMatch(sign -> sign >= 1 && sign <= 127));
        for (String pattern : FORBIDDEN) {
            Matcher matcher = Pattern.compile(pattern).matcher(withoutComments(source));
            String found = matcher.find() ? matcher.group() : "";
            Check.holds("no " + pattern + ", but there is " + found, found.isEmpty());
        }
    }

    /** The lines of each method and constructor, told by how far they are indented. */
    private static void lengths() throws IOException {
        List<String> lines = Files.readAllLines(Path.of(SOURCE));
        Pattern head = Pattern.compile("( {4}(?: {4})?)(?! )[a-zA-Z\\[\\] ]+\\(.*\\) \\{");
        int methods = 0;
        for (int i = 0; i < lines.size(); i++) {
            Matcher matcher = head.matcher(lines.get(i));
            if (!matcher.matches() || lines.get(i).matches(" *(if|for|while|switch) .*")) {
                continue;
            }
            int end = lines.subList(i, lines.size()).indexOf(matcher.group(1) + "}");
            Check.holds("an end of " + lines.get(i), end > 0);
            Check.holds("some sixty lines: " + lines.get(i), end < MOST_LINES);
            methods++;
        }
        Check.holds("methods are found", methods > 60);
    }
}
