import java.io.IOException;
import java.lang.reflect.Constructor;
import java.lang.reflect.Field;
import java.lang.reflect.Method;
import java.lang.reflect.Modifier;
import java.nio.file.Files;
import java.nio.file.Path;
import java.util.Arrays;
import java.util.List;
import java.util.Set;
import java.util.TreeSet;
import java.util.regex.Matcher;
import java.util.regex.Pattern;
import java.util.stream.Collectors;

/** The face, and what can be seen of LANGUAGE.md's rules in the source and in the class itself. */
public final class LanguageTest {
    private static final Path SOURCE = Path.of("src/main/java/KnapsackCore.java");
    private static int wrong = 0;

    private static final List<String> FACE = List.of(
            "int type(long)", "int read()", "int fault(boolean)", "boolean room(int)", "boolean most(int)",
            "int add(int,int)", "int drop(int)", "int step()", "int solve()", "int undo()", "int count(int)",
            "int item(int,int) throws java.util.NoSuchElementException", "long reduced(int)", "int order(int)",
            "long set(int,int) throws java.util.NoSuchElementException", "long best()", "int share(int)",
            "long linear()", "int part(int,int)", "long greedy(int)", "int swap(int)", "long front(int,int)",
            "int other(int)", "int without(int)", "int with(int)", "int least(int)", "int ahead(boolean)",
            "int shelve(int,int,boolean,int)", "int shelved(int,int,boolean)", "boolean image(int)",
            "boolean again(int)");

    private static void require(boolean holds, String what) {
        if (!holds) {
            wrong++;
            System.out.println(what);
        }
    }

    private static String told(Method m) {
        String parameters = Arrays.stream(m.getParameterTypes()).map(Class::getTypeName)
                .collect(Collectors.joining(","));
        String thrown = Arrays.stream(m.getExceptionTypes()).map(Class::getTypeName).collect(Collectors.joining(","));
        return m.getReturnType().getTypeName() + " " + m.getName() + "(" + parameters + ")"
                + (thrown.isEmpty() ? "" : " throws " + thrown);
    }

    private static void face() {
        Class<?> c = KnapsackCore.class;
        require(Modifier.isFinal(c.getModifiers()) && Modifier.isPublic(c.getModifiers()), "not public and final");
        Set<String> open = new TreeSet<>();
        for (Method m : c.getDeclaredMethods()) {
            if (!Modifier.isPrivate(m.getModifiers())) {
                require(Modifier.isPublic(m.getModifiers()) && !Modifier.isStatic(m.getModifiers()), "not public: " + m);
                open.add(told(m));
            }
        }
        require(open.equals(new TreeSet<>(FACE)), "the face is " + open);
        for (Field f : c.getDeclaredFields()) {
            require(Modifier.isPrivate(f.getModifiers()) || f.getName().equals("NONE"), "an open field: " + f);
            require(!Modifier.isStatic(f.getModifiers()) || Modifier.isFinal(f.getModifiers()), "static state: " + f);
        }
        Constructor<?>[] made = c.getDeclaredConstructors();
        require(made.length == 1 && Modifier.isPublic(made[0].getModifiers()) && made[0].getParameterCount() == 0,
                "the constructors are not one");
        require(KnapsackCore.NONE == -1, "NONE is not -1");
    }

    private static void classesInside() {
        Set<String> names = FACE.stream().map(s -> s.substring(s.indexOf(' ') + 1, s.indexOf('(')))
                .collect(Collectors.toSet());
        Class<?>[] inside = KnapsackCore.class.getDeclaredClasses();
        require(inside.length < 12, "too many classes");
        for (Class<?> c : inside) {
            require(Modifier.isStatic(c.getModifiers()) && !Modifier.isPublic(c.getModifiers()), "not static: " + c);
            int fields = 0;
            for (Field f : c.getDeclaredFields()) {
                fields += Modifier.isStatic(f.getModifiers()) ? 0 : 1;
                require(!Modifier.isStatic(f.getModifiers()) || Modifier.isFinal(f.getModifiers()), "static state: " + f);
            }
            require(fields <= 20, "too many fields: " + c);
            for (Method m : c.getDeclaredMethods()) {
                require(!names.contains(m.getName()), "bears a public method's name: " + m);
                require(m.getParameterCount() <= 7, "too many parameters: " + m);
            }
        }
        for (Method m : KnapsackCore.class.getDeclaredMethods()) {
            require(Modifier.isPublic(m.getModifiers()) || !names.contains(m.getName()), "a public name: " + m);
        }
    }

    /** The source without its comments. */
    private static String code() throws IOException {
        return Files.readString(SOURCE).replaceAll("(?s)/\\*.*?\\*/", "").replaceAll("//[^\n]*", "");
    }

    private static void source() throws IOException {
        String text = code();
        Set<String> imports = new TreeSet<>();
        Matcher m = Pattern.compile("import ([^;]*);").matcher(text);
        while (m.find()) {
            imports.add(m.group(1));
        }
        require(imports.equals(Set.of("java.util.Arrays", "java.util.NoSuchElementException")), "imports " + imports);
        for (String no : List.of("->", "::", "\\btry\\b", "\\bcatch\\b", "\\bfinally\\b", "\\bsynchronized\\b",
                "\\bassert\\b", "Exact\\(", "\\bFloat\\b", "\\bDouble\\b", "\\bObject\\b", "\\bpackage\\b",
                "static \\{", "\\bSystem\\.(?!arraycopy)", "\\bMath\\.(?!floorDiv|max|min)", "\\btoString\\b",
                "\\bequals\\b", "\\bhashCode\\b", "\\[\\]\\[\\]", "static final (float|double)")) {
            Matcher found = Pattern.compile(no).matcher(text);
            require(!found.find(), "not of the language: " + no);
        }
        int begin = -1;
        String[] lines = Files.readString(SOURCE).split("\n");
        for (int k = 0; k < lines.length; k++) {
            require(lines[k].length() <= 120, "a long line: " + (k + 1));
            require(lines[k].chars().allMatch(c -> c >= 32 && c < 127), "a strange sign in line " + (k + 1));
            if (lines[k].matches("( {4}| {8})(?!.*\\bclass\\b)[a-z].*\\) (throws \\w+ )?\\{")) {
                begin = k;
            } else if (lines[k].matches("( {4}| {8})\\}") && begin >= 0) {
                require(k - begin <= 60, "a long method at line " + (begin + 1));
                begin = -1;
            }
        }
    }

    /** Rule 4: of the library's classes nothing but what the rule lists, so no constant of Integer or Long either. */
    private static void library() throws IOException {
        Set<String> listed = Set.of("Math.floorDiv", "Math.max", "Math.min", "Long.bitCount", "System.arraycopy",
                "Arrays.copyOf", "Arrays.fill");
        Matcher m = Pattern.compile("\\b[A-Z][A-Za-z]+\\.\\w+").matcher(code());
        while (m.find()) {
            require(listed.contains(m.group()), "not of the library: " + m.group());
        }
    }

    /** Rule 9: what a while compares is counted up or down in the loop's own lines. */
    private static void loops() throws IOException {
        String[] lines = code().split("\n");
        for (int k = 0; k < lines.length; k++) {
            Matcher m = Pattern.compile("^( *)while \\((\\w+) [<>]=? ").matcher(lines[k]);
            if (!lines[k].contains("while (")) {
                continue;
            }
            boolean counts = false;
            boolean plain = m.find();
            for (int in = k + 1; plain && !lines[in].equals(m.group(1) + "}"); in++) {
                counts |= lines[in].matches(" *" + m.group(2) + "(\\+\\+|--);");
            }
            require(counts, "a loop without a counter: " + lines[k].trim());
        }
    }

    public static void main(String[] args) throws IOException {
        face();
        classesInside();
        source();
        library();
        loops();
        System.out.println(wrong == 0 ? "the language is kept to" : wrong + " rules are broken");
        if (wrong != 0) {
            System.exit(1);
        }
    }
}
