import java.io.IOException;
import java.lang.reflect.InvocationTargetException;
import java.lang.reflect.Method;
import java.lang.reflect.Modifier;
import java.nio.file.Files;
import java.nio.file.Path;
import java.util.List;
import java.util.regex.Matcher;
import java.util.regex.Pattern;

/** README.md: its example is called line by line, its text is read, and it speaks of all calls and all tests. */
public final class ReadmeTest extends Checks {
    private static final Pattern LINE = Pattern.compile("sack\\.(\\w+)\\(([^)]*)\\); +// (-?\\d+|true|false)(:.*)?");

    private static Method named(String name) {
        for (Method m : KnapsackCore.class.getDeclaredMethods()) {
            if (m.getName().equals(name) && Modifier.isPublic(m.getModifiers())) {
                return m;
            }
        }
        return null;
    }

    private static void exampleLine(KnapsackCore x, String line)
            throws IllegalAccessException, InvocationTargetException {
        Matcher told = LINE.matcher(line);
        Method call = told.matches() ? named(told.group(1)) : null;
        if (call == null) {
            fail("README.md: this line can not be tested: " + line);
            return;
        }
        String[] numbers = told.group(2).isEmpty() ? new String[0] : told.group(2).split(", ");
        Object[] arguments = new Object[numbers.length];
        for (int k = 0; k < numbers.length; k++) {
            arguments[k] = Integer.valueOf(numbers[k]);
        }
        String answer = String.valueOf(call.invoke(x, arguments));
        if (!answer.equals(told.group(3))) {
            fail("README.md: " + line + " answered " + answer);
        }
    }

    private static void example(String readme) throws IllegalAccessException, InvocationTargetException {
        Matcher block = Pattern.compile("```java\n(.*?)```", Pattern.DOTALL).matcher(readme);
        if (!block.find()) {
            fail("README.md has no example");
            return;
        }
        String[] lines = block.group(1).split("\n");
        dueTrue("README.md: the first line of the example makes an object",
                lines[0].equals("KnapsackCore sack = new KnapsackCore();"));
        KnapsackCore x = new KnapsackCore();
        for (int k = 1; k < lines.length; k++) {
            exampleLine(x, lines[k]);
        }
    }

    private static void text(String readme) {
        Matcher told = Pattern.compile("`(room \\d+; item [^`]*;)`").matcher(readme);
        if (!told.find()) {
            fail("README.md tells no text");
            return;
        }
        KnapsackCore x = typed(new KnapsackCore(), told.group(1));
        due("README.md: read() of its text", x::read, 4);
        same("README.md: its text tells the example's items", seen(x), seenWithoutActs());
    }

    private static List<String> seenWithoutActs() {
        KnapsackCore x = example();
        x.image(0);
        x.again(0);
        return seen(x);
    }

    private static void speaksOfAll(String readme) throws IOException {
        for (Method m : KnapsackCore.class.getDeclaredMethods()) {
            if (Modifier.isPublic(m.getModifiers())) {
                dueTrue("README.md: it speaks of " + m.getName(), readme.contains("`" + m.getName() + "`"));
            }
        }
        try (var tests = Files.list(Path.of("src/test/java"))) {
            tests.map(test -> test.getFileName().toString().replace(".java", ""))
                    .forEach(name -> dueTrue("README.md: it speaks of " + name, readme.contains("`" + name + "`")));
        }
        dueTrue("README.md: it says how the tests are run", readme.contains("`.ci/run`"));
    }

    /** What README.md says of calls that are refused: those that do not answer NONE. */
    private static void refusedCalls(String readme) {
        KnapsackCore x = new KnapsackCore();
        dueTrue("README.md: it tells these apart", readme.contains("- `room`, `most`, `image`, `again`: false.")
                && readme.contains("- `reduced`, `share`, `part`: 0; so does `swap(0)`")
                && readme.contains("-2 is for `step` and `front` that are stuck"));
        dueFalse("room(-1)", x.room(-1));
        dueFalse("most(1)", x.most(1));
        dueFalse("image(3)", x.image(3));
        dueFalse("again(0)", x.again(0));
        due("reduced(0)", () -> x.reduced(0), 0);
        due("share(0)", () -> x.share(0), 0);
        due("part(1, 0)", () -> x.part(1, 0), 0);
        due("swap(0)", () -> x.swap(0), 0);
        due("fault(false)", () -> x.fault(false), 0);
        due("ahead(false)", () -> x.ahead(false), 0);
        due("item(0, 0)", () -> x.item(0, 0), THROWS);
        due("set(1, 0)", () -> x.set(1, 0), THROWS);
        KnapsackCore stuck = example();
        stuck.most(2);
        stuck.step();
        due("step() that is stuck", stuck::step, -2);
        due("front(-1, 0) that is stuck", () -> stuck.front(-1, 0), -2);
        due("other(10) that is stuck", () -> stuck.other(10), -1);
        due("shelve(1, 0, false, 0)", () -> stuck.shelve(1, 0, false, 0), -2);
    }

    public static void main(String[] args) throws Exception {
        String readme = Files.readString(Path.of("README.md"));
        example(readme);
        text(readme);
        speaksOfAll(readme);
        refusedCalls(readme);
        end("README.md holds");
    }
}
