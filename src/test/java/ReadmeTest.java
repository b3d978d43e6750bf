import java.io.IOException;
import java.lang.reflect.InvocationTargetException;
import java.lang.reflect.Method;
import java.nio.file.Files;
import java.nio.file.Path;
import java.util.ArrayList;
import java.util.HashSet;
import java.util.List;
import java.util.NoSuchElementException;
import java.util.Set;
import java.util.TreeSet;
import java.util.regex.Matcher;
import java.util.regex.Pattern;

/** README.md: each example is run line by line, and answers what stands behind it. */
public final class ReadmeTest {
    private static final Pattern CALL = Pattern.compile("x\\.(\\w+)\\(([^)]*)\\);\\s*// (.*)");
    private static final Pattern TEXT = Pattern.compile("tell\\(x, \"([^\"]*)\"\\);");
    private static final Pattern ANSWER = Pattern.compile("(-?\\d+|true|false|throws NoSuchElementException)(:.*)?");
    private static final String NEW = "SowingBoards x = new SowingBoards();";
    private static final String HELPER = "static void tell(SowingBoards x, String signs) {";

    private final Set<String> called = new HashSet<>();
    private SowingBoards x;

    public static void main(String[] args) throws IOException {
        ReadmeTest test = new ReadmeTest();
        for (List<String> block : blocks(Files.readAllLines(Path.of("README.md")))) {
            if (block.get(0).equals(HELPER)) {
                helper(block);
            } else {
                test.example(block);
            }
        }
        test.eachCallIsShown();
        Due.finish("ReadmeTest");
    }

    /** The lines of each example, from one fence to the next. */
    private static List<List<String>> blocks(List<String> lines) {
        List<List<String>> blocks = new ArrayList<>();
        boolean inside = false;
        for (String line : lines) {
            if (line.startsWith("```")) {
                inside = line.equals("```java");
                if (inside) {
                    blocks.add(new ArrayList<>());
                }
            } else if (inside) {
                blocks.get(blocks.size() - 1).add(line);
            }
        }
        return blocks;
    }

    // The helper as README.md has it: what is compiled here is what is told there.
    static void tell(SowingBoards x, String signs) {
        x.end(0);
        for (int i = 0; i < signs.length(); i += 4) {
            int v = 0;
            for (int j = i; j < i + 4; j++) {
                v = v << 8 | (j < signs.length() ? signs.charAt(j) : 0);
            }
            x.sign(v);
        }
        x.end(signs.length());
    }

    private static void helper(List<String> block) throws IOException {
        String here = Files.readString(Path.of("src/test/java/ReadmeTest.java"));
        StringBuilder told = new StringBuilder();
        for (String line : block) {
            told.append("    ").append(line).append('\n');
        }
        Due.same("README.md: the helper is the one that is compiled", here.contains(told), true);
    }

    private void example(List<String> block) {
        for (String line : block) {
            Matcher text = TEXT.matcher(line);
            Matcher call = CALL.matcher(line);
            if (line.equals(NEW)) {
                x = new SowingBoards();
            } else if (text.matches()) {
                tell(x, text.group(1));
            } else if (call.matches()) {
                answers(line, call.group(1), call.group(2), call.group(3));
            } else {
                Due.broken("README.md: can't be run: " + line);
            }
        }
    }

    private void answers(String line, String name, String arguments, String comment) {
        called.add(name);
        Matcher told = ANSWER.matcher(comment);
        String got = answer(name, arguments);
        Due.same("README.md: " + line + " (it answers " + got + ")", told.matches() && told.group(1).equals(got), true);
    }

    private String answer(String name, String arguments) {
        String[] told = arguments.isEmpty() ? new String[0] : arguments.split(", ");
        Class<?>[] types = new Class<?>[told.length];
        Object[] numbers = new Object[told.length];
        for (int i = 0; i < told.length; i++) {
            types[i] = int.class;
            numbers[i] = Integer.valueOf(told[i]);
        }
        try {
            return String.valueOf(SowingBoards.class.getMethod(name, types).invoke(x, numbers));
        } catch (InvocationTargetException e) {
            boolean due = e.getCause() instanceof NoSuchElementException;
            return due ? "throws NoSuchElementException" : "throws " + e.getCause();
        } catch (ReflectiveOperationException e) {
            return "no such call: " + e;
        }
    }

    private void eachCallIsShown() {
        called.add("sign");
        called.add("end");
        Set<String> missing = new TreeSet<>();
        for (Method method : SowingBoards.class.getDeclaredMethods()) {
            if (java.lang.reflect.Modifier.isPublic(method.getModifiers()) && !called.contains(method.getName())) {
                missing.add(method.getName());
            }
        }
        Due.same("README.md: calls without an example " + missing, missing.size(), 0);
    }
}
