import java.io.IOException;
import java.lang.reflect.Constructor;
import java.lang.reflect.Executable;
import java.lang.reflect.Field;
import java.lang.reflect.Method;
import java.lang.reflect.Modifier;
import java.nio.file.Files;
import java.nio.file.Path;
import java.util.ArrayList;
import java.util.HashSet;
import java.util.List;
import java.util.NoSuchElementException;
import java.util.Set;
import java.util.TreeSet;
import java.util.regex.Matcher;
import java.util.regex.Pattern;

/** The public face, and what of ../shared/LANGUAGE.md can be seen from the class and its text. */
public final class LanguageTest {
    private static final Set<String> FACE = new TreeSet<>(List.of(
        "int sign(int)", "boolean end(int)", "int board()", "int laws()", "int rule()",
        "int pit(int) throws NoSuchElementException", "int store(int) throws NoSuchElementException",
        "int sheet(int, int, int, int)", "int moves(int)", "int plays(int)", "int passes()", "int adds(int, int)", "int game()",
        "int undo()", "int would(int)", "int worth(int)", "int best()", "int most()", "int chain()", "int longest()",
        "int threat()", "int risks(int)", "int starves()", "int looks(int)", "int ways(int, int)", "int reach(int)",
        "int luck(int, int)", "int when(int)", "int ends()", "int round()", "int fullest(int)", "int alone(int)", "int comes()",
        "int heard(int, int)", "int forget()", "int fits()", "int asks()", "int saw(int, int)", "int denies()", "int guess()",
        "int tries()", "int bids(int)", "int other()", "int years(int, int)", "boolean keep(int)", "boolean again(int)",
        "int count(int)", "long row(int) throws NoSuchElementException"));
    private static final Set<String> LIBRARY = Set.of("System.arraycopy", "Math.max", "Math.min", "Integer.bitCount",
        "Long.bitCount", "Long.numberOfTrailingZeros");
    private static final List<String> RULED_OUT = List.of("\\btry\\b", "\\bcatch\\b", "\\bfinally\\b", "\\bsynchronized\\b",
        "\\bassert\\b", "\\bpackage\\b", "\\bnative\\b", "\\bvolatile\\b", "\\bvar\\b", "\\brecord\\b", "\\bdouble\\b",
        "\\bfloat\\b", "\\bThread\\b", "\\bObject\\b", "\\.hashCode\\b", "\\.toString\\b", "->", "::", "while \\(true\\)",
        "for \\(;;\\)", "\\bstatic \\{", "\" *\\+", "\\+ *\"", "Exact\\(", "getMessage", "yield");
    private static final int MOST_CLASSES = 12;
    private static final int MOST_FIELDS = 20;
    private static final int MOST_PARAMETERS = 7;
    private static final int MOST_LINES = 60;

    private LanguageTest() {
    }

    public static void main(String[] args) throws IOException {
        face();
        constructorAndConstant();
        List<Class<?>> classes = new ArrayList<>(List.of(SowingBoards.class.getDeclaredClasses()));
        Due.same("rule 11: classes at most", classes.size() + 1 <= MOST_CLASSES, true);
        for (Class<?> inside : classes) {
            int of = inside.getModifiers();
            Due.same("rule 1: " + inside + " is static, not public", Modifier.isStatic(of) && !Modifier.isPublic(of), true);
        }
        classes.add(SowingBoards.class);
        for (Class<?> each : classes) {
            members(each);
            fields(each);
        }
        text(Files.readString(Path.of("src/main/java/SowingBoards.java")));
        Due.finish("LanguageTest");
    }

    private static void face() {
        Set<String> found = new TreeSet<>();
        for (Method method : SowingBoards.class.getDeclaredMethods()) {
            if (Modifier.isPublic(method.getModifiers())) {
                found.add(told(method));
                Due.same("not static: " + method, Modifier.isStatic(method.getModifiers()), false);
            }
        }
        Set<String> missing = new TreeSet<>(FACE);
        missing.removeAll(found);
        found.removeAll(FACE);
        Due.same("the face: missing " + missing, missing.size(), 0);
        Due.same("the face: too many " + found, found.size(), 0);
        Due.same("public final", Modifier.isFinal(SowingBoards.class.getModifiers())
            && Modifier.isPublic(SowingBoards.class.getModifiers()), true);
    }

    private static String told(Method method) {
        List<String> parameters = new ArrayList<>();
        for (Class<?> type : method.getParameterTypes()) {
            parameters.add(type.getSimpleName());
        }
        String told = method.getReturnType().getSimpleName() + " " + method.getName() + "(" + String.join(", ", parameters) + ")";
        for (Class<?> thrown : method.getExceptionTypes()) {
            told += " throws " + (thrown == NoSuchElementException.class ? "NoSuchElementException" : thrown.getName());
        }
        return told;
    }

    private static void constructorAndConstant() {
        Constructor<?>[] constructors = SowingBoards.class.getConstructors();
        Due.same("constructors", constructors.length, 1);
        Due.same("its parameters", constructors[0].getParameterCount(), 0);
        Field[] constants = SowingBoards.class.getFields();
        Due.same("public constants", constants.length, 1);
        Due.same("NONE", constants[0].getName().equals("NONE"), true);
        Due.same("NONE is a constant", Modifier.isStatic(constants[0].getModifiers())
            && Modifier.isFinal(constants[0].getModifiers()) && constants[0].getType() == int.class, true);
        Due.same("NONE", SowingBoards.NONE, -1);
    }

    private static void members(Class<?> each) {
        Set<String> names = new HashSet<>();
        for (String call : FACE) {
            names.add(call.substring(call.indexOf(' ') + 1, call.indexOf('(')));
        }
        List<Executable> members = new ArrayList<>(List.of(each.getDeclaredMethods()));
        members.addAll(List.of(each.getDeclaredConstructors()));
        for (Executable member : members) {
            Due.same("rule 11: parameters of " + member, member.getParameterCount() <= MOST_PARAMETERS, true);
            boolean isPrivate = Modifier.isPrivate(member.getModifiers());
            boolean isOfFace = each == SowingBoards.class && Modifier.isPublic(member.getModifiers());
            Due.same("rule 1: private or of the face: " + member, isPrivate || isOfFace || member.isSynthetic(), true);
            Due.same("rule 1: a name of the face: " + member, isOfFace || !names.contains(member.getName())
                || member instanceof Constructor, true);
        }
    }

    private static void fields(Class<?> each) {
        int own = 0;
        for (Field field : each.getDeclaredFields()) {
            int of = field.getModifiers();
            boolean isStatic = Modifier.isStatic(of);
            own += isStatic ? 0 : 1;
            Due.same("rule 5: final: " + field, !isStatic || Modifier.isFinal(of), true);
            Due.same("rule 1: private: " + field, Modifier.isPrivate(of) || field.getName().equals("NONE"), true);
        }
        Due.same("rule 11: fields of " + each, own <= MOST_FIELDS, true);
    }

    private static void text(String file) {
        // Comments are no code; what stands in a text or between two ' is none, either.
        String code = file.replaceAll("(?s)/\\*.*?\\*/", "").replaceAll("//[^\n]*", "")
            .replaceAll("\"[^\"\n]*\"", "\"\"").replaceAll("'[^'\n]'", "' '");
        for (String pattern : RULED_OUT) {
            Due.same("ruled out: " + pattern, Pattern.compile(pattern).matcher(code).find(), false);
        }
        for (String name : found(code, "\\b([A-Z][a-z]\\w*\\.\\w+)\\(")) {
            String owner = name.substring(0, name.indexOf('.'));
            Due.same("rule 4: " + name, LIBRARY.contains(name) || code.contains("class " + owner + " {"), true);
        }
        Due.same("imports", found(code, "import ([^;]+);").equals(Set.of("java.util.NoSuchElementException")), true);
        Due.same("rule 6: thrown", found(code, "throw ([^(]*)").equals(Set.of("new NoSuchElementException")), true);
        lengths(code);
    }

    private static Set<String> found(String code, String pattern) {
        Set<String> found = new TreeSet<>();
        Matcher matcher = Pattern.compile(pattern).matcher(code);
        while (matcher.find()) {
            found.add(matcher.group(1));
        }
        return found;
    }

    private static void lengths(String code) {
        int methods = 0;
        Matcher method = Pattern.compile("(?m)^( +)(?:public|private)[^;={]*\\([^;{]*\\{\n(?s:.*?)\n\\1\\}\n").matcher(code);
        for (int from = 0; method.find(from); from = method.end()) {
            methods++;
            int lines = method.group().split("\n").length;
            Due.same("rule 11: lines of " + method.group().split("\n")[0], lines <= MOST_LINES, true);
        }
        Due.same("methods were found", methods > FACE.size(), true);
    }
}
