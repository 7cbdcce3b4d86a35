import java.io.IOException;
import java.lang.reflect.Constructor;
import java.lang.reflect.Field;
import java.lang.reflect.Method;
import java.lang.reflect.Modifier;
import java.nio.file.Files;
import java.nio.file.Path;
import java.util.Arrays;
import java.util.HashSet;
import java.util.Set;
import java.util.TreeSet;
import java.util.regex.Matcher;
import java.util.regex.Pattern;

/** The public face is the document's, and the source keeps to the rules that can be looked up in its text. */
public final class FaceTests {
    private static final Path SOURCE = Path.of("src/main/java/LicenceKeeper.java");
    /** I, A and S stand for IndexOutOfBounds-, IllegalArgument- and IllegalStateException in the throws clause. */
    private static final String[] METHODS = {
        "setCores 2 IA", "move 2 IAS", "find 3 IA", "setPrice 2 IA", "release 1 IS", "buy 4 IAS", "upgrade 2 IAS",
        "lend 2 IAS", "pass 1 A", "today 0 ", "rights 0 ", "countOf 1 I", "versionOf 1 I", "latest 1 I", "hostOf 1 I",
        "weight 2 I", "covers 2 I", "gap 1 I", "uncovered 1 I", "gapByAll 1 IS", "gapIf 3 IAS", "spare 1 I"};
    private static final String[] CONSTANTS = {"NONE -1", "DEVICE 0", "CORE 1"};
    private static final Set<String> IMPORTS = Set.of("java.util.ArrayList", "java.util.Arrays");
    private static final String[] BARRED = {
        "->", "::", "\\bcatch\\b", "\\bfinally\\b", "\\bsynchronized\\b", "\\bassert\\b", "\\bSystem\\.(?!arraycopy)",
        "\\bMath\\.random", "\\w+Exact\\b", "\\bThread\\b", "\"\\s*\\+|\\+\\s*\"", "\\bpackage\\b", "\\bprotected\\b"};

    private final Check check = new Check();

    public static void main(String[] args) throws IOException, IllegalAccessException {
        FaceTests tests = new FaceTests();
        tests.members();
        tests.nestedClasses();
        tests.source(Files.readString(SOURCE));
        tests.check.end("FaceTests");
    }

    private void members() throws IllegalAccessException {
        Class<?> face = LicenceKeeper.class;
        check.equal("class", Modifier.toString(face.getModifiers()), "public final");
        Set<String> methods = new TreeSet<>();
        Set<String> names = new HashSet<>();
        for (String method : METHODS) {
            names.add(method.split(" ")[0]);
        }
        for (Method method : face.getDeclaredMethods()) {
            int modifiers = method.getModifiers();
            if (Modifier.isPrivate(modifiers)) {
                check.equal(method + " has a public one's name", names.contains(method.getName()), false);
            } else {
                methods.add(method.getName() + " " + method.getParameterCount() + " " + throwsClause(method));
                check.equal(method + " modifiers", Modifier.toString(modifiers), "public");
                check.equal(method + " answers", method.getReturnType(), int.class);
                check.equal(method + " arguments", allInts(method.getParameterTypes()), true);
            }
        }
        check.equal("methods", methods, new TreeSet<>(Arrays.asList(METHODS)));
        Set<String> constants = new TreeSet<>();
        for (Field field : face.getDeclaredFields()) {
            if (!Modifier.isPrivate(field.getModifiers())) {
                constants.add(field.getName() + " " + field.getInt(null));
                check.equal(field + "", Modifier.toString(field.getModifiers()), "public static final");
            }
            boolean constant = !Modifier.isStatic(field.getModifiers()) || Modifier.isFinal(field.getModifiers());
            check.equal(field + " is no static state", constant, true);
        }
        check.equal("constants", constants, new TreeSet<>(Arrays.asList(CONSTANTS)));
        Constructor<?>[] constructors = face.getDeclaredConstructors();
        check.equal("constructors", constructors.length, 1);
        check.equal("constructor", constructors[0].toString(), "public LicenceKeeper()");
    }

    private static String throwsClause(Method method) {
        StringBuilder letters = new StringBuilder();
        for (Class<?> thrown : method.getExceptionTypes()) {
            String name = thrown.getSimpleName();
            letters.append(name.charAt(name.startsWith("Illegal") ? "Illegal".length() : 0));
        }
        return letters.toString();
    }

    private static boolean allInts(Class<?>[] types) {
        for (Class<?> type : types) {
            if (type != int.class) {
                return false;
            }
        }
        return true;
    }

    private void nestedClasses() {
        for (Class<?> nested : LicenceKeeper.class.getDeclaredClasses()) {
            int modifiers = nested.getModifiers();
            check.equal(nested + " is private", Modifier.isPrivate(modifiers), true);
            check.equal(nested + " is static", Modifier.isStatic(modifiers), true);
            for (Field field : nested.getDeclaredFields()) {
                check.equal(field + " is no static state", Modifier.isStatic(field.getModifiers()), false);
            }
        }
    }

    private void source(String text) {
        String code = text.replaceAll("(?s)/\\*.*?\\*/", "").replaceAll("//[^\n]*", "");
        for (String barred : BARRED) {
            check.equal("source has " + barred, Pattern.compile(barred).matcher(code).find(), false);
        }
        Matcher imports = Pattern.compile("import\\s+([\\w.* ]+);").matcher(code);
        while (imports.find()) {
            check.equal("import " + imports.group(1), IMPORTS.contains(imports.group(1)), true);
        }
        boolean plain = text.chars().allMatch(sign -> sign == '\n' || sign >= 32 && sign < 127);
        check.equal("source is plain text", plain, true);
    }
}
