import java.io.IOException;
import java.lang.reflect.Constructor;
import java.lang.reflect.Field;
import java.lang.reflect.Method;
import java.lang.reflect.Modifier;
import java.nio.file.Files;
import java.nio.file.Path;
import java.util.Arrays;
import java.util.HashSet;
import java.util.Set;
import java.util.TreeSet;
import java.util.regex.Matcher;
import java.util.regex.Pattern;

/** The public face is the document's, and the source keeps to the rules that can be looked up in its text. */
public final class FaceTests {
    private static final Path SOURCE = Path.of("src/main/java/LicenceKeeper.java");
    private static final String[] METHODS = {
        "setCores 2", "move 2", "find 3", "setPrice 2", "release 1", "buy 4", "upgrade 2", "lend 2", "pass 1",
        "today 0", "rights 0", "countOf 1", "versionOf 1", "latest 1", "hostOf 1", "weight 2", "covers 2",
        "gap 1", "uncovered 1", "gapByAll 1", "gapIf 3", "spare 1"};
    private static final String[] CONSTANTS = {"NONE", "DEVICE", "CORE"};
    private static final Set<String> IMPORTS = Set.of("java.util.ArrayList", "java.util.Arrays");
    private static final String[] BARRED = {
        "->", "::", "\\bcatch\\b", "\\bfinally\\b", "\\bsynchronized\\b", "\\bassert\\b", "\\bSystem\\.(?!arraycopy)",
        "\\bMath\\.random", "\\w+Exact\\b", "\\bThread\\b", "\"\\s*\\+|\\+\\s*\"", "\\bpackage\\b", "\\bprotected\\b"};

    private final Check check = new Check();

    public static void main(String[] args) throws IOException {
        FaceTests tests = new FaceTests();
        tests.members();
        tests.nestedClasses();
        tests.source(Files.readString(SOURCE));
        tests.check.end("FaceTests");
    }

    private void members() {
        Class<?> face = LicenceKeeper.class;
        check.equal("class", Modifier.toString(face.getModifiers()), "public final");
        Set<String> methods = new TreeSet<>();
        Set<String> names = new HashSet<>();
        for (String method : METHODS) {
            names.add(method.split(" ")[0]);
        }
        for (Method method : face.getDeclaredMethods()) {
            int modifiers = method.getModifiers();
            if (Modifier.isPrivate(modifiers)) {
                check.equal(method + " has a public one's name", names.contains(method.getName()), false);
            } else {
                methods.add(method.getName() + " " + method.getParameterCount());
                check.equal(method + " modifiers", Modifier.toString(modifiers), "public");
                check.equal(method + " answers", method.getReturnType(), int.class);
                check.equal(method + " arguments", allInts(method.getParameterTypes()), true);
            }
        }
        check.equal("methods", methods, new TreeSet<>(Arrays.asList(METHODS)));
        Set<String> constants = new TreeSet<>();
        for (Field field : face.getDeclaredFields()) {
            if (!Modifier.isPrivate(field.getModifiers())) {
                constants.add(field.getName());
                check.equal(field + "", Modifier.toString(field.getModifiers()), "public static final");
            }
            boolean constant = !Modifier.isStatic(field.getModifiers()) || Modifier.isFinal(field.getModifiers());
            check.equal(field + " is no static state", constant, true);
        }
        check.equal("constants", constants, new TreeSet<>(Arrays.asList(CONSTANTS)));
        Constructor<?>[] constructors = face.getDeclaredConstructors();
        check.equal("constructors", constructors.length, 1);
        check.equal("constructor", constructors[0].toString(), "public LicenceKeeper()");
    }

    private static boolean allInts(Class<?>[] types) {
        for (Class<?> type : types) {
            if (type != int.class) {
                return false;
            }
        }
        return true;
    }

    private void nestedClasses() {
        for (Class<?> nested : LicenceKeeper.class.getDeclaredClasses()) {
            int modifiers = nested.getModifiers();
            check.equal(nested + " is private", Modifier.isPrivate(modifiers), true);
            check.equal(nested + " is static", Modifier.isStatic(modifiers), true);
            for (Field field : nested.getDeclaredFields()) {
                check.equal(field + " is no static state", Modifier.isStatic(field.getModifiers()), false);
            }
        }
    }

    private void source(String text) {
        String code = text.replaceAll("(?s)/\\*.*?\\*/", "").replaceAll("//[^\n]*", "");
        for (String barred : BARRED) {
            check.equal("source has " + barred, Pattern.compile(barred).matcher(code).find(), false);
        }
        Matcher imports = Pattern.compile("import\\s+([\\w.* ]+);").matcher(code);
        while (imports.find()) {
            check.equal("import " + imports.group(1), IMPORTS.contains(imports.group(1)), true);
        }
        boolean plain = text.chars().allMatch(sign -> sign == '\n' || sign >= 32 && sign < 127);
        check.equal("source is plain text", plain, true);
    }
}
