import java.io.IOException;
import java.lang.reflect.Constructor;
import java.lang.reflect.Field;
import java.lang.reflect.Method;
import java.lang.reflect.Modifier;
import java.nio.charset.StandardCharsets;
import java.nio.file.Files;
import java.nio.file.Path;
import java.util.ArrayList;
import java.util.List;
import java.util.Set;
import java.util.regex.Matcher;
import java.util.regex.Pattern;

/** Those rules of LANGUAGE.md that can be read off the class and its text; it runs in the project's directory. */
public final class VaneHouseLanguageTest {
    private static final Path SOURCE = Path.of("src/main/java/VaneHouse.java");
    private static final Set<String> LIBRARY = Set.of("java.util.ArrayList", "java.util.Arrays", "java.util.Iterator",
        "java.util.List", "java.util.NoSuchElementException");
    private static final Set<Class<?>> CONSTANTS = Set.of(int.class, long.class, boolean.class, char.class, String.class,
        int[].class, long[].class, char[].class, byte[].class);
    // The rules leave room for some catches, and for equals of two texts. The class needs none of these: so no catch can
    // hide what the machine throws.
    private static final String[] RULED_OUT = {"->", "::", "\\bpackage\\b", "\\btry\\b", "\\bcatch\\b", "\\bfinally\\b",
        "\\bassert\\b", "\\bsynchronized\\b", "\\bvolatile\\b", "\\bThread\\b", "\\bRandom\\b", "\\w+Exact\\(", "\\bnative\\b",
        "\\bstatic\\s*\\{", "\\bSystem\\.(?!arraycopy\\b)", "\\bObject\\b", "\\bgetMessage\\b", "\\b(equals|hashCode|toString)\\("};
    private static final Pattern THROW = Pattern.compile("\\bthrow\\b(?! new (IllegalState|IllegalArgument|IndexOutOfBounds|"
        + "Arithmetic|UnsupportedOperation|NoSuchElement|Runtime)Exception\\((\"[^\"]*\")?\\);)");
    private static final Pattern METHOD = Pattern.compile("(?m)^((?: {4}){1,2})(?=\\S)[^;={}]*\\([^;={}]*\\)[^;={}]*\\{$");

    private static int wrong;

    public static void main(String[] args) throws IOException {
        List<String> lines = Files.readAllLines(SOURCE, StandardCharsets.ISO_8859_1);
        String text = withoutComments(String.join("\n", lines));
        words(text);
        lengths(text);
        List<Class<?>> classes = new ArrayList<>(List.of(VaneHouse.class.getDeclaredClasses()));
        classes.add(VaneHouse.class);
        expect("rule 11: " + classes.size() + " classes are not too many", classes.size() <= 12);
        for (Class<?> c : classes) {
            fields(c);
            parameters(c);
        }
        System.out.println("VaneHouseLanguageTest: " + wrong + " wrong");
        if (wrong != 0) {
            System.exit(1);
        }
    }

    private static void expect(String what, boolean holds) {
        if (!holds) {
            wrong++;
            System.out.println("not so: " + what);
        }
    }

    private static String withoutComments(String text) {
        return text.replaceAll("(?s)/\\*.*?\\*/", "").replaceAll("//.*", "");
    }

    // Rules 1, 2, 4, 5, 6 and 13
    private static void words(String text) {
        for (char sign : text.toCharArray()) {
            expect("rule 4: sign " + (int) sign + " is 1 to 127", sign >= 1 && sign <= 127);
        }
        Matcher imported = Pattern.compile("(?m)^import (.*);$").matcher(text);
        while (imported.find()) {
            expect("rule 4: " + imported.group(1) + " may be used", LIBRARY.contains(imported.group(1)));
        }
        Matcher thrown = THROW.matcher(text);
        expect("rule 6: every throw makes one of the exceptions that it names", !thrown.find());
        String code = text.replaceAll("\"[^\"]*\"", "\"\"");
        for (String word : RULED_OUT) {
            expect("nowhere stands " + word, !Pattern.compile(word).matcher(code).find());
        }
    }

    // Rule 11
    private static void lengths(String text) {
        int methods = 0;
        Matcher head = METHOD.matcher(text);
        while (head.find()) {
            int end = text.indexOf("\n" + head.group(1) + "}\n", head.end());
            expect("a method's end is found", end >= 0);
            long lines = text.substring(head.start(), Math.max(end, head.start())).lines().count() + 1;
            expect("rule 11: " + head.group().strip() + " has but " + lines + " lines", lines <= 60);
            methods++;
        }
        expect("the methods are found, " + methods, methods >= VaneHouse.class.getDeclaredMethods().length);
    }

    // Rules 5 and 11
    private static void fields(Class<?> owner) {
        int own = 0;
        for (Field f : owner.getDeclaredFields()) {
            if (!Modifier.isStatic(f.getModifiers())) {
                own++;
                continue;
            }
            expect("rule 5: " + f + " is final", Modifier.isFinal(f.getModifiers()));
            expect("rule 5: " + f + " is a constant that may be", mayBeKept(f.getType()));
        }
        expect("rule 11: " + own + " fields of " + owner + " are not too many", own <= 20);
    }

    private static boolean mayBeKept(Class<?> type) {
        return CONSTANTS.contains(type) || type.isEnum() || type.isArray() && type.getComponentType().isEnum();
    }

    // Rule 11
    private static void parameters(Class<?> owner) {
        for (Method m : owner.getDeclaredMethods()) {
            expect("rule 11: at most seven parameters, " + m, m.getParameterCount() <= 7);
        }
        for (Constructor<?> c : owner.getDeclaredConstructors()) {
            expect("rule 11: at most seven parameters, " + c, c.getParameterCount() <= 7);
        }
    }
}
