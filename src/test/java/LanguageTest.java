import java.io.IOException;
import java.lang.reflect.Constructor;
import java.lang.reflect.Field;
import java.lang.reflect.Method;
import java.lang.reflect.Modifier;
import java.nio.file.Files;
import java.nio.file.Path;
import java.util.ArrayList;
import java.util.Arrays;
import java.util.List;
import java.util.Set;
import java.util.TreeSet;
import java.util.regex.Matcher;
import java.util.regex.Pattern;

/** The face of the class, and what of LANGUAGE.md a program can look up. */
public final class LanguageTest {
    private static final Path SOURCE = Path.of("src/main/java/SweeperRounds.java");

    private static final String[] FACE = {
        "int type(int)", "int clearText()", "int load(int)", "int faultKind()", "int addStreet(int,int,int)",
        "int dropStreet(int)", "int lay(int,int,int,int)", "int park(int,int,int,boolean)",
        "int cell(int,int,int,int)", "int street(int,int)", "int set(int,int)", "int addLeg(int,int)",
        "int dropLeg(int)", "int leg(int,int)", "int shift()", "int night(int)", "int rain(int)",
        "int latest(int)", "int ifSpeed(int)", "int bestSpeed()", "int bestOrder(int,boolean)",
        "int nightsTo(int)", "int account(int)", "int undo()", "int count(int)", "long digest()"};

    /** What must not stand in the text at all, comments and constants left out. */
    private static final String[] OUTLAWED = {
        "\\b(throw|throws|try|catch|finally|synchronized|assert|package|native|volatile|transient)\\b",
        "\\bimport (?!java\\.util\\.(ArrayList|List|Arrays|Iterator);)", "\\bstatic\\s*\\{", "::", "Exact\\s*\\(",
        "(?m)^(?!\\s*(case|default)\\b).*->", "\\bhashCode\\s*\\(", "\\bSystem\\.(?!arraycopy\\b)",
        "\\b(Thread|Random|Object|Runtime|Class|Character)\\b", "\\bprotected\\b", "@(?!Override\\b)"};

    /** The rules say "some" of these bounds: a few more are let through. */
    private static final int SOME_CLASSES = 13, SOME_FIELDS = 22, SOME_LINES = 66;

    private static int wrong = 0;

    public static void main(String[] args) throws IOException {
        face();
        members(SweeperRounds.class);
        for (Class<?> inside : SweeperRounds.class.getDeclaredClasses()) {
            members(inside);
            check(Modifier.isStatic(inside.getModifiers()), inside + " is not static");
            check((inside.getModifiers() & (Modifier.PUBLIC | Modifier.PROTECTED)) == 0, inside + " can be seen outside");
        }
        check(SweeperRounds.class.getDeclaredClasses().length <= SOME_CLASSES, "too many classes");
        text(plain(Files.readString(SOURCE)));
        System.out.println(wrong == 0 ? "the language is kept" : wrong + " faults");
        if (wrong != 0) {
            System.exit(1);
        }
    }

    private static void check(boolean right, String fault) {
        if (!right) {
            wrong++;
            System.out.println(fault);
        }
    }

    private static void face() {
        Set<String> want = new TreeSet<>(Arrays.asList(FACE));
        Set<String> got = new TreeSet<>();
        for (Method method : SweeperRounds.class.getDeclaredMethods()) {
            if (!Modifier.isPrivate(method.getModifiers())) {
                check(method.getModifiers() == Modifier.PUBLIC, method + " is not just public");
                got.add(signature(method));
            }
        }
        check(want.equals(got), "the face is " + got + ", due is " + want);
        Constructor<?>[] makers = SweeperRounds.class.getDeclaredConstructors();
        check(makers.length == 1 && Modifier.isPublic(makers[0].getModifiers())
            && makers[0].getParameterCount() == 0, "the constructor is not the one of the face");
        check(SweeperRounds.class.getModifiers() == (Modifier.PUBLIC | Modifier.FINAL),
            "the class is not public and final");
        Set<String> constants = new TreeSet<>();
        for (Field field : SweeperRounds.class.getDeclaredFields()) {
            if (!Modifier.isPrivate(field.getModifiers())) {
                constants.add(field.getName());
            }
        }
        check(constants.equals(new TreeSet<>(List.of("BAD", "STATE", "FULL", "NONE"))),
            "the constants are " + constants);
    }

    private static String signature(Method method) {
        List<String> types = new ArrayList<>();
        for (Class<?> type : method.getParameterTypes()) {
            types.add(type.getName());
        }
        return method.getReturnType().getName() + " " + method.getName() + "(" + String.join(",", types) + ")";
    }

    private static void members(Class<?> of) {
        Set<String> face = new TreeSet<>();
        for (String one : FACE) {
            face.add(one.substring(one.indexOf(' ') + 1, one.indexOf('(')));
        }
        int fields = 0;
        for (Field field : of.getDeclaredFields()) {
            int has = field.getModifiers();
            check(!Modifier.isStatic(has) || Modifier.isFinal(has), field + " is static and not final");
            fields += Modifier.isStatic(has) ? 0 : 1;
        }
        check(fields <= SOME_FIELDS, of + " has too many fields: " + fields);
        for (Method method : of.getDeclaredMethods()) {
            check(method.getParameterCount() <= 7, method + " takes too many parameters");
            check(!Modifier.isPrivate(method.getModifiers()) || !face.contains(method.getName()),
                method + " is private and bears the name of a public one");
        }
    }

    /** The text without comments and without what stands in character and string constants. */
    private static String plain(String source) {
        return source.replaceAll("(?s)/\\*.*?\\*/", "").replaceAll("'(\\\\.|[^'])'", "' '")
            .replaceAll("\"(\\\\.|[^\"\\\\])*\"", "\"\"").replaceAll("//[^\n]*", "");
    }

    private static void text(String plain) {
        for (String pattern : OUTLAWED) {
            Matcher matcher = Pattern.compile(pattern).matcher(plain);
            check(!matcher.find(), "the text has what " + pattern + " finds");
        }
        int since = 0;
        String[] lines = plain.split("\n", -1);
        for (int i = 0; i < lines.length; i++) {
            if (lines[i].matches("(    ){1,2}[^ }].*\\{")) {
                since = i;
            }
            if (lines[i].matches("(    ){1,2}\\}") && !lines[since].contains("class ")) {
                check(i - since <= SOME_LINES, "a method is too long: " + lines[since].trim());
            }
        }
    }
}
