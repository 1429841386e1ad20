import java.lang.reflect.Constructor;
import java.lang.reflect.Field;
import java.lang.reflect.Method;
import java.lang.reflect.Modifier;
import java.nio.file.Files;
import java.nio.file.Path;
import java.util.ArrayList;
import java.util.List;
import java.util.Set;
import java.util.TreeSet;
import java.util.regex.Matcher;
import java.util.regex.Pattern;

/** The face, and those rules of LANGUAGE.md that can be seen in the source's words. */
public final class LanguageTest {
    private static final Due due = new Due();

    private static final String[] FACE = {
        "int mourner(int,int,int)", "int joint(int)", "int piece(int,int)", "int feast(int,int,int)", "int skip()",
        "int boil(int,int,int)", "int day(int)", "int undo()", "int type(long,int)", "int clear()", "int read()",
        "int grief(int,int)", "int opens(int)", "int lasts(int)", "int open()", "int hire(int)", "int who(int)",
        "int saves(int)", "int tears(int,int,int)", "int fact(int,int,int)", "int forget()", "int likely(int,int)",
        "int odds(int,int,int,int)", "int harm(int)", "long part(int)", "int image(int)", "int from(int)",
        "int status(int)", "int count(int)", "long digest()"};

    private static final String[] FORBIDDEN = {
        "\\bthrow\\b", "\\bthrows\\b", "\\btry\\b", "\\bcatch\\b", "\\bassert\\b", "\\bsynchronized\\b", "->", "::",
        "\\bException\\b", "\\bError\\b", "Exact\\b", "\\bstatic\\s*\\{", "\\bhashCode\\b", "\\btoString\\b",
        "\\brandom\\b", "\\bRandom\\b", "\\bcurrentTimeMillis\\b", "\\bnanoTime\\b", "\\bThread\\b", "\\bObject\\b",
        "\\bpackage\\b", "\\bprotected\\b", "\\bvar\\b", "\\bSystem\\.(?!arraycopy\\b)", "\\bArrays\\.(?!fill\\b)",
        "\\bMath\\.(?!max\\b|min\\b)", "\\bInteger\\.(?!bitCount\\b)"};

    public static void main(String[] args) throws Exception {
        List<String> lines = Files.readAllLines(Path.of("src/main/java/GriefGlue.java"));
        faceIsAsTold();
        nestedClassesAreAsTold();
        nothingForbidden(lines);
        onlyConstructorsMake(lines);
        methodsAreShort(lines);
        due.end();
    }

    private static void faceIsAsTold() {
        Set<String> want = new TreeSet<>(List.of(FACE));
        Set<String> got = new TreeSet<>();
        Set<String> names = new TreeSet<>();
        for (Method method : GriefGlue.class.getDeclaredMethods()) {
            if (!Modifier.isPrivate(method.getModifiers())) {
                got.add(signature(method));
                names.add(method.getName());
            }
        }
        due.isTrue("the methods are " + got, got.equals(want));
        due.isTrue("final", Modifier.isFinal(GriefGlue.class.getModifiers()));
        Constructor<?>[] made = GriefGlue.class.getDeclaredConstructors();
        due.isTrue("one constructor", made.length == 1 && made[0].getParameterCount() == 0);
        Set<String> constants = new TreeSet<>();
        for (Field field : GriefGlue.class.getDeclaredFields()) {
            if (!Modifier.isPrivate(field.getModifiers())) {
                constants.add(field.getName());
            }
            boolean constant = !Modifier.isStatic(field.getModifiers()) || Modifier.isFinal(field.getModifiers());
            due.isTrue(field.getName() + " is no static state", constant);
        }
        due.isTrue("the constants are " + constants, constants.equals(Set.of("NONE", "BAD", "NO", "FULL")));
        for (Class<?> inside : GriefGlue.class.getDeclaredClasses()) {
            for (Method method : inside.getDeclaredMethods()) {
                due.isTrue(method + " bears a name of its own", !names.contains(method.getName()));
            }
        }
        for (Method method : GriefGlue.class.getDeclaredMethods()) {
            boolean hidden = Modifier.isPrivate(method.getModifiers());
            due.isTrue(method + " bears a name of its own", !hidden || !names.contains(method.getName()));
        }
    }

    private static String signature(Method method) {
        List<String> types = new ArrayList<>();
        for (Class<?> type : method.getParameterTypes()) {
            types.add(type.getName());
        }
        return method.getReturnType().getName() + " " + method.getName() + "(" + String.join(",", types) + ")";
    }

    private static void nestedClassesAreAsTold() {
        Class<?>[] inside = GriefGlue.class.getDeclaredClasses();
        due.isTrue("at most twelve classes", inside.length <= 11);
        for (Class<?> one : inside) {
            due.isTrue(one + " is static", Modifier.isStatic(one.getModifiers()));
            due.isTrue(one + " is not public", !Modifier.isPublic(one.getModifiers()));
            int fields = 0;
            for (Field field : one.getDeclaredFields()) {
                fields += Modifier.isStatic(field.getModifiers()) ? 0 : 1;
            }
            due.isTrue(one + " has " + fields + " fields", fields <= 20);
            for (Method method : one.getDeclaredMethods()) {
                due.isTrue(method + " takes at most seven", method.getParameterCount() <= 7);
            }
        }
    }

    private static void nothingForbidden(List<String> lines) {
        for (int i = 0; i < lines.size(); i++) {
            String line = code(lines.get(i));
            for (String forbidden : FORBIDDEN) {
                due.isTrue("line " + (i + 1) + " has no " + forbidden, !Pattern.compile(forbidden).matcher(line).find());
            }
            for (int c = 0; c < lines.get(i).length(); c++) {
                due.isTrue("line " + (i + 1) + " has plain signs alone", lines.get(i).charAt(c) < 127);
            }
            if (line.startsWith("import")) {
                due.isTrue(line, line.equals("import java.util.Arrays;"));
            }
        }
    }

    /** The line without its comment and its texts. */
    private static String code(String line) {
        String bare = line.trim();
        if (bare.startsWith("//") || bare.startsWith("/*") || bare.startsWith("*")) {
            return "";
        }
        return bare.replaceAll("\"[^\"]*\"", "\"\"").replaceAll("//.*", "");
    }

    private static void onlyConstructorsMake(List<String> lines) {
        for (int i = 0; i < lines.size(); i++) {
            String line = code(lines.get(i));
            if (line.contains("new ")) {
                boolean field = line.startsWith("private final ") || line.startsWith("this.");
                due.isTrue("line " + (i + 1) + " makes nothing in a call: " + line, field);
            }
        }
    }

    private static void methodsAreShort(List<String> lines) {
        Pattern head = Pattern.compile("^( {4}| {8})(?=\\S).*\\) \\{$");
        for (int i = 0; i < lines.size(); i++) {
            Matcher matcher = head.matcher(lines.get(i));
            if (matcher.find()) {
                String end = matcher.group(1) + "}";
                int last = i;
                while (last < lines.size() && !lines.get(last).equals(end)) {
                    last++;
                }
                due.isTrue("line " + (i + 1) + " begins a method of " + (last - i), last - i <= 60);
            }
        }
    }
}
