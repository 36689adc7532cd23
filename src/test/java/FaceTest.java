import java.lang.reflect.Constructor;
import java.lang.reflect.Field;
import java.lang.reflect.Method;
import java.lang.reflect.Modifier;
import java.nio.file.Files;
import java.nio.file.Path;
import java.util.ArrayList;
import java.util.Arrays;
import java.util.List;
import java.util.Set;
import java.util.TreeSet;
import java.util.regex.Matcher;
import java.util.regex.Pattern;

/** The face is the document's, and the source keeps to those rules of LANGUAGE.md that a scan can see. */
public final class FaceTest {
    private static final String[] METHODS = {
        "int type(int)", "int clear()", "int uplands()", "int one(int,int)", "int saying(int,int)",
        "int wind(int)", "int stray(int,int)", "int lets(int,int,int,int,int)", "int picks(int)",
        "int hours(int)", "int damps(int)", "int plucks(int,int)", "int undo()", "int now(int)",
        "int lands(int,int,int,int,int)", "int call(int,int,int)", "int waits(int,int,int,int)",
        "int relay(int,int,int)", "int allot(int,int)", "int odds(int,int,int,int,int)",
        "int saw(int,int)", "int forget()", "int who()", "int ask()", "int mark(int,int)",
        "int keep(int)", "int back(int)", "int count(int)", "long trace()"};
    private static final String[] FIELDS = {"int BAD", "int STATE", "int FULL", "int NONE", "int NO"};
    private static final String[] BANNED = {
        "throw", "throws", "try", "catch", "finally", "synchronized", "assert", "import", "package", "->", "::",
        "Exact", "Object", "Math.random", "System.currentTimeMillis", "System.nanoTime", "System.out", "System.exit",
        "Thread", "volatile", "transient", "native", "hashCode", "toString", "double", "float"};
    private static int wrong = 0;

    private static void due(String what, Object got, Object want) {
        if (!got.equals(want)) {
            wrong++;
            System.out.println(what + ": " + got + ", due is " + want);
        }
    }

    private static String told(Method m) {
        StringBuilder t = new StringBuilder(m.getReturnType().getName()).append(' ').append(m.getName()).append('(');
        for (Class<?> c : m.getParameterTypes()) {
            t.append(t.charAt(t.length() - 1) == '(' ? "" : ",").append(c.getName());
        }
        return t.append(')').toString();
    }

    private static void face() {
        Class<?> c = WordFletchers.class;
        due("public and final", c.getModifiers(), Modifier.PUBLIC | Modifier.FINAL);
        Set<String> methods = new TreeSet<>();
        Set<String> publicNames = new TreeSet<>();
        for (Method m : c.getDeclaredMethods()) {
            if (Modifier.isPublic(m.getModifiers())) {
                methods.add(told(m));
                publicNames.add(m.getName());
                due(m.getName() + " is of objects", Modifier.isStatic(m.getModifiers()), false);
            } else {
                due(m.getName() + " is private", Modifier.isPrivate(m.getModifiers()), true);
            }
        }
        due("the methods", methods, new TreeSet<>(Arrays.asList(METHODS)));
        for (Method m : c.getDeclaredMethods()) {
            if (Modifier.isPrivate(m.getModifiers())) {
                due("private " + m.getName() + " is public too", publicNames.contains(m.getName()), false);
            }
        }
        Set<String> fields = new TreeSet<>();
        for (Field f : c.getDeclaredFields()) {
            int mods = f.getModifiers();
            if (Modifier.isPublic(mods)) {
                fields.add(f.getType().getName() + " " + f.getName());
                due(f.getName() + " is a constant", Modifier.isStatic(mods) && Modifier.isFinal(mods), true);
            } else {
                due(f.getName() + " is private", Modifier.isPrivate(mods), true);
            }
        }
        due("the constants", fields, new TreeSet<>(Arrays.asList(FIELDS)));
        for (Constructor<?> made : c.getDeclaredConstructors()) {
            due("the constructor", Modifier.isPublic(made.getModifiers()) && made.getParameterCount() == 0, true);
        }
        for (Class<?> inside : c.getDeclaredClasses()) {
            due(inside.getName() + " is static", Modifier.isStatic(inside.getModifiers()), true);
            due(inside.getName() + " is public", Modifier.isPublic(inside.getModifiers()) || Modifier.isProtected(inside.getModifiers()), false);
            for (Field f : inside.getDeclaredFields()) {
                boolean lasting = !Modifier.isStatic(f.getModifiers()) || Modifier.isFinal(f.getModifiers());
                due(inside.getName() + "." + f.getName() + " is no static state", lasting, true);
            }
        }
        due("some twelve classes", c.getDeclaredClasses().length < 12, true);
    }

    /** What rule 11 bounds: parameters, fields beside constants, lines of a method. */
    private static void sizes(String code) {
        List<Class<?>> classes = new ArrayList<>(Arrays.asList(WordFletchers.class.getDeclaredClasses()));
        classes.add(WordFletchers.class);
        for (Class<?> c : classes) {
            for (Method m : c.getDeclaredMethods()) {
                due(c.getName() + "." + m.getName() + " takes seven at most", m.getParameterCount() <= 7, true);
            }
            long fields = Arrays.stream(c.getDeclaredFields()).filter(f -> !Modifier.isStatic(f.getModifiers())).count();
            due(c.getName() + " has some twenty fields", fields <= 20, true);
        }
        Matcher body = Pattern.compile("(?m)^( {4}| {8})(?![^\n]*\\bclass\\b)\\w[^\n;]*\\) \\{\n(?:.*\n)*?\\1\\}").matcher(code);
        int methods = 0;
        while (body.find()) {
            methods++;
            long lines = body.group().lines().count();
            due(body.group().lines().findFirst().orElse("") + " is short", lines <= 60, true);
        }
        due("methods are found", methods > 60, true);
    }

    private static void source() throws Exception {
        String code = Files.readString(Path.of("src/main/java/WordFletchers.java"));
        due("signs are 1 to 127", code.chars().allMatch(sign -> sign > 0 && sign < 128), true);
        sizes(code);
        String bare = code.replaceAll("(?s)/\\*.*?\\*/", " ").replaceAll("//[^\n]*", " ");
        for (String banned : BANNED) {
            String pattern = Character.isLetter(banned.charAt(0)) ? "\\b" + Pattern.quote(banned) + "\\b" : Pattern.quote(banned);
            due("the source has " + banned, Pattern.compile(pattern).matcher(bare).find(), false);
        }
        Matcher library = Pattern.compile("\\b(Math|Integer|System|Arrays|Long)\\.(\\w+)").matcher(bare);
        Set<String> used = new TreeSet<>(Arrays.asList("Math.max", "Math.min", "Math.abs", "Integer.bitCount", "System.arraycopy"));
        while (library.find()) {
            due(library.group() + " is of the library told", used.contains(library.group()), true);
        }
    }

    public static void main(String[] args) throws Exception {
        face();
        source();
        System.out.println(wrong == 0 ? "the face and the source are as due" : wrong + " are not as due");
        if (wrong != 0) System.exit(1);
    }
}
