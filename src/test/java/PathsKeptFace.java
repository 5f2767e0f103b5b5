import java.lang.reflect.Constructor;
import java.lang.reflect.Field;
import java.lang.reflect.Member;
import java.lang.reflect.Method;
import java.lang.reflect.Modifier;
import java.nio.file.Files;
import java.nio.file.Paths;
import java.util.ArrayList;
import java.util.Arrays;
import java.util.HashSet;
import java.util.List;
import java.util.Set;
import java.util.TreeSet;
import java.util.regex.Matcher;
import java.util.regex.Pattern;

/** The class has the document's face and nothing beside it, and keeps to what of LANGUAGE.md can be seen in its source. */
public final class PathsKeptFace {
    private static final String[] FACE = {
        "int feed(int,int,int,int,int)", "int text(int)", "int fault(int)", "int named(int,int)", "int path(int,int)",
        "int walker(int,int)", "long law(int,int,int)", "int walk(int,int)", "boolean mow(int)", "boolean carry(int,int)",
        "int go(int)", "int ahead(int,int,int)", "int lapse(int)", "int reach(int)", "int way(int,int)", "int round(int,int,int)",
        "int needed(int)", "int blind()", "int watch()", "int match(int)", "int game(int,int,int,int)", "int rests(int,int)",
        "int rest(int,int,int)", "int tries(int)", "long clear(int,int)", "int see(int,int,int,boolean)", "int strike(int)",
        "boolean known(int)", "int legs(int)", "int sit(int,int,int)", "int chance(int,int,int,int)", "int tried(int,int,int)",
        "int undo()", "int keep()", "int back()", "int count(int)"};
    private static final String[] LIBRARY = {
        "Arrays.fill", "System.arraycopy", "Integer.bitCount", "Integer.MAX_VALUE", "Long.MIN_VALUE",
        "Math.max", "Math.min", "Math.abs"};
    private static final String[] FORBIDDEN = {
        "->", "::", "\\bfinally\\b", "\\bsynchronized\\b", "\\bassert\\b", "Exact\\b", "\\bstatic\\s*\\{", "\\bvar\\b", "\\bpackage\\b",
        "\\bprotected\\b", "\\bgetMessage\\b", "\\bhashCode\\b", "\\btoString\\b", "\\bRuntimeException\\b", "\\bException\\b",
        "\\bThrowable\\b", "\\bArithmeticException\\b", "\\bNullPointerException\\b", "\\bClassCastException\\b", "\"\\s*\\+", "\\+\\s*\""};

    private static int wrong;

    private static void check(boolean right, String what) {
        if (!right) {
            wrong++;
            System.out.println(what);
        }
    }

    public static void main(String[] args) throws Exception {
        face();
        nested();
        source(new String(Files.readAllBytes(Paths.get(System.getProperty("paths.source"))), "ISO-8859-1"));
        System.out.println(wrong == 0 ? "the face is as due" : wrong + " wrong");
        if (wrong != 0) {
            System.exit(1);
        }
    }

    private static String signed(Method m) {
        List<String> types = new ArrayList<>();
        for (Class<?> type : m.getParameterTypes()) {
            types.add(type.getName());
        }
        return m.getReturnType().getName() + " " + m.getName() + "(" + String.join(",", types) + ")";
    }

    private static boolean isPrivate(Member m) {
        return Modifier.isPrivate(m.getModifiers());
    }

    private static void face() throws Exception {
        check(PathsKept.NONE == -1, "NONE");
        check(Modifier.isFinal(PathsKept.class.getModifiers()) && Modifier.isPublic(PathsKept.class.getModifiers()), "public and final");
        check(PathsKept.class.getPackageName().isEmpty(), "no package");
        Set<String> names = new HashSet<>();
        Set<String> open = new TreeSet<>();
        for (Method m : PathsKept.class.getDeclaredMethods()) {
            if (!isPrivate(m)) {
                check(Modifier.isPublic(m.getModifiers()) && !Modifier.isStatic(m.getModifiers()), "not of the face: " + m);
                open.add(signed(m));
                names.add(m.getName());
            }
        }
        check(open.equals(new TreeSet<>(Arrays.asList(FACE))), "another face: " + open);
        for (Method m : PathsKept.class.getDeclaredMethods()) {
            check(!isPrivate(m) || !names.contains(m.getName()), "a private method with the name of a public one: " + m);
        }
        for (Field f : PathsKept.class.getDeclaredFields()) {
            check(isPrivate(f) || f.getName().equals("NONE"), "a field that isn't private: " + f);
        }
        Constructor<?>[] makers = PathsKept.class.getDeclaredConstructors();
        check(makers.length == 1 && makers[0].getParameterCount() == 0 && Modifier.isPublic(makers[0].getModifiers()), "the constructor");
        Class<?>[] thrown = PathsKept.class.getMethod("path", int.class, int.class).getExceptionTypes();
        check(Arrays.equals(thrown, new Class<?>[] {IndexOutOfBoundsException.class, java.util.NoSuchElementException.class}), "what path throws");
    }

    private static void nested() {
        Class<?>[] inside = PathsKept.class.getDeclaredClasses();
        check(inside.length <= 11, "some twelve classes at most: " + (inside.length + 1));
        for (Class<?> c : inside) {
            check(Modifier.isStatic(c.getModifiers()) && !Modifier.isPublic(c.getModifiers()), "a class inside: " + c);
            checkSize(c);
        }
        checkSize(PathsKept.class);
    }

    private static void checkSize(Class<?> c) {
        int fields = 0;
        for (Field f : c.getDeclaredFields()) {
            boolean constant = Modifier.isStatic(f.getModifiers()) && Modifier.isFinal(f.getModifiers());
            check(constant || !Modifier.isStatic(f.getModifiers()), "static state: " + f);
            fields += constant ? 0 : 1;
        }
        check(fields <= 20, "too many fields: " + c);
        for (Method m : c.getDeclaredMethods()) {
            check(m.getParameterCount() <= 7, "too many parameters: " + m);
        }
    }

    private static void source(String text) {
        String code = text.replaceAll("(?s)/\\*.*?\\*/", "").replaceAll("//[^\n]*", "");
        for (String pattern : FORBIDDEN) {
            check(!Pattern.compile(pattern).matcher(code).find(), "in the source: " + pattern);
        }
        Matcher imports = Pattern.compile("import ([^;]*);").matcher(code);
        while (imports.find()) {
            check(Arrays.asList("java.util.Arrays", "java.util.NoSuchElementException").contains(imports.group(1)), "import " + imports.group(1));
        }
        Matcher library = Pattern.compile("\\b(Arrays|System|Integer|Long|Math|String|Character)\\.(\\w+)").matcher(code);
        while (library.find()) {
            check(Arrays.asList(LIBRARY).contains(library.group()), "of the library: " + library.group());
        }
        Matcher thrown = Pattern.compile("throw new (\\w+)").matcher(code);
        while (thrown.find()) {
            check(Arrays.asList("IllegalArgumentException", "IndexOutOfBoundsException", "NoSuchElementException").contains(thrown.group(1)),
                "throw " + thrown.group(1));
        }
        Matcher caught = Pattern.compile("catch \\((\\w+)").matcher(code);
        while (caught.find()) {
            check(caught.group(1).equals("IllegalArgumentException"), "catch " + caught.group(1));
        }
        methods(text);
    }

    /** A method of a class inside stands eight signs deep, one of the class itself four. */
    private static void methods(String text) {
        String[] lines = text.split("\n", -1);
        for (int i = 0; i < lines.length; i++) {
            check(lines[i].length() <= 140 && lines[i].indexOf('\t') < 0, "line " + (i + 1) + " is too long or has a tab");
            Matcher start = Pattern.compile("^( {4}| {8})(?! )[^/*=]*\\) (throws .*)?\\{$").matcher(lines[i]);
            if (start.find()) {
                int end = i;
                while (end < lines.length && !lines[end].equals(start.group(1) + "}")) {
                    end++;
                }
                check(end - i < 60, "a long method at line " + (i + 1));
            }
        }
    }
}
