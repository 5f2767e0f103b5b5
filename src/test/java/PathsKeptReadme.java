import java.lang.reflect.InvocationTargetException;
import java.lang.reflect.Method;
import java.nio.ByteBuffer;
import java.nio.charset.StandardCharsets;
import java.nio.file.Files;
import java.nio.file.Paths;
import java.util.Arrays;
import java.util.regex.Matcher;
import java.util.regex.Pattern;

/** README.md: each call that stands there with an answer behind it gives that answer, and every call of the face is named. */
public final class PathsKeptReadme {
    private static int wrong;
    private static int answers;

    private static void check(boolean right, String what) {
        if (!right) {
            wrong++;
            System.out.println(what);
        }
    }

    public static void main(String[] args) throws Exception {
        String page = new String(Files.readAllBytes(Paths.get(System.getProperty("paths.readme"))), StandardCharsets.ISO_8859_1);
        for (Method m : PathsKept.class.getDeclaredMethods()) {
            check(page.contains("`" + m.getName() + "`") || java.lang.reflect.Modifier.isPrivate(m.getModifiers()),
                "the page doesn't name " + m.getName());
        }
        PathsKept kept = new PathsKept();
        Pattern row = Pattern.compile("^(?:kept\\.(\\w+)|tell)\\((?:kept, )?(.*)\\); *// (-?\\w+)");
        for (String line : page.split("\n")) {
            Matcher m = row.matcher(line);
            if (m.find()) {
                answers++;
                String got = m.group(1) == null ? tell(kept, m.group(2)) : call(kept, m.group(1), m.group(2));
                check(got.equals(m.group(3)), line + " answered " + got);
            }
        }
        check(answers >= 20, "the page's calls weren't found");
        System.out.println(answers + " answers of the page, " + wrong + " wrong");
        if (wrong != 0) {
            System.exit(1);
        }
    }

    /** As the page has it. */
    private static String tell(PathsKept kept, String quoted) {
        String text = quoted.substring(1, quoted.length() - 1);
        byte[] bytes = Arrays.copyOf(text.getBytes(StandardCharsets.ISO_8859_1), (text.length() + 19) / 20 * 20);
        ByteBuffer four = ByteBuffer.wrap(bytes);
        while (four.hasRemaining()) {
            kept.feed(four.getInt(), four.getInt(), four.getInt(), four.getInt(), four.getInt());
        }
        return String.valueOf(kept.text(text.length()));
    }

    private static String call(PathsKept kept, String name, String told) throws Exception {
        String[] words = told.isEmpty() ? new String[0] : told.split(", ");
        Object[] given = new Object[words.length];
        for (int i = 0; i < words.length; i++) {
            boolean yesOrNo = words[i].equals("true") || words[i].equals("false");
            given[i] = yesOrNo ? (Object) Boolean.valueOf(words[i]) : (Object) Integer.valueOf(words[i]);
        }
        for (Method m : PathsKept.class.getDeclaredMethods()) {
            if (m.getName().equals(name)) {
                try {
                    return String.valueOf(m.invoke(kept, given));
                } catch (InvocationTargetException e) {
                    return e.getCause().getClass().getSimpleName();
                }
            }
        }
        return "no such call";
    }
}
