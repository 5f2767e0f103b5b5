import java.io.PrintWriter;
import java.io.StringWriter;
import java.lang.reflect.Array;
import java.lang.reflect.Field;
import java.lang.reflect.Modifier;
import java.util.ArrayList;
import java.util.Arrays;
import java.util.IdentityHashMap;
import java.util.List;
import java.util.Map;
import java.util.Optional;
import java.util.Set;
import java.util.TreeMap;
import java.util.TreeSet;
import java.util.regex.Matcher;
import java.util.regex.Pattern;
import java.util.spi.ToolProvider;

/**
 * What LANGUAGE.md asks of calls (rules 8, 11 and 12), seen in the compiled class: how deep they go, which of them call
 * themselves, which make objects, and how much room one object takes.
 */
public final class PathsKeptCalls {
    private static final int DEEPEST = 8;
    /** One object of the class; a run may have some 600,000 objects and 7.3 million fields and elements. */
    private static final int MOST_OBJECTS = 250;
    private static final int MOST_ELEMENTS = 10000;
    private static final List<String> MAKERS = Arrays.asList("PathsKept.path", "PathsKept$Reader.fail");
    private static final List<String> RECURSIVE = Arrays.asList("PathsKept$Reader.readLevel", "PathsKept$Reader.readNots",
        "PathsKept$Reader.readPart", "PathsKept$Ways.matchFrom", "PathsKept$Game.winnerFrom", "PathsKept$Game.winnerBehind");

    private static final Map<String, Set<String>> calls = new TreeMap<>();
    private static final Set<String> makers = new TreeSet<>();
    private static int wrong;

    private static void check(boolean right, String what) {
        if (!right) {
            wrong++;
            System.out.println(what);
        }
    }

    public static void main(String[] args) throws Exception {
        Optional<ToolProvider> javap = ToolProvider.findFirst("javap");
        if (javap.isPresent()) {
            readCalls(javap.get(), "PathsKept");
            for (Class<?> inside : PathsKept.class.getDeclaredClasses()) {
                readCalls(javap.get(), inside.getName());
            }
            check(calls.size() > 100, "calls weren't read: " + calls.keySet());
            recursion();
            depth();
            makers();
        } else {
            System.out.println("no javap here: how deep calls go is not looked at");
        }
        room();
        System.out.println(wrong == 0 ? "calls are as due" : wrong + " wrong");
        if (wrong != 0) {
            System.exit(1);
        }
    }

    private static void readCalls(ToolProvider javap, String name) {
        StringWriter out = new StringWriter();
        javap.run(new PrintWriter(out), new PrintWriter(out), "-p", "-c", "-cp", System.getProperty("java.class.path"), name);
        String method = null;
        Pattern head = Pattern.compile("^  (?:[^ ].*[ .$])?(\\w+)\\(.*\\).*;$");
        Pattern call = Pattern.compile("invoke\\w+ .*// (?:Interface)?Method ([^:]*):");
        for (String line : out.toString().split("\n")) {
            Matcher start = head.matcher(line);
            if (start.find()) {
                boolean maker = start.group(1).equals(name.substring(name.indexOf('$') + 1));
                method = name + "." + (maker ? "<init>" : start.group(1));
                calls.put(method, new TreeSet<>());
            }
            if (line.equals("  static {};")) {
                method = name + ".<clinit>";
                calls.put(method, new TreeSet<>());
            }
            Matcher called = call.matcher(line);
            if (method != null && called.find()) {
                String whole = called.group(1).replace("\"", "").replace('/', '.');
                calls.get(method).add(whole.indexOf('.') < 0 ? name + "." + whole : whole);
            }
            if (method != null && line.matches(" *\\d+: (new|newarray|anewarray|multianewarray) .*")) {
                makers.add(method);
            }
        }
    }

    private static Set<String> reached(String from) {
        Set<String> all = new TreeSet<>();
        List<String> open = new ArrayList<>(calls.getOrDefault(from, Set.of()));
        while (!open.isEmpty()) {
            String method = open.remove(open.size() - 1);
            if (all.add(method)) {
                open.addAll(calls.getOrDefault(method, Set.of()));
            }
        }
        return all;
    }

    private static void recursion() {
        Set<String> found = new TreeSet<>();
        for (String method : calls.keySet()) {
            if (reached(method).contains(method)) {
                found.add(method);
            }
        }
        check(found.equals(new TreeSet<>(RECURSIVE)), "methods that call themselves: " + found);
    }

    /** The longest row of calls; methods that call one another in a ring stand in it as one. */
    private static List<String> longest(String from) {
        Set<String> ring = new TreeSet<>();
        ring.add(from);
        for (String method : reached(from)) {
            if (reached(method).contains(from)) {
                ring.add(method);
            }
        }
        List<String> best = new ArrayList<>();
        for (String member : ring) {
            for (String next : calls.getOrDefault(member, Set.of())) {
                if (!ring.contains(next)) {
                    List<String> row = longest(next);
                    best = row.size() > best.size() ? row : best;
                }
            }
        }
        List<String> whole = new ArrayList<>();
        whole.add(from);
        whole.addAll(best);
        return whole;
    }

    private static void depth() {
        for (String method : calls.keySet()) {
            List<String> row = longest(method);
            check(row.size() <= DEEPEST, "calls go deeper than " + DEEPEST + ": " + row);
        }
    }

    private static void makers() {
        for (String method : makers) {
            check(method.endsWith(".<init>") || method.endsWith(".<clinit>") || MAKERS.contains(method),
                "makes objects beside exceptions: " + method);
        }
        check(makers.containsAll(MAKERS), "what makes objects wasn't read: " + makers);
    }

    // ---- room

    private static int objects;
    private static int elements;

    private static void count(Object o, IdentityHashMap<Object, Boolean> seen) throws Exception {
        if (o == null || o instanceof String || seen.put(o, true) != null) {
            return;
        }
        objects++;
        if (o.getClass().isArray()) {
            elements += Array.getLength(o);
            for (int i = 0; o instanceof Object[] && i < Array.getLength(o); i++) {
                count(Array.get(o, i), seen);
            }
            return;
        }
        for (Field f : o.getClass().getDeclaredFields()) {
            if (!Modifier.isStatic(f.getModifiers())) {
                elements++;
                f.setAccessible(true);
                if (!f.getType().isPrimitive()) {
                    count(f.get(o), seen);
                }
            }
        }
    }

    private static void tell(PathsKept x, String text) {
        byte[] bytes = Arrays.copyOf(text.getBytes(), (text.length() + 19) / 20 * 20);
        java.nio.ByteBuffer four = java.nio.ByteBuffer.wrap(bytes);
        while (four.hasRemaining()) {
            x.feed(four.getInt(), four.getInt(), four.getInt(), four.getInt(), four.getInt());
        }
        check(x.text(text.length()) > 0, "a fault at " + x.fault(1) + " of " + text);
    }

    private static void room() throws Exception {
        PathsKept x = new PathsKept();
        tell(x, "place a;place b;place c;path p a b 5 2 3;path q b c 4 6 10;path r c a 7 1 0;walker v a 5 9;walker w c 8 4;"
            + "walk v p 0;walk w r 1;snow 30;law term length*9;law may stile<legs;law cost length-1;");
        count(x, new IdentityHashMap<>());
        System.out.println("one object: " + objects + " objects, " + elements + " fields and elements");
        check(objects <= MOST_OBJECTS && elements <= MOST_ELEMENTS, "too much room");
        int before = objects * 100000 + elements;
        for (int i = 0; i < 30; i++) {
            x.walk(0, i % 3);
            x.mow(i % 3);
            x.carry(1, i % 3);
            x.see(1 + i, i % 2, i % 3, i % 2 == 0);
            x.strike(i);
            x.legs(0);
            x.sit(1, 9, 0);
            x.round(0, i % 8, i % 2);
            x.match(4);
            x.game(i % 3, (i + 1) % 3, i % 2, 1);
            x.keep();
            x.ahead(40, 0, 0);
            x.chance(i, 9, 0, 5);
            x.go(i % 5 / 4);
        }
        x.back();
        objects = 0;
        elements = 0;
        count(x, new IdentityHashMap<>());
        check(objects * 100000 + elements == before, "an object grows by its calls: " + objects + " objects, " + elements + " fields and elements");
    }
}
