import java.util.ArrayList;
import java.util.Arrays;
import java.util.HashMap;
import java.util.List;
import java.util.Map;
import java.util.NoSuchElementException;
import java.util.PriorityQueue;
import java.util.Random;

/**
 * Long random runs of calls, each answer held against a model of the document that is written as plainly as can be:
 * trees for laws, whole copies for states, searches that try everything.
 */
public final class PathsKeptModel {
    private static final int OBJECTS = 700;
    private static final int CALLS = 512;

    private static int wrong;

    public static void main(String[] args) {
        int answers = 0;
        for (int run = 0; run < OBJECTS && wrong < 20; run++) {
            answers += new Run(run).play();
        }
        System.out.println(answers + " answers compared, " + wrong + " wrong");
        if (wrong != 0) {
            System.exit(1);
        }
    }

    // ---------------------------------------------------------------- the model

    static final class Fault extends Exception {
        private static final long serialVersionUID = 1;
        final int code;
        final int place;

        Fault(int code, int place) {
            this.code = code;
            this.place = place;
        }
    }

    static final class WorkError extends Exception {
        private static final long serialVersionUID = 1;
    }

    static final class Token {
        String kind;
        String text;
        int place;
    }

    static final class Node {
        String op;
        long number;
        Node a;
        Node b;
    }

    static final class Path {
        String name;
        int from;
        int to;
        int length;
        int stile;
        int age;
    }

    static final class Walker {
        String name;
        int home;
        int legs;
        int pace;
    }

    static final class World {
        List<String> places = new ArrayList<>();
        List<Path> paths = new ArrayList<>();
        List<Walker> walkers = new ArrayList<>();
        List<int[]> walks = new ArrayList<>();
        List<int[]> bulls = new ArrayList<>();
        Integer year;
        Integer snow;
        Integer seed;
        Map<String, Node> laws = new HashMap<>();
        int knots;
        int lines;

        int snowTold() {
            return snow == null ? 0 : snow;
        }
    }

    static final List<String> LANGUAGE = Arrays.asList("place", "path", "walker", "walk", "bull", "year", "snow", "seed",
        "law", "term", "may", "cost", "or", "and", "not", "length", "stile", "age", "legs", "pace", "gone", "day");
    static final List<String> NAMES = Arrays.asList("length", "stile", "age", "legs", "pace", "gone", "day");

    static final class Parser {
        final List<Token> tokens = new ArrayList<>();
        int at;
        World w = new World();
        int open;

        Parser(String text) {
            int i = 0;
            while (i < text.length()) {
                char c = text.charAt(i);
                if (c == 10 || c == 32) {
                    i++;
                    continue;
                }
                int j = i + 1;
                Token t = new Token();
                t.place = i;
                if (c >= 'a' && c <= 'z') {
                    while (j < text.length() && text.charAt(j) >= 'a' && text.charAt(j) <= 'z') {
                        j++;
                    }
                    String word = text.substring(i, j);
                    t.kind = LANGUAGE.contains(word) ? word : word.length() > 6 ? "bad" : "W";
                } else if (c >= '0' && c <= '9') {
                    while (j < text.length() && text.charAt(j) >= '0' && text.charAt(j) <= '9') {
                        j++;
                    }
                    t.kind = "N";
                } else if (";()<=>+-*/".indexOf(c) >= 0) {
                    if (j < text.length()) {
                        String two = text.substring(i, j + 1);
                        if (two.equals("<=") || two.equals(">=") || two.equals("<>")) {
                            j++;
                        }
                    }
                    t.kind = text.substring(i, j);
                } else {
                    t.kind = "bad";
                }
                t.text = text.substring(i, j);
                tokens.add(t);
                i = j;
            }
            Token end = new Token();
            end.kind = "end";
            end.text = "";
            end.place = text.length();
            tokens.add(end);
        }

        Token now() {
            return tokens.get(at);
        }

        Token take(String kind) throws Fault {
            if (!now().kind.equals(kind)) {
                throw new Fault(1, now().place);
            }
            return tokens.get(at++);
        }

        int number(int least, int most) throws Fault {
            Token t = take("N");
            java.math.BigInteger n = new java.math.BigInteger(t.text);
            if (n.bitLength() > 30 || n.intValue() < least || n.intValue() > most) {
                throw new Fault(2, t.place);
            }
            return n.intValue();
        }

        String fresh(List<String> names) throws Fault {
            Token t = take("W");
            if (names.contains(t.text)) {
                throw new Fault(3, t.place);
            }
            return t.text;
        }

        int known(List<String> names) throws Fault {
            Token t = take("W");
            if (!names.contains(t.text)) {
                throw new Fault(4, t.place);
            }
            return names.indexOf(t.text);
        }

        List<String> pathNames() {
            List<String> names = new ArrayList<>();
            for (Path p : w.paths) {
                names.add(p.name);
            }
            return names;
        }

        List<String> walkerNames() {
            List<String> names = new ArrayList<>();
            for (Walker p : w.walkers) {
                names.add(p.name);
            }
            return names;
        }

        void room(int size, int most, Token word) throws Fault {
            if (size == most) {
                throw new Fault(2, word.place);
            }
        }

        void once(Object told, Token word) throws Fault {
            if (told != null) {
                throw new Fault(3, word.place);
            }
        }

        World parse() throws Fault {
            while (!now().kind.equals("end")) {
                line();
                take(";");
                w.lines++;
            }
            return w;
        }

        void line() throws Fault {
            Token word = now();
            at++;
            if (word.kind.equals("place")) {
                room(w.places.size(), 7, word);
                w.places.add(fresh(w.places));
            } else if (word.kind.equals("path")) {
                room(w.paths.size(), 9, word);
                Path p = new Path();
                p.name = fresh(pathNames());
                p.from = known(w.places);
                int place = now().place;
                p.to = known(w.places);
                if (p.from == p.to) {
                    throw new Fault(5, place);
                }
                p.length = number(1, 99);
                p.stile = number(0, 9);
                p.age = number(0, 399);
                w.paths.add(p);
            } else if (word.kind.equals("walker")) {
                room(w.walkers.size(), 4, word);
                Walker p = new Walker();
                p.name = fresh(walkerNames());
                p.home = known(w.places);
                p.legs = number(0, 9);
                p.pace = number(1, 99);
                w.walkers.add(p);
            } else if (word.kind.equals("walk")) {
                room(w.walks.size(), 12, word);
                int who = known(walkerNames());
                int which = known(pathNames());
                w.walks.add(new int[] {who, which, number(0, 99)});
            } else if (word.kind.equals("bull")) {
                room(w.bulls.size(), 6, word);
                int which = known(pathNames());
                int since = number(0, 99);
                w.bulls.add(new int[] {which, since, number(0, 99)});
            } else if (word.kind.equals("year")) {
                once(w.year, word);
                w.year = number(1, 400);
            } else if (word.kind.equals("snow")) {
                once(w.snow, word);
                w.snow = number(0, 100);
            } else if (word.kind.equals("seed")) {
                once(w.seed, word);
                w.seed = number(0, 99999);
            } else if (word.kind.equals("law")) {
                Token law = now();
                if (!law.kind.equals("term") && !law.kind.equals("may") && !law.kind.equals("cost")) {
                    throw new Fault(1, law.place);
                }
                once(w.laws.get(law.kind), law);
                at++;
                open = 0;
                w.laws.put(law.kind, or());
            } else {
                throw new Fault(1, word.place);
            }
        }

        void knot(Token t) throws Fault {
            if (w.knots == 64) {
                throw new Fault(2, t.place);
            }
            w.knots++;
        }

        boolean is(String... kinds) {
            return Arrays.asList(kinds).contains(now().kind);
        }

        Node join(Token sign, Node a, Node b) {
            Node n = new Node();
            n.op = sign.kind;
            n.a = a;
            n.b = b;
            return n;
        }

        Node or() throws Fault {
            Node n = and();
            while (is("or")) {
                knot(now());
                n = join(tokens.get(at++), n, and());
            }
            return n;
        }

        Node and() throws Fault {
            Node n = not();
            while (is("and")) {
                knot(now());
                n = join(tokens.get(at++), n, not());
            }
            return n;
        }

        Node not() throws Fault {
            if (is("not")) {
                knot(now());
                return join(tokens.get(at++), not(), null);
            }
            Node n = sum();
            if (is("<", "<=", "=", "<>", ">=", ">")) {
                knot(now());
                n = join(tokens.get(at++), n, sum());
            }
            return n;
        }

        Node sum() throws Fault {
            Node n = product();
            while (is("+", "-")) {
                knot(now());
                n = join(tokens.get(at++), n, product());
            }
            return n;
        }

        Node product() throws Fault {
            Node n = part();
            while (is("*", "/")) {
                knot(now());
                n = join(tokens.get(at++), n, part());
            }
            return n;
        }

        Node part() throws Fault {
            Token t = now();
            if (t.kind.equals("(")) {
                if (open == 8) {
                    throw new Fault(2, t.place);
                }
                open++;
                at++;
                Node n = or();
                take(")");
                open--;
                return n;
            }
            Node n = new Node();
            n.op = t.kind;
            if (t.kind.equals("N")) {
                n.number = number(0, 9999);
            } else if (NAMES.contains(t.kind)) {
                at++;
            } else {
                throw new Fault(1, t.place);
            }
            knot(t);
            return n;
        }
    }

    static long work(Node n, Map<String, Long> names) throws WorkError {
        if (n.op.equals("N")) {
            return n.number;
        }
        if (names.containsKey(n.op)) {
            return names.get(n.op);
        }
        long a = work(n.a, names);
        if (n.op.equals("not")) {
            return a == 0 ? 1 : 0;
        }
        long b = work(n.b, names);
        java.math.BigInteger x = java.math.BigInteger.valueOf(a);
        java.math.BigInteger y = java.math.BigInteger.valueOf(b);
        java.math.BigInteger r;
        switch (n.op) {
            case "or": return a != 0 || b != 0 ? 1 : 0;
            case "and": return a != 0 && b != 0 ? 1 : 0;
            case "<": return a < b ? 1 : 0;
            case "<=": return a <= b ? 1 : 0;
            case "=": return a == b ? 1 : 0;
            case "<>": return a != b ? 1 : 0;
            case ">=": return a >= b ? 1 : 0;
            case ">": return a > b ? 1 : 0;
            case "+": r = x.add(y); break;
            case "-": r = x.subtract(y); break;
            case "*": r = x.multiply(y); break;
            default:
                if (b == 0) {
                    throw new WorkError();
                }
                r = x.divide(y);
        }
        if (r.abs().compareTo(java.math.BigInteger.valueOf(1000000000000L)) > 0) {
            throw new WorkError();
        }
        return r.longValue();
    }

    static final class State {
        int day;
        long number;
        int done;
        int refused;
        boolean[] kept;
        int[] age;
        int[] gone;
        int[] at;
        int[] left;

        static State first(World w) {
            State s = new State();
            s.number = w.seed == null ? 0 : w.seed;
            int n = w.paths.size();
            s.kept = new boolean[n];
            Arrays.fill(s.kept, true);
            s.age = new int[n];
            s.gone = new int[n];
            for (int i = 0; i < n; i++) {
                s.age[i] = w.paths.get(i).age;
            }
            s.at = new int[w.walkers.size()];
            s.left = new int[w.walkers.size()];
            for (int i = 0; i < s.at.length; i++) {
                s.at[i] = w.walkers.get(i).home;
                s.left[i] = w.walkers.get(i).pace;
            }
            return s;
        }

        State copy() {
            State s = new State();
            s.day = day;
            s.number = number;
            s.done = done;
            s.refused = refused;
            s.kept = kept.clone();
            s.age = age.clone();
            s.gone = gone.clone();
            s.at = at.clone();
            s.left = left.clone();
            return s;
        }

        int keptCount() {
            int n = 0;
            for (boolean k : kept) {
                n += k ? 1 : 0;
            }
            return n;
        }
    }

    /** How a day is run: as told but for what is set here. */
    static final class Rules {
        final World w;
        boolean draws;
        boolean noSnow;
        boolean noBulls;
        int still = -1;
        boolean longYear;
        int[] legs;

        Rules(World w, boolean draws) {
            this.w = w;
            this.draws = draws;
            legs = new int[w.walkers.size()];
            for (int i = 0; i < legs.length; i++) {
                legs[i] = w.walkers.get(i).legs;
            }
        }

        long value(String law, State s, int path, int walker) throws WorkError {
            Map<String, Long> names = new HashMap<>();
            Path p = w.paths.get(path);
            names.put("length", (long) p.length);
            names.put("stile", (long) p.stile);
            names.put("age", (long) s.age[path]);
            names.put("legs", walker < 0 ? 0L : legs[walker]);
            names.put("pace", walker < 0 ? 0L : s.left[walker]);
            names.put("gone", (long) s.gone[path]);
            names.put("day", (long) s.day);
            if (!w.laws.containsKey(law)) {
                throw new WorkError();
            }
            return work(w.laws.get(law), names);
        }

        boolean bull(State s, int path) {
            for (int[] b : w.bulls) {
                if (b[0] == path && b[1] <= s.day && s.day <= b[2]) {
                    return true;
                }
            }
            return false;
        }

        long cost(State s, int path, int walker) {
            try {
                return Math.min(99, Math.max(0, value("cost", s, path, walker)));
            } catch (WorkError e) {
                return w.paths.get(path).length;
            }
        }

        boolean can(State s, int path, int walker) {
            Path p = w.paths.get(path);
            if (s.at[walker] != p.from && s.at[walker] != p.to || !s.kept[path] || !noBulls && bull(s, path)) {
                return false;
            }
            boolean may;
            try {
                may = value("may", s, path, walker) != 0;
            } catch (WorkError e) {
                may = p.stile <= legs[walker];
            }
            return may && s.left[walker] >= cost(s, path, walker);
        }

        void goes(State s, int path, int walker) {
            Path p = w.paths.get(path);
            s.left[walker] -= (int) cost(s, path, walker);
            s.at[walker] = p.from + p.to - s.at[walker];
            s.age[path] = 0;
            if (s.gone[path] < 999) {
                s.gone[path]++;
            }
            s.done++;
        }

        void day(State s) {
            int snow = w.snowTold();
            boolean snowy = snow >= 50;
            if (draws) {
                snowy = snow == 100;
                if (snow > 0 && snow < 100) {
                    s.number = (s.number * 1103515245L + 12345L) % 2147483648L;
                    snowy = s.number / 65536 % 100 < snow;
                }
            }
            if (noSnow) {
                snowy = false;
            }
            for (int[] walk : w.walks) {
                if (walk[2] == s.day) {
                    if (!snowy && walk[0] != still && can(s, walk[1], walk[0])) {
                        goes(s, walk[1], walk[0]);
                    } else {
                        s.refused++;
                    }
                }
            }
            for (int i = 0; i < s.kept.length; i++) {
                if (s.kept[i]) {
                    s.age[i]++;
                    long term = w.year == null ? 366 : w.year;
                    if (longYear) {
                        term = 400;
                    } else {
                        try {
                            term = Math.min(9999, Math.max(1, value("term", s, i, -1)));
                        } catch (WorkError e) {
                            // the year stays
                        }
                    }
                    if (s.age[i] >= term) {
                        s.kept[i] = false;
                    }
                }
            }
            for (int i = 0; i < s.left.length; i++) {
                s.left[i] = w.walkers.get(i).pace;
            }
            s.day++;
        }

        State run(State from, int n) {
            State s = from.copy();
            for (int i = 0; i < n; i++) {
                day(s);
            }
            return s;
        }
    }

    static final class Model {
        String tape = "";
        World w = new World();
        State s = State.first(w);
        State image;
        List<State> past = new ArrayList<>();
        List<int[]> seen = new ArrayList<>();
        int known = -1;
        int fault;
        int faultPlace = -1;

        boolean P(int p) {
            return p >= 0 && p < w.paths.size();
        }

        boolean W(int p) {
            return p >= 0 && p < w.walkers.size();
        }

        boolean L(int p) {
            return p >= 0 && p < w.places.size();
        }

        int feed(int[] five) {
            if (tape.length() + 20 > 700) {
                return -1;
            }
            StringBuilder b = new StringBuilder(tape);
            for (int f : five) {
                b.append((char) (f >>> 24)).append((char) (f >>> 16 & 255)).append((char) (f >>> 8 & 255)).append((char) (f & 255));
            }
            tape = b.toString();
            return tape.length();
        }

        int text(int n) {
            if (n < 0 || n > tape.length()) {
                return -2;
            }
            String t = tape.substring(0, n);
            tape = "";
            fault = 0;
            faultPlace = -1;
            try {
                w = new Parser(t).parse();
            } catch (Fault f) {
                fault = f.code;
                faultPlace = f.place;
                return -1;
            }
            s = State.first(w);
            image = null;
            past.clear();
            seen.clear();
            known = -1;
            return w.lines;
        }

        int named(int what, int letters) {
            List<String> names = new ArrayList<>();
            if (what == 0) {
                names = w.places;
            } else if (what == 1) {
                for (Path p : w.paths) {
                    names.add(p.name);
                }
            } else if (what == 2) {
                for (Walker p : w.walkers) {
                    names.add(p.name);
                }
            }
            for (int i = 0; i < names.size(); i++) {
                if (pack(names.get(i)) == letters) {
                    return i;
                }
            }
            return -1;
        }

        long path(int p, int what) {
            if (!P(p)) {
                throw new IndexOutOfBoundsException();
            }
            Path x = w.paths.get(p);
            switch (what) {
                case 0: return x.from;
                case 1: return x.to;
                case 2: return x.length;
                case 3: return x.stile;
                case 4: return s.age[p];
                case 5: return s.kept[p] ? 1 : 0;
                case 6: return s.gone[p];
                case 7: return new Rules(w, true).bull(s, p) ? 1 : 0;
                default: throw new NoSuchElementException();
            }
        }

        int walker(int i, int what) {
            if (!W(i)) {
                return -1;
            }
            switch (what) {
                case 0: return s.at[i];
                case 1: return w.walkers.get(i).legs;
                case 2: return w.walkers.get(i).pace;
                case 3: return s.left[i];
                case 4:
                    int bits = 0;
                    for (int p = 0; p < w.paths.size(); p++) {
                        bits |= new Rules(w, true).can(s, p, i) ? 1 << p : 0;
                    }
                    return bits;
                default: return -1;
            }
        }

        long law(int what, int path, int walker) {
            if (what < 0 || what > 2 || !P(path) || what > 0 && !W(walker)) {
                return Long.MIN_VALUE;
            }
            try {
                return new Rules(w, true).value(what == 0 ? "term" : what == 1 ? "may" : "cost", s, path, what == 0 ? -1 : walker);
            } catch (WorkError e) {
                return Long.MIN_VALUE;
            }
        }

        void note() {
            past.add(s.copy());
            if (past.size() > 20) {
                past.remove(0);
            }
        }

        int walk(int walker, int path) {
            if (!W(walker) || !P(path)) {
                return -1;
            }
            Rules r = new Rules(w, true);
            if (!r.can(s, path, walker)) {
                return -2;
            }
            note();
            r.goes(s, path, walker);
            return s.left[walker];
        }

        boolean mow(int p) {
            if (!P(p) || s.kept[p] && s.age[p] == 0) {
                return false;
            }
            note();
            s.kept[p] = true;
            s.age[p] = 0;
            return true;
        }

        boolean carry(int i, int place) {
            if (!W(i) || !L(place) || s.at[i] == place) {
                return false;
            }
            note();
            s.at[i] = place;
            return true;
        }

        int go(int n) {
            if (n < 0 || n > 400 || s.day + n > 9000) {
                return -1;
            }
            s = new Rules(w, true).run(s, n);
            if (n > 0) {
                past.clear();
            }
            return s.day;
        }

        int ahead(int n, int what, int i) {
            if (n < 0 || n > 400 || what < 0 || what > 4 || what == 3 && !W(i) || what == 4 && !P(i)) {
                return -1;
            }
            State t = new Rules(w, false).run(s, n);
            switch (what) {
                case 0: return t.keptCount();
                case 1: return t.done - s.done;
                case 2: return t.refused - s.refused;
                case 3: return t.at[i];
                default: return t.age[i];
            }
        }

        int lapse(int p) {
            if (!P(p)) {
                return -1;
            }
            State t = s.copy();
            for (int n = 0; n <= 399; n++) {
                if (!t.kept[p]) {
                    return n;
                }
                t = new Rules(w, false).run(t, 1);
            }
            return -2;
        }

        boolean open(int walker, int path) {
            return s.kept[path] && w.paths.get(path).stile <= w.walkers.get(walker).legs;
        }

        int[][] distances(int walker) {
            int n = w.places.size();
            int[][] d = new int[n][n];
            for (int[] row : d) {
                Arrays.fill(row, 1000000);
            }
            for (int i = 0; i < n; i++) {
                d[i][i] = 0;
            }
            for (int p = 0; p < w.paths.size(); p++) {
                Path x = w.paths.get(p);
                if (walker < 0 ? s.kept[p] : open(walker, p)) {
                    d[x.from][x.to] = Math.min(d[x.from][x.to], x.length);
                    d[x.to][x.from] = Math.min(d[x.to][x.from], x.length);
                }
            }
            for (int k = 0; k < n; k++) {
                for (int i = 0; i < n; i++) {
                    for (int j = 0; j < n; j++) {
                        d[i][j] = Math.min(d[i][j], d[i][k] + d[k][j]);
                    }
                }
            }
            return d;
        }

        int reach(int walker) {
            if (!W(walker)) {
                return -1;
            }
            int bits = 0;
            for (int i = 0; i < w.places.size(); i++) {
                bits |= distances(walker)[s.at[walker]][i] < 1000000 ? 1 << i : 0;
            }
            return bits;
        }

        int way(int walker, int place) {
            if (!W(walker) || !L(place)) {
                return -1;
            }
            int d = distances(walker)[s.at[walker]][place];
            return d < 1000000 ? d : -2;
        }

        /** Tries all states of place, what is gone, and (by days) what is gone today. */
        int round(int walker, int paths, int what) {
            if (!W(walker) || paths < 0 || paths >> w.paths.size() != 0 || what < 0 || what > 1) {
                return -1;
            }
            int pace = w.walkers.get(walker).pace;
            Map<Integer, Integer> best = new HashMap<>();
            PriorityQueue<int[]> queue = new PriorityQueue<>((a, b) -> a[0] - b[0]);
            queue.add(new int[] {0, s.at[walker], 0, pace});
            while (!queue.isEmpty()) {
                int[] x = queue.poll();
                if ((x[2] & paths) == paths) {
                    return x[0];
                }
                int key = (x[1] * 512 + x[2]) * 100 + (what == 0 ? 0 : x[3]);
                if (best.containsKey(key)) {
                    continue;
                }
                best.put(key, x[0]);
                for (int p = 0; p < w.paths.size(); p++) {
                    Path y = w.paths.get(p);
                    if (!open(walker, p) || y.from != x[1] && y.to != x[1]) {
                        continue;
                    }
                    int to = y.from + y.to - x[1];
                    int gone = x[2] | 1 << p & paths;
                    if (what == 0) {
                        queue.add(new int[] {x[0] + y.length, to, gone, 0});
                    } else {
                        if (x[3] + y.length <= pace) {
                            queue.add(new int[] {x[0], to, gone, x[3] + y.length});
                        }
                        if (y.length <= pace) {
                            queue.add(new int[] {x[0] + 1, to, gone, y.length});
                        }
                    }
                }
            }
            return -2;
        }

        int pairs() {
            int n = 0;
            int[][] d = distances(-1);
            for (int i = 0; i < d.length; i++) {
                for (int j = 0; j < i; j++) {
                    n += d[i][j] < 1000000 ? 1 : 0;
                }
            }
            return n;
        }

        int needed(int p) {
            if (!P(p) || !s.kept[p]) {
                return -1;
            }
            int with = pairs();
            s.kept[p] = false;
            int without = pairs();
            s.kept[p] = true;
            return with - without;
        }

        int blind() {
            int[] degree = new int[w.places.size()];
            for (int p = 0; p < s.kept.length; p++) {
                if (s.kept[p]) {
                    degree[w.paths.get(p).from]++;
                    degree[w.paths.get(p).to]++;
                }
            }
            int bits = 0;
            for (int p = 0; p < s.kept.length; p++) {
                if (s.kept[p] && (degree[w.paths.get(p).from] == 1 || degree[w.paths.get(p).to] == 1)) {
                    bits |= 1 << p;
                }
            }
            return bits;
        }

        int watch() {
            for (int size = 0; ; size++) {
                next:
                for (int bits = 0; bits < 128; bits++) {
                    if (Integer.bitCount(bits) != size) {
                        continue;
                    }
                    for (int p = 0; p < s.kept.length; p++) {
                        if (s.kept[p] && (bits >> w.paths.get(p).from & 1) == 0 && (bits >> w.paths.get(p).to & 1) == 0) {
                            continue next;
                        }
                    }
                    return bits;
                }
            }
        }

        int match(int what) {
            if (what < 0 || what > 4) {
                return -1;
            }
            int n = w.walkers.size();
            int none = w.paths.size();
            int all = 1;
            for (int i = 0; i < n; i++) {
                all *= none + 1;
            }
            int bestSum = -1;
            int[] best = {-2, -2, -2, -2};
            next:
            for (int code = 0; code < all; code++) {
                int[] picks = {none, none, none, none};
                int rest = code;
                for (int i = n - 1; i >= 0; i--) {
                    picks[i] = rest % (none + 1);
                    rest /= none + 1;
                }
                int sum = 0;
                for (int i = 0; i < n; i++) {
                    if (picks[i] == none) {
                        continue;
                    }
                    Path p = w.paths.get(picks[i]);
                    if (!open(i, picks[i]) || p.from != s.at[i] && p.to != s.at[i]) {
                        continue next;
                    }
                    for (int j = 0; j < i; j++) {
                        if (picks[j] == picks[i]) {
                            continue next;
                        }
                    }
                    sum += s.age[picks[i]];
                }
                if (sum > bestSum) {
                    bestSum = sum;
                    for (int i = 0; i < 4; i++) {
                        best[i] = picks[i] == none ? -2 : picks[i];
                    }
                }
            }
            return what == 4 ? bestSum : best[what];
        }

        boolean joins(int paths, int one, int other) {
            int[] set = {0, 1, 2, 3, 4, 5, 6};
            for (int p = 0; p < w.paths.size(); p++) {
                if ((paths >> p & 1) != 0) {
                    int a = set[w.paths.get(p).from];
                    int b = set[w.paths.get(p).to];
                    for (int i = 0; i < 7; i++) {
                        if (set[i] == a) {
                            set[i] = b;
                        }
                    }
                }
            }
            return set[one] == set[other];
        }

        /** Played to the very end. */
        int wins(int free, int taken, int turn, int one, int other, Map<Integer, Integer> memo) {
            if (free == 0) {
                return joins(taken, one, other) ? 1 : 0;
            }
            int key = (free * 512 + taken) * 2 + turn;
            if (memo.containsKey(key)) {
                return memo.get(key);
            }
            int winner = 1 - turn;
            for (int p = 0; p < 9; p++) {
                if ((free >> p & 1) != 0 && wins(free & ~(1 << p), taken | turn << p, 1 - turn, one, other, memo) == turn) {
                    winner = turn;
                }
            }
            memo.put(key, winner);
            return winner;
        }

        int game(int one, int other, int first, int what) {
            if (!L(one) || !L(other) || one == other || first < 0 || first > 1 || what < 0 || what > 1) {
                return -1;
            }
            int free = 0;
            for (int p = 0; p < s.kept.length; p++) {
                free |= s.kept[p] ? 1 << p : 0;
            }
            Map<Integer, Integer> memo = new HashMap<>();
            if (what == 0) {
                return wins(free, 0, first, one, other, memo);
            }
            for (int p = 0; p < 9; p++) {
                if ((free >> p & 1) != 0 && wins(free & ~(1 << p), first << p, 1 - first, one, other, memo) == first) {
                    return p;
                }
            }
            return -2;
        }

        List<Integer> restList(int one, int other) {
            int[] legs = {w.walkers.get(one).legs, w.walkers.get(other).legs};
            // [first][second] -> what each has
            int[][][] has = {
                {{legs[0], legs[1]}, {legs[0] - 2, legs[1] + 3}},
                {{legs[0] + 3, legs[1] - 2}, {0, 0}}};
            List<Integer> list = new ArrayList<>();
            for (int a = 0; a < 2; a++) {
                for (int b = 0; b < 2; b++) {
                    if (has[a][b][0] >= has[1 - a][b][0] && has[a][b][1] >= has[a][1 - b][1]) {
                        list.add(10 * a + b);
                    }
                }
            }
            return list;
        }

        int rests(int one, int other) {
            return !W(one) || !W(other) || one == other ? -1 : restList(one, other).size();
        }

        int rest(int one, int other, int k) {
            if (!W(one) || !W(other) || one == other || k < 0) {
                return -1;
            }
            return k < restList(one, other).size() ? restList(one, other).get(k) : -2;
        }

        int tries(int p) {
            if (p < 0 || p > 100) {
                return -1;
            }
            java.math.BigDecimal snow = new java.math.BigDecimal(w.snowTold()).movePointLeft(2);
            java.math.BigDecimal want = new java.math.BigDecimal(p).movePointLeft(2);
            for (int n = 1; n <= 8; n++) {
                if (java.math.BigDecimal.ONE.subtract(snow.pow(n)).compareTo(want) >= 0) {
                    return n;
                }
            }
            return -2;
        }

        long clear(int n, int what) {
            if (n < 0 || n > 6 || what < 0 || what > 1) {
                return -1;
            }
            java.math.BigInteger above = java.math.BigInteger.valueOf(100 - w.snowTold()).pow(n);
            java.math.BigInteger below = java.math.BigInteger.valueOf(100).pow(n);
            java.math.BigInteger common = above.gcd(below);
            return (what == 0 ? above : below).divide(common).longValue();
        }

        int see(int days, int walker, int place, boolean is) {
            if (days < 1 || days > 60 || !W(walker) || !L(place) || seen.size() == 24) {
                return -1;
            }
            seen.add(new int[] {days, walker, place, is ? 1 : 0});
            return seen.size() - 1;
        }

        int strike(int n) {
            if (n < 0 || n >= seen.size() || seen.size() == 24) {
                return -1;
            }
            seen.add(new int[] {n});
            return seen.size() - 1;
        }

        boolean known(int n) {
            if (n < -1 || n > seen.size()) {
                return false;
            }
            known = n;
            return true;
        }

        boolean isStruck(int i, int n) {
            for (int j = i + 1; j < n; j++) {
                if (seen.get(j).length == 1 && seen.get(j)[0] == i && !isStruck(j, n)) {
                    return true;
                }
            }
            return false;
        }

        int legs(int walker) {
            if (!W(walker)) {
                return -1;
            }
            int n = known < 0 ? seen.size() : known;
            int bits = 0;
            next:
            for (int legs = 0; legs < 10; legs++) {
                for (int i = 0; i < n; i++) {
                    int[] x = seen.get(i);
                    if (x.length == 4 && !isStruck(i, n)) {
                        boolean was = placeIf(walker, legs, x[0], x[1]) == x[2];
                        if (was != (x[3] == 1)) {
                            continue next;
                        }
                    }
                }
                bits |= 1 << legs;
            }
            return bits;
        }

        int placeIf(int walker, int legs, int days, int who) {
            Rules r = new Rules(w, false);
            r.legs[walker] = legs;
            return r.run(State.first(w), days).at[who];
        }

        int sit(int walker, int n, int what) {
            if (!W(walker) || n < 1 || n > 60 || what < 0 || what > 1) {
                return -1;
            }
            int legs = legs(walker);
            int best = -1;
            int bestWorst = 99;
            for (int place = 0; place < w.places.size(); place++) {
                int yes = 0;
                int no = 0;
                for (int i = 0; i < 10; i++) {
                    if ((legs >> i & 1) != 0) {
                        if (placeIf(walker, i, n, walker) == place) {
                            yes++;
                        } else {
                            no++;
                        }
                    }
                }
                if (Math.max(yes, no) < bestWorst) {
                    bestWorst = Math.max(yes, no);
                    best = place;
                }
            }
            return what == 0 ? best : bestWorst;
        }

        int chance(int seed, int n, int path, int age) {
            if (seed < 0 || n < 1 || n > 99 || !P(path) || age < 0 || age > 999) {
                return -1;
            }
            long number = seed;
            int times = 0;
            for (int i = 0; i < 10; i++) {
                State t = s.copy();
                t.number = number;
                t = new Rules(w, true).run(t, n);
                number = t.number;
                times += t.age[path] <= age ? 1 : 0;
            }
            return times;
        }

        int tried(int what, int i, int n) {
            if (what < 0 || what > 4 || n < 0 || n > 400 || (what == 2 ? !W(i) : i != 0)) {
                return -1;
            }
            Rules r = new Rules(w, false);
            r.noSnow = what == 0;
            r.noBulls = what == 1;
            r.still = what == 2 ? i : -1;
            r.longYear = what == 4;
            if (what == 3) {
                Arrays.fill(r.legs, 9);
            }
            return r.run(s, n).keptCount();
        }

        int undo() {
            if (past.isEmpty()) {
                return -1;
            }
            s = past.remove(past.size() - 1);
            return past.size();
        }

        int keep() {
            image = s.copy();
            return s.day;
        }

        int back() {
            if (image == null) {
                return -1;
            }
            s = image.copy();
            past.clear();
            return s.day;
        }

        int count(int what) {
            switch (what) {
                case 0: return w.places.size();
                case 1: return w.paths.size();
                case 2: return w.walkers.size();
                case 3: return w.walks.size();
                case 4: return w.knots;
                case 5: return s.day;
                case 6: return s.keptCount();
                case 7: return s.done;
                case 8: return s.refused;
                case 9:
                    int sets = 0;
                    int[][] d = distances(-1);
                    for (int i = 0; i < d.length; i++) {
                        boolean first = true;
                        for (int j = 0; j < i; j++) {
                            first = first && d[i][j] >= 1000000;
                        }
                        sets += first ? 1 : 0;
                    }
                    return sets;
                case 10: return seen.size();
                case 11: return known < 0 ? seen.size() : known;
                case 12: return past.size();
                default: return -1;
            }
        }
    }

    static int pack(String name) {
        int bits = 0;
        for (int i = 0; i < 6; i++) {
            bits = bits * 32 + (i < name.length() ? name.charAt(i) - 'a' + 1 : 0);
        }
        return bits;
    }

    // ---------------------------------------------------------------- random texts

    static final class Writer {
        final Random r;
        final List<String> places = new ArrayList<>();
        final List<String> paths = new ArrayList<>();
        final List<String> walkers = new ArrayList<>();

        Writer(Random r) {
            this.r = r;
        }

        String name() {
            int n = r.nextInt(8) == 0 ? 1 + r.nextInt(6) : 1;
            StringBuilder b = new StringBuilder();
            for (int i = 0; i < n; i++) {
                b.append((char) ('a' + r.nextInt(26)));
            }
            return b.toString();
        }

        String fresh(List<String> names) {
            String n = name();
            while (names.contains(n) || LANGUAGE.contains(n)) {
                n = name();
            }
            names.add(n);
            return n;
        }

        String of(List<String> names) {
            return names.get(r.nextInt(names.size()));
        }

        String expression(int depth) {
            String[] signs = {"+", "-", "*", "/", "<", "<=", "=", "<>", ">=", ">", "and", "or"};
            int kind = r.nextInt(10);
            if (depth == 0 || kind < 2) {
                return r.nextInt(3) == 0 ? String.valueOf(r.nextInt(r.nextBoolean() ? 12 : 10000)) : NAMES.get(r.nextInt(7));
            }
            if (kind == 2) {
                return "(not " + expression(depth - 1) + ")";
            }
            String both = expression(depth - 1) + " " + signs[r.nextInt(signs.length)] + " " + expression(depth - 1);
            return r.nextInt(4) != 0 ? "(" + both + ")" : both;
        }

        String gentle(String law) {
            if (law.equals("term")) {
                return "length" + (r.nextBoolean() ? "+age/2" : "*3-gone") + "+" + r.nextInt(60);
            }
            if (law.equals("may")) {
                return r.nextBoolean() ? "stile<=legs+" + r.nextInt(3) : "not age>" + r.nextInt(30) + " or pace>gone";
            }
            return r.nextBoolean() ? "length/(day-" + r.nextInt(20) + ")" : "length+stile-gone*legs";
        }

        String text() {
            List<String> lines = new ArrayList<>();
            int nPlaces = r.nextInt(12) == 0 ? r.nextInt(3) : 2 + r.nextInt(6);
            for (int i = 0; i < nPlaces; i++) {
                lines.add("place " + fresh(places));
            }
            int nPaths = nPlaces < 2 ? 0 : r.nextInt(10);
            int longest = r.nextBoolean() ? 99 : 12;
            List<String[]> ends = new ArrayList<>();
            for (int i = 0; i < nPaths; i++) {
                String a = of(places);
                String b = of(places);
                while (a.equals(b)) {
                    b = of(places);
                }
                ends.add(new String[] {a, b});
                lines.add("path " + fresh(paths) + " " + a + " " + b + " " + (1 + r.nextInt(longest)) + " " + r.nextInt(r.nextBoolean() ? 10 : 4)
                    + " " + r.nextInt(r.nextBoolean() ? 400 : 15));
            }
            int nWalkers = nPlaces < 1 ? 0 : r.nextInt(8) == 0 ? 0 : 1 + r.nextInt(4);
            List<String> at = new ArrayList<>();
            for (int i = 0; i < nWalkers; i++) {
                at.add(of(places));
                lines.add("walker " + fresh(walkers) + " " + at.get(i) + " " + r.nextInt(10) + " " + (1 + r.nextInt(r.nextBoolean() ? 99 : 25)));
            }
            int nWalks = nWalkers == 0 || nPaths == 0 ? 0 : r.nextInt(13);
            int lastDay = r.nextBoolean() ? 5 : 1 + r.nextInt(99);
            for (int i = 0; i < nWalks; i++) {
                int who = r.nextInt(nWalkers);
                int which = r.nextInt(nPaths);
                // mostly a path at which he would be, had he gone all walks ahead, on a day behind those
                for (int k = 0; k < 9 && r.nextInt(9) != 0 && !Arrays.asList(ends.get(which)).contains(at.get(who)); k++) {
                    which = r.nextInt(nPaths);
                }
                String[] both = ends.get(which);
                at.set(who, both[0].equals(at.get(who)) ? both[1] : both[1].equals(at.get(who)) ? both[0] : at.get(who));
                int day = r.nextInt(3) == 0 ? r.nextInt(lastDay) : i * lastDay / nWalks;
                lines.add("walk " + walkers.get(who) + " " + paths.get(which) + " " + day);
            }
            int nBulls = nPaths == 0 ? 0 : r.nextInt(7);
            for (int i = 0; i < nBulls; i++) {
                lines.add("bull " + of(paths) + " " + r.nextInt(lastDay) + " " + r.nextInt(lastDay));
            }
            if (r.nextBoolean()) {
                lines.add("year " + (r.nextInt(6) == 0 ? 1 + r.nextInt(10) : 10 + r.nextInt(391)));
            }
            if (r.nextBoolean()) {
                lines.add("snow " + (r.nextInt(9) == 0 ? 100 : r.nextBoolean() ? r.nextInt(50) : r.nextInt(101)));
            }
            if (r.nextBoolean()) {
                lines.add("seed " + r.nextInt(100000));
            }
            for (String law : new String[] {"term", "may", "cost"}) {
                if (r.nextInt(5) < 2) {
                    lines.add("law " + law + " " + (r.nextInt(3) != 0 ? gentle(law) : expression(1 + r.nextInt(4))));
                }
            }
            StringBuilder b = new StringBuilder();
            for (String line : lines) {
                if (b.length() + line.length() < 695) {
                    b.append(r.nextInt(9) == 0 ? line.replace(" ", r.nextBoolean() ? "  " : "\n") : line).append(';');
                }
            }
            return b.toString();
        }

        /** A text with something changed: mostly, but not always, one with a fault. */
        String spoilt(String text) {
            StringBuilder b = new StringBuilder(text);
            String[] bits = {";", "(", ")", "<", "=", ">", "a", "place", "walker", "9", "0", " ", "not ", "$", "\t", "year 3;", "snow 5;",
                "law may 1;", "law cost (((((((((1)))))))));", "lengthy", "1+", " and ", "length", String.valueOf((char) 233), "\n",
                "place q;", "path q a b 1 1 1;", "12345678901234567890", "<>", ">=", "1<2<3", "((1))", "place x;place y;place z;"};
            int changes = 1 + r.nextInt(2);
            for (int i = 0; i < changes; i++) {
                int at = r.nextInt(b.length() + 1);
                if (r.nextInt(3) == 0) {
                    int to = Math.min(b.length(), at + 1 + r.nextInt(6));
                    b.delete(at, to);
                } else if (r.nextBoolean()) {
                    int after = b.indexOf(";", at);
                    b.insert(after < 0 ? b.length() : after + 1, bits[r.nextInt(bits.length)]);
                } else {
                    b.insert(at, bits[r.nextInt(bits.length)]);
                }
            }
            return b.length() > 700 ? b.substring(0, 700) : b.toString();
        }
    }

    // ---------------------------------------------------------------- one run

    static final class Run {
        final int number;
        final Random r;
        final PathsKept x = new PathsKept();
        final Model m = new Model();
        int calls;

        Run(int number) {
            this.number = number;
            r = new Random(number * 7919L + 13);
        }

        void due(String call, long got, long want) {
            calls++;
            if (got != want) {
                wrong++;
                System.out.println("run " + number + " call " + calls + ": " + call + " answered " + got + ", the model " + want);
            }
        }

        int play() {
            while (calls < CALLS && wrong < 20) {
                if (calls == 0 || r.nextInt(45) == 0) {
                    tell();
                } else {
                    ask();
                }
            }
            return calls;
        }

        void tell() {
            String text = new Writer(r).text();
            if (r.nextInt(3) == 0) {
                text = new Writer(r).spoilt(text);
            }
            if (calls + text.length() / 20 + 5 > CALLS) {
                calls = CALLS;
                return;
            }
            StringBuilder b = new StringBuilder(text);
            while (b.length() % 20 != 0) {
                b.append((char) r.nextInt(256));
            }
            for (int i = 0; i < b.length(); i += 20) {
                int[] five = new int[5];
                for (int k = 0; k < 20; k++) {
                    five[k / 4] = five[k / 4] << 8 | b.charAt(i + k);
                }
                due("feed", x.feed(five[0], five[1], five[2], five[3], five[4]), m.feed(five));
            }
            if (r.nextInt(5) == 0) {
                int n = r.nextBoolean() ? -1 : b.length() + 1;
                due("text(" + n + ")", x.text(n), m.text(n));
            }
            due("text(" + text + ")", x.text(text.length()), m.text(text.length()));
            due("fault(0) of " + text, x.fault(0), m.fault);
            due("fault(1) of " + text, x.fault(1), m.faultPlace);
        }

        /** A number that may be there or not, now and then a wild one. */
        int wrong(int most) {
            int kind = r.nextInt(6);
            return kind == 0 ? r.nextInt() : kind == 1 ? Integer.MIN_VALUE : kind == 2 ? Integer.MAX_VALUE : r.nextInt(most + 4) - 2;
        }

        int path() {
            return r.nextInt(8) == 0 ? wrong(9) : r.nextInt(Math.max(1, m.w.paths.size()));
        }

        int walker() {
            return r.nextInt(8) == 0 ? wrong(4) : r.nextInt(Math.max(1, m.w.walkers.size()));
        }

        int place() {
            return r.nextInt(8) == 0 ? wrong(7) : r.nextInt(Math.max(1, m.w.places.size()));
        }

        int upTo(int most) {
            return r.nextInt(12) == 0 ? wrong(most) : r.nextInt(most + 1);
        }

        int daysUpTo(int most) {
            return r.nextInt(4) == 0 ? upTo(most) : r.nextInt(8);
        }

        void askPath() {
            int p = path();
            int what = upTo(7);
            String got;
            String want;
            try {
                got = String.valueOf(x.path(p, what));
            } catch (IndexOutOfBoundsException e) {
                got = e.getClass().getName();
            } catch (NoSuchElementException e) {
                got = e.getClass().getName();
            }
            try {
                want = String.valueOf(m.path(p, what));
            } catch (IndexOutOfBoundsException e) {
                want = e.getClass().getName();
            } catch (NoSuchElementException e) {
                want = e.getClass().getName();
            }
            due("path(" + p + ", " + what + ") " + got + " " + want, got.equals(want) ? 0 : 1, 0);
        }

        void askName() {
            int what = upTo(2);
            List<String> names = new ArrayList<>(m.w.places);
            for (Path p : m.w.paths) {
                names.add(p.name);
            }
            for (Walker p : m.w.walkers) {
                names.add(p.name);
            }
            int letters = names.isEmpty() || r.nextInt(5) == 0 ? r.nextInt(3) * 33554432 : pack(names.get(r.nextInt(names.size())));
            due("named(" + what + ", " + letters + ")", x.named(what, letters), m.named(what, letters));
        }

        void ask() {
            int a = walker();
            int b = walker();
            int p = path();
            int l = place();
            int k = place();
            int n;
            int what;
            switch (r.nextInt(38)) {
                case 0: askPath(); break;
                case 1: askName(); break;
                case 2: what = upTo(4); due("walker(" + a + ", " + what + ")", x.walker(a, what), m.walker(a, what)); break;
                case 3: what = upTo(2); due("law(" + what + ", " + p + ", " + a + ")", x.law(what, p, a), m.law(what, p, a)); break;
                case 4: case 5: case 6: due("walk(" + a + ", " + p + ")", x.walk(a, p), m.walk(a, p)); break;
                case 7: due("mow(" + p + ")", x.mow(p) ? 1 : 0, m.mow(p) ? 1 : 0); break;
                case 8: due("carry(" + a + ", " + l + ")", x.carry(a, l) ? 1 : 0, m.carry(a, l) ? 1 : 0); break;
                case 9: case 10: n = r.nextInt(9) == 0 ? daysUpTo(400) : r.nextInt(2); due("go(" + n + ")", x.go(n), m.go(n)); break;
                case 11: case 12:
                    n = daysUpTo(400);
                    what = upTo(4);
                    due("ahead(" + n + ", " + what + ", " + p + ")", x.ahead(n, what, p), m.ahead(n, what, p));
                    break;
                case 13: due("lapse(" + p + ")", x.lapse(p), m.lapse(p)); break;
                case 14: due("reach(" + a + ")", x.reach(a), m.reach(a)); break;
                case 15: due("way(" + a + ", " + l + ")", x.way(a, l), m.way(a, l)); break;
                case 16: case 17:
                    n = r.nextInt(8) == 0 ? r.nextInt() : r.nextInt(1 << r.nextInt(m.w.paths.size() + 1));
                    what = upTo(1);
                    due("round(" + a + ", " + n + ", " + what + ")", x.round(a, n, what), m.round(a, n, what));
                    break;
                case 18: due("needed(" + p + ")", x.needed(p), m.needed(p)); break;
                case 19: due("blind()", x.blind(), m.blind()); break;
                case 20: due("watch()", x.watch(), m.watch()); break;
                case 21: what = upTo(4); due("match(" + what + ")", x.match(what), m.match(what)); break;
                case 22: case 23:
                    n = upTo(1);
                    what = upTo(1);
                    due("game(" + l + ", " + k + ", " + n + ", " + what + ")", x.game(l, k, n, what), m.game(l, k, n, what));
                    break;
                case 24: due("rests(" + a + ", " + b + ")", x.rests(a, b), m.rests(a, b)); break;
                case 25: n = upTo(2); due("rest(" + a + ", " + b + ", " + n + ")", x.rest(a, b, n), m.rest(a, b, n)); break;
                case 26: n = upTo(100); due("tries(" + n + ")", x.tries(n), m.tries(n)); break;
                case 27: n = upTo(6); what = upTo(1); due("clear(" + n + ", " + what + ")", x.clear(n, what), m.clear(n, what)); break;
                case 28:
                    n = daysUpTo(60);
                    boolean is = r.nextInt(4) == 0;
                    due("see(" + n + ", " + a + ", " + l + ", " + is + ")", x.see(n, a, l, is), m.see(n, a, l, is));
                    break;
                case 29: n = upTo(Math.max(1, m.seen.size())); due("strike(" + n + ")", x.strike(n), m.strike(n)); break;
                case 30: n = r.nextBoolean() ? -1 : upTo(Math.max(1, m.seen.size())); due("known(" + n + ")", x.known(n) ? 1 : 0, m.known(n) ? 1 : 0); break;
                case 31: due("legs(" + a + ")", x.legs(a), m.legs(a)); break;
                case 32: n = daysUpTo(60); what = upTo(1); due("sit(" + a + ", " + n + ", " + what + ")", x.sit(a, n, what), m.sit(a, n, what)); break;
                case 33:
                    n = daysUpTo(99);
                    int seed = r.nextInt(10) == 0 ? r.nextInt() : r.nextInt() & Integer.MAX_VALUE;
                    int age = r.nextInt(3) != 0 ? r.nextInt(1 + Math.max(1, n & 127)) : upTo(999);
                    due("chance(" + seed + ", " + n + ", " + p + ", " + age + ")", x.chance(seed, n, p, age), m.chance(seed, n, p, age));
                    break;
                case 34: what = upTo(4); n = daysUpTo(400); int i = what == 2 ? a : upTo(0); due("tried(" + what + ", " + i + ", " + n + ")", x.tried(what, i, n), m.tried(what, i, n)); break;
                case 35: due("undo()", x.undo(), m.undo()); break;
                case 36:
                    if (r.nextBoolean()) {
                        due("keep()", x.keep(), m.keep());
                    } else {
                        due("back()", x.back(), m.back());
                    }
                    break;
                default: what = upTo(12); due("count(" + what + ")", x.count(what), m.count(what));
            }
        }
    }
}
