import java.io.IOException;
import java.nio.file.Files;
import java.nio.file.Path;
import java.nio.file.Paths;
import java.util.ArrayList;
import java.util.Arrays;
import java.util.HashMap;
import java.util.List;
import java.util.Map;
import java.util.NoSuchElementException;
import java.util.Random;

/**
 * The document's edges, sentence by sentence: what is too small, too large, empty, full, wrapped round or refused.
 * Each block names the promise and has the document's own words; all checks up to the next block are of these words.
 */
public final class PathsKeptEdges {
    private static final int LEAST = Integer.MIN_VALUE;
    private static final int MOST = Integer.MAX_VALUE;
    private static final long ERROR = Long.MIN_VALUE;
    private static final int PROMISES = 37;

    /** Two places with a path and a walker whose legs are as high as the stile and whose pace is as much as the length. */
    private static final String PAIR = "place a;place b;path p a b 5 3 2;walker w a 3 5;";
    private static final String TWO = "place a;place b;";

    private static final String VALLEY = "place home;place mill;place inn;place wood;"
        + "path lane home mill 4 1 10;path ford mill inn 6 5 20;path hill inn home 9 2 5;path dell inn wood 3 0 0;"
        + "walker ann home 3 12;walker bob inn 6 5;"
        + "walk ann lane 0;walk bob dell 1;walk ann ford 1;bull hill 1 2;year 30;";

    /** As much of everything as a text may tell. */
    private static final String FULL = "place a;place b;place c;place d;place e;place f;place g;"
        + "path a a b 1 0 0;path b a b 1 0 0;path c a b 1 0 0;path d a b 1 0 0;path e a b 1 0 0;path f a b 1 0 0;"
        + "path g a b 1 0 0;path h a b 1 0 0;path i a b 1 0 0;"
        + "walker a a 0 1;walker b a 0 1;walker c a 0 1;walker d a 0 1;"
        + times(12, "walk a a 0;") + times(6, "bull a 0 0;") + "year 1;snow 0;seed 0;law may 1;law cost 1;law term 1;";

    private static final List<String> LANGUAGE = Arrays.asList("place", "path", "walker", "walk", "bull", "year", "snow", "seed",
        "law", "term", "may", "cost", "or", "and", "not", "length", "stile", "age", "legs", "pace", "gone", "day");
    private static final List<String> NAMES = Arrays.asList("length", "stile", "age", "legs", "pace", "gone", "day");
    private static final List<String> SIGNS = Arrays.asList("+", "-", "*", "/", "<", "<=", "=", "<>", ">=", ">", "and", "or");

    private static int checks;
    private static int wrong;
    private static int promise;
    private static String sentence = "";
    private static int checksOfSentence = 1;
    private static final int[] sentencesOf = new int[PROMISES + 1];
    private static final List<String> quoted = new ArrayList<>();

    // ---------------------------------------------------------------- helpers

    private static void says(int number, String words) {
        endSentence();
        promise = number;
        sentence = words;
        checksOfSentence = 0;
        sentencesOf[number]++;
        quoted.add(words);
    }

    private static void endSentence() {
        if (checksOfSentence == 0) {
            wrong++;
            System.out.println("promise " + promise + " '" + sentence + "': nothing was checked");
        }
    }

    private static void due(String call, long got, long want) {
        checks++;
        checksOfSentence++;
        if (got != want) {
            wrong++;
            System.out.println("promise " + promise + " '" + sentence + "': " + call + " answered " + got + ", due is " + want);
        }
    }

    private static void due(String call, boolean got, boolean want) {
        due(call, got ? 1 : 0, want ? 1 : 0);
    }

    private static void same(String what, long[] got, long[] want) {
        checks++;
        checksOfSentence++;
        if (!Arrays.equals(got, want)) {
            wrong++;
            System.out.println("promise " + promise + " '" + sentence + "': " + what + ": " + Arrays.toString(got) + ", due is " + Arrays.toString(want));
        }
    }

    private static int feedBytes(PathsKept x, String text, int from) {
        int[] five = new int[5];
        for (int k = 0; k < 20; k++) {
            five[k / 4] = five[k / 4] << 8 | (from + k < text.length() ? text.charAt(from + k) : ' ');
        }
        return x.feed(five[0], five[1], five[2], five[3], five[4]);
    }

    private static void feed(PathsKept x, String text) {
        if (text.length() > 700) {
            throw new IllegalStateException("the test's own text is too long: " + text);
        }
        for (int i = 0; i < text.length(); i += 20) {
            feedBytes(x, text, i);
        }
    }

    private static int tell(PathsKept x, String text) {
        feed(x, text);
        return x.text(text.length());
    }

    private static PathsKept told(String text) {
        PathsKept x = new PathsKept();
        if (tell(x, text) < 0) {
            wrong++;
            System.out.println("promise " + promise + ": a fault " + x.fault(0) + " at " + x.fault(1) + " in " + text);
        }
        return x;
    }

    /** A text with ^ ahead of the token (or at the end) at which its fault is. */
    private static void fault(int code, String marked) {
        int place = marked.indexOf('^');
        String text = marked.substring(0, place) + marked.substring(place + 1);
        PathsKept x = new PathsKept();
        due("text of " + marked, tell(x, text), -1);
        due("fault(0) of " + marked, x.fault(0), code);
        due("fault(1) of " + marked, x.fault(1), place);
    }

    private static void fine(int lines, String text) {
        PathsKept x = new PathsKept();
        due("text of " + text, tell(x, text), lines);
        due("fault(0) of " + text, x.fault(0), 0);
        due("fault(1) of " + text, x.fault(1), -1);
    }

    private static String times(int n, String part) {
        StringBuilder b = new StringBuilder();
        for (int i = 0; i < n; i++) {
            b.append(part);
        }
        return b.toString();
    }

    private static int letters(String name) {
        int bits = 0;
        for (int i = 0; i < 6; i++) {
            bits = bits << 5 | (i < name.length() ? name.charAt(i) - 'a' + 1 : 0);
        }
        return bits;
    }

    /** What path() answers; 1001 and 1002 for its two exceptions. */
    private static int path(PathsKept x, int path, int what) {
        try {
            return x.path(path, what);
        } catch (IndexOutOfBoundsException e) {
            return e.getClass() == IndexOutOfBoundsException.class ? 1001 : 1003;
        } catch (NoSuchElementException e) {
            return e.getClass() == NoSuchElementException.class ? 1002 : 1004;
        }
    }

    /** All that can be asked of the state without a change, in some hundred calls for the valley. */
    private static long[] all(PathsKept x) {
        List<Long> row = new ArrayList<>();
        for (int what = 0; what <= 12; what++) {
            row.add((long) x.count(what));
        }
        for (int p = 0; p < x.count(1); p++) {
            for (int what = 0; what <= 7; what++) {
                row.add((long) x.path(p, what));
            }
            row.add(x.law(0, p, 0));
        }
        for (int w = 0; w < x.count(2); w++) {
            for (int what = 0; what <= 4; what++) {
                row.add((long) x.walker(w, what));
            }
            row.add(x.law(1, 0, w));
            row.add(x.law(2, 0, w));
            row.add((long) x.legs(w));
        }
        row.add(x.clear(1, 0));
        row.add(x.clear(1, 1));
        long[] answers = new long[row.size()];
        for (int i = 0; i < answers.length; i++) {
            answers[i] = row.get(i);
        }
        return answers;
    }

    /** The first so many numbers of snow from a seed on, modulo 100. */
    private static int[] numbers(long seed, int n) {
        int[] row = new int[n];
        long last = seed;
        for (int i = 0; i < n; i++) {
            last = last * 1103515245L + 12345L & 0x7fffffffL;
            row[i] = (int) (last / 65536 % 100);
        }
        return row;
    }

    private static long worth(String expression) {
        return told(TWO + "path p a b 6 3 2;law term " + expression + ";").law(0, 0, 0);
    }

    public static void main(String[] args) throws IOException {
        newObject();
        tape();
        texts();
        textLeavesNothing();
        faultsLeaveAll();
        linesOfText();
        words();
        numbersOfLines();
        tooMany();
        toldAlready();
        notTold();
        firstFault();
        expressions();
        knots();
        faultCall();
        named();
        pathCall();
        bulls();
        walkerCall();
        canGo();
        costs();
        lawCall();
        values();
        walkCall();
        mowCall();
        carryCall();
        goCall();
        snowOfDays();
        walksOfDays();
        olderByDays();
        aheadCall();
        lapseCall();
        reachCall();
        wayCall();
        roundCall();
        daysOfRounds();
        neededCall();
        blindCall();
        watchCall();
        matchCall();
        gameCall();
        restsAndRest();
        triesCall();
        clearCall();
        seeAndStrike();
        knownCall();
        legsCall();
        sitCall();
        chanceCall();
        triedCall();
        undoCall();
        images();
        countCall();
        wildArguments();
        report();
    }

    private static void report() throws IOException {
        endSentence();
        for (int number = 1; number <= PROMISES; number++) {
            if (sentencesOf[number] == 0) {
                wrong++;
                System.out.println("promise " + number + " has no sentence");
            }
        }
        lookUpQuotes();
        System.out.println(quoted.size() + " sentences, " + checks + " checks, " + wrong + " wrong");
        if (wrong != 0) {
            System.exit(1);
        }
    }

    /** Says, but doesn't fail, if the document's words have changed: then these checks are to be read again. */
    private static void lookUpQuotes() throws IOException {
        String file = System.getProperty("paths.doc");
        if (file == null || !Files.isReadable(Paths.get(file))) {
            return;
        }
        Path document = Paths.get(file);
        String text = new String(Files.readAllBytes(document), "ISO-8859-1").replaceAll("\\s+", " ");
        for (String words : quoted) {
            if (!text.contains(words)) {
                System.out.println("the document doesn't say (any more): " + words);
            }
        }
    }

    // ---------------------------------------------------------------- promises 1 to 3: the tape and the text

    private static void newObject() {
        says(1, "A TEXT without LINES");
        PathsKept x = new PathsKept();
        for (int what = 0; what <= 12; what++) {
            due("count(" + what + ")", x.count(what), 0);
        }
        for (int what = 0; what <= 2; what++) {
            due("named", x.named(what, letters("a")), -1);
            due("named", x.named(what, 0), -1);
        }
        due("path(0, 0)", path(x, 0, 0), 1001);
        due("walker(0, 0)", x.walker(0, 0), -1);
        due("law(0, 0, 0)", x.law(0, 0, 0), ERROR);
        due("walk(0, 0)", x.walk(0, 0), -1);
        due("mow(0)", x.mow(0), false);
        due("carry(0, 0)", x.carry(0, 0), false);
        due("ahead(400, 0, 0)", x.ahead(400, 0, 0), 0);
        due("ahead(0, 3, 0)", x.ahead(0, 3, 0), -1);
        due("ahead(0, 4, 0)", x.ahead(0, 4, 0), -1);
        due("lapse(0)", x.lapse(0), -1);
        due("reach(0)", x.reach(0), -1);
        due("way(0, 0)", x.way(0, 0), -1);
        due("round(0, 0, 0)", x.round(0, 0, 0), -1);
        due("needed(0)", x.needed(0), -1);
        due("blind()", x.blind(), 0);
        due("watch()", x.watch(), 0);
        due("match(0)", x.match(0), -2);
        due("match(3)", x.match(3), -2);
        due("match(4)", x.match(4), 0);
        due("game(0, 1, 0, 0)", x.game(0, 1, 0, 0), -1);
        due("rests(0, 1)", x.rests(0, 1), -1);
        due("rest(0, 1, 0)", x.rest(0, 1, 0), -1);
        due("tries(100)", x.tries(100), 1);
        due("clear(6, 0)", x.clear(6, 0), 1);
        due("clear(6, 1)", x.clear(6, 1), 1);
        due("see(1, 0, 0, true)", x.see(1, 0, 0, true), -1);
        due("strike(0)", x.strike(0), -1);
        due("known(0)", x.known(0), true);
        due("known(1)", x.known(1), false);
        due("legs(0)", x.legs(0), -1);
        due("sit(0, 1, 0)", x.sit(0, 1, 0), -1);
        due("chance(0, 1, 0, 0)", x.chance(0, 1, 0, 0), -1);
        due("tried(0, 0, 400)", x.tried(0, 0, 400), 0);
        due("tried(2, 0, 0)", x.tried(2, 0, 0), -1);
        due("undo()", x.undo(), -1);
        due("back()", x.back(), -1);
        due("fault(0)", x.fault(0), 0);
        due("fault(1)", x.fault(1), -1);
        due("go(1)", x.go(1), 1);
        due("keep()", x.keep(), 1);
        due("back()", x.back(), 1);

        says(1, "an empty TAPE");
        x = new PathsKept();
        due("text(1)", x.text(1), -2);
        due("text(0)", x.text(0), 0);
        due("the first feed", new PathsKept().feed(0, 0, 0, 0, 0), 20);
    }

    private static void tape() {
        says(2, "Twenty bytes come behind the TAPE, four of each number, the highest first: how many it has");
        for (int k = 0; k < 20; k++) {
            PathsKept x = new PathsKept();
            feedBytes(x, times(k, " ") + "$", 0);
            due("text(20)", x.text(20), -1);
            due("the place of byte " + k, x.fault(1), k);
        }
        PathsKept x = new PathsKept();
        due("feed", x.feed(0x706c6163, 0x65206263, 0x64656667, 0x3b736565, 0x64203133), 20);
        due("feed", x.feed(0x3b000000, 0, 0, 0, 0), 40);
        due("place bcdefg;seed 13;", x.text(21), 2);
        due("named", x.named(0, letters("bcdefg")), 0);
        x = new PathsKept();
        x.feed(0x20202020, 0x0a0a0a0a, 0x20202080, 0, 0);
        due("a byte of 128", x.text(20), -1);
        due("is none of the language", x.fault(1), 11);
        x = new PathsKept();
        x.feed(-1, -1, -1, -1, -1);
        due("bytes of 255", x.text(20), -1);
        due("are none of the language", x.fault(0) * 100 + x.fault(1), 100);

        says(2, "NONE, and none come, if it would have more than 700");
        x = new PathsKept();
        for (int i = 1; i <= 34; i++) {
            due("feed " + i, feedBytes(x, "", 0), 20 * i);
        }
        due("the 35th", feedBytes(x, "place a;", 0), 700);
        due("the 36th", feedBytes(x, "place b;place b;    ", 0), -1);
        due("the 37th", feedBytes(x, "$", 0), -1);
        due("701", x.text(701), -2);
        due("720", x.text(720), -2);
        due("700", x.text(700), 1);
        due("it is a", x.named(0, letters("a")), 0);
        due("and not b", x.named(0, letters("b")), -1);
        due("empty again", feedBytes(x, "", 0), 20);
    }

    private static void texts() {
        says(3, "The TAPE's first n bytes (it is empty then) are the TEXT");
        PathsKept x = new PathsKept();
        feed(x, "place a;place b;place c;");
        due("8 of 40", x.text(8), 1);
        due("empty then", x.text(1), -2);
        due("one place", x.count(0), 1);
        feed(x, "place a;place b;place c;");
        due("9 of 40: more must come", x.text(9), -1);
        due("empty then too", x.text(1), -2);
        due("empty then too", feedBytes(x, "place q;", 0), 20);
        due("none of 20", x.text(0), 0);
        due("a TEXT without LINES", x.count(0), 0);
        due("empty then too", x.text(1), -2);
        due("all 20", tell(x, "place a;place b;    "), 2);

        says(3, "how many LINES");
        fine(0, "");
        fine(0, " ");
        fine(0, "\n \n");
        fine(1, "place a;");
        fine(15, VALLEY);
        fine(44, FULL);

        says(3, "-2, and the TAPE stays: there are not so many, n is below 0");
        x = new PathsKept();
        feed(x, "place a;place b;place c;");
        due("text(41)", x.text(41), -2);
        due("text(MAX)", x.text(MOST), -2);
        due("text(-1)", x.text(-1), -2);
        due("text(MIN)", x.text(LEAST), -2);
        due("no place", x.count(0), 0);
        due("the tape stays", feedBytes(x, "place d;", 0), 60);
        due("and is read", x.text(48), 4);
        due("text(-1)", x.text(-1), -2);
        due("all stays", x.count(0), 4);
    }

    private static void textLeavesNothing() {
        String text = PAIR + "place c;walk w p 0;snow 39;seed 1;";
        // each state below differs from a new text's in one thing at least
        says(3, "DAY 0, all KEPT, never GONE, nothing SEEN, all KNOWN, no IMAGE, nothing to undo then");
        long[] first = all(told(text));
        PathsKept x = told(text);
        x.go(1);
        tell(x, text);
        same("behind a day", all(x), first);
        x.go(400);
        due("all is grass", x.count(6), 0);
        tell(x, text);
        same("behind grass", all(x), first);
        x.walk(0, 0);
        tell(x, text);
        same("behind a walk", all(x), first);
        due("nothing to undo", x.undo(), -1);
        x = told(text);
        x.see(1, 0, 2, true);
        x.known(0);
        x.keep();
        tell(x, text);
        same("behind what was seen", all(x), first);
        due("no image", x.back(), -1);
        x.see(1, 0, 2, true);
        due("all known", x.count(11), 1);
        due("all known", x.legs(0), 0);
        x = told(text);
        x.go(2);
        tell(x, text);
        x.go(1);
        due("the first number is 38 again: snow", x.count(8), 1);
        x = told(PAIR + "law term 9;law may 0;law cost 3;year 3;snow 50;bull p 0 99;");
        tell(x, PAIR);
        due("no law of before", x.law(0, 0, 0), ERROR);
        due("no law of before", x.walk(0, 0), 0);
        due("no snow of before", x.clear(1, 1), 1);
        due("no year of before", x.lapse(0), 366);
        due("no bull of before", x.path(0, 7), 0);
        due("no knots of before", x.count(4), 0);
        textLeavesNothingOfFaultyOnes();
    }

    /** A text with a fault, and the one ahead of the latest, leave nothing in the next one either. */
    private static void textLeavesNothingOfFaultyOnes() {
        String much = PAIR + "law term 9;law may 0;law cost 3;year 3;snow 50;seed 1;bull p 0 99;";
        PathsKept x = told(much);
        tell(x, PAIR);
        for (int turn = 0; turn < 2; turn++) {
            due("the same again", tell(x, PAIR), 4);
            due("no law is left", x.law(0, 0, 0), ERROR);
            due("no law is left", x.law(1, 0, 0), ERROR);
            due("no law is left", x.law(2, 0, 0), ERROR);
            due("no snow is left", x.clear(1, 1), 1);
            due("no year is left", x.lapse(0), 364);
            due("no bull is left", x.path(0, 7), 0);
            due("no knots are left", x.count(4), 0);
            due("he can go it", x.walk(0, 0), 0);
            due("a fault behind much", tell(x, much + "$"), -1);
        }
        String snowy = snowy(39, 0).replace("seed 0;", "");
        tell(x, snowy(39, 1));
        tell(x, snowy);
        tell(x, snowy);
        PathsKept other = told(snowy);
        for (int day = 0; day < 12; day++) {
            x.go(1);
            other.go(1);
            due("no seed is left", x.count(8), other.count(8));
        }
        String full = PAIR + "law term " + times(31, "1+") + "1;law may 7;";
        x = new PathsKept();
        for (int turn = 0; turn < 4; turn++) {
            due("64 knots again", tell(x, full), 6);
            due("64 knots again", x.count(4), 64);
            due("their worth", x.law(0, 0, 0) * 10 + x.law(1, 0, 0), 327);
        }
        x = told(TWO + named("path ", 9, " a b 1 0 7;") + named("walker ", 4, " a 0 1;"));
        due("four walkers", x.match(4), 28);
        tell(x, TWO + named("path ", 9, " a b 1 0 7;") + named("walker ", 2, " a 0 1;"));
        due("two walkers", x.match(4), 14);
        due("two walkers", x.match(2), -2);
    }

    private static void faultsLeaveAll() {
        says(3, "NONE with a FAULT, all stays");
        String[] faulty = {"place", "place x;place x;", "year 7;year 7;", "snow 77;law may 0;law may 0;", "place q;path r q q", "law term 1+",
            "seed 5;snow 50;year 0;", "$"};
        for (String text : faulty) {
            PathsKept x = told(VALLEY + "law cost length;snow 39;seed 1;");
            x.walk(0, 0);
            x.keep();
            x.go(3);
            x.see(1, 0, 0, true);
            x.see(1, 0, 0, false);
            x.known(1);
            x.mow(2);
            long[] before = all(x);
            due("text of " + text, tell(x, text), -1);
            same("all stays behind " + text, all(x), before);
            due("names stay", x.named(0, letters("mill")), 1);
            due("no new ones", x.named(0, letters("x")) + x.named(0, letters("q")), -2);
            due("undo stays", x.undo(), 0);
            due("the image stays", x.back(), 0);
            due("the image stays", x.walker(0, 0), 1);
        }
        PathsKept x = told(snowy(39, 1));
        x.go(1);
        tell(x, "seed 7;place");
        x.go(3);
        due("the numbers stay: 38, 58, 13, 15", x.count(7), 1);
    }

    private static String snowy(int snow, int seed) {
        StringBuilder b = new StringBuilder("place a;place b;path p a b 1 0 0;walker w a 0 9;snow " + snow + ";seed " + seed + ";");
        for (int day = 0; day < 12; day++) {
            b.append("walk w p ").append(day).append(';');
        }
        return b.toString();
    }

    // ---------------------------------------------------------------- promises 3 and 4: the language and its faults

    private static void linesOfText() {
        says(3, "{ LINE ';' }");
        fault(1, "^;");
        fault(1, " ^;");
        fault(1, "place a;^;");
        fault(1, "place a;^a;");
        fault(1, "^1;");
        fault(1, "^(;");
        fault(1, "^+;");
        fault(1, "^placea;");
        fault(1, "^plac a;");
        fault(1, "^places a;");
        for (String word : LANGUAGE.subList(9, LANGUAGE.size())) {
            fault(1, "^" + word + " a;");
        }

        says(3, "place W | path W W W N N N | walker W W N N | walk W W N | bull W N N | year N | snow N | seed N | law LAW E");
        fault(1, "place^;");
        fault(1, "place a ^b;");
        fault(1, "place a ^1;");
        fault(1, PAIR + "path q a b 1 1^;");
        fault(1, PAIR + "path q a b 1 1 1 ^1;");
        fault(1, PAIR + "path q a ^1 1 1;");
        fault(1, PAIR + "path q a b ^a 1 1;");
        fault(1, PAIR + "walker v a 1^;");
        fault(1, PAIR + "walker v a 1 1 ^1;");
        fault(1, PAIR + "walker v ^1 1;");
        fault(1, PAIR + "walk w p^;");
        fault(1, PAIR + "walk w p 1 ^1;");
        fault(1, PAIR + "walk w ^1;");
        fault(1, PAIR + "bull p 1^;");
        fault(1, PAIR + "bull p 1 1 ^1;");
        fault(1, PAIR + "bull ^1 1;");
        for (String word : new String[] {"year", "snow", "seed"}) {
            fault(1, word + "^;");
            fault(1, word + " 1 ^1;");
            fault(1, word + " ^a;");
            fault(1, word + " ^-1;");
            fault(1, word + " ^(1);");
        }
        for (String word : LANGUAGE) {
            if (!Arrays.asList("term", "may", "cost").contains(word)) {
                fault(1, "law ^" + word + " 1;");
            }
        }
        fault(1, "law ^terms 1;");
        fault(1, "law ^1;");
        fault(1, "law term^;");
        fault(1, "law term 1 ^1;");
        fault(1, "law term 1 ^a;");

        says(3, "(the length, if more must come)");
        fault(1, "place^");
        fault(1, "place ^");
        fault(1, "place a^");
        fault(1, "place a \n ^");
        String line = "path q a b 1 2 3;";
        int[] cut = {4, 5, 6, 7, 8, 9, 10, 11, 12, 13, 14, 15, 16};
        for (int n : cut) {
            fault(1, PAIR + line.substring(0, n) + "^");
        }
        fault(1, PAIR + "walker v a 1 1^");
        fault(1, PAIR + "walk w^");
        fault(1, PAIR + "walk w p 1^");
        fault(1, PAIR + "bull p 1 1^");
        fault(1, "year^");
        fault(1, "year 1^");
        fault(1, "law^");
        fault(1, "law term^");
        fault(1, "law term 1^");
        fault(1, "law term 1+^");
        fault(1, "law term 1<^");
        fault(1, "law term not^");
        fault(1, "law term (^");
        fault(1, "law term (1^");
        fault(1, "law term (1) ^");
        PathsKept x = new PathsKept();
        feed(x, "place a;place b;    ");
        x.text(15);
        due("the length is n, not the tape's", x.fault(1), 15);
    }

    private static void words() {
        says(3, "W: one of 1 .. 6 letters, none of those of the language");
        fine(1, "place a;");
        fine(1, "place z;");
        fine(1, "place abcdef;");
        fine(1, "place zzzzzz;");
        fault(1, "place ^abcdefg;");
        fault(1, "place ^abcdefghijklmnopqrstuvwxyz;");
        fault(1, "place ^lengthy;");
        fault(1, "place ^walkers;");
        fine(4, "place plac;place places;place walks;place days;");
        String[] before = {"place ", TWO + "path ", TWO + "path p ", TWO + "path p a ", TWO + "walker ", TWO + "walker w ",
            PAIR + "walk ", PAIR + "walk w ", PAIR + "bull "};
        for (String start : before) {
            for (String word : LANGUAGE) {
                fault(1, start + "^" + word + " 1 1 1;");
            }
            fault(1, start + "^abcdefg 1 1 1;");
            fault(1, start + "^7 1 1 1;");
            fault(1, start + "^;");
            fault(1, start + "^A 1 1 1;");
        }

        says(3, "Words: small letters in a row");
        fault(1, "place ^Ab;");
        fault(1, "place a^B;");
        fault(1, "place a^_b;");
        fault(1, "place a^'b;");
        fault(1, "place ^`;");
        fault(1, "place ^{;");
        fault(1, "place ^@;");
        fault(1, "place ^[;");
        fault(1, "place ^" + (char) 225 + ";");
        fault(1, "^Place a;");
        fine(1, "place\na;");

        says(3, "N: digits");
        fault(1, "year ^-5;");
        fault(1, "year ^+5;");
        fault(1, "year 5^.5;");
        fault(1, "year 5^a;");
        fault(1, "year 5 ^5;");
        fault(1, "year ^:;");
        fine(2, "year 1;seed 0000000000000000000000000012;");

        says(3, "Blanks 10, 32");
        fine(3, "\n\nplace\n\na ; place  b\n;\n\npath p a b\n1 0\n0 ; ");
        fine(3, "place a;place b;path p a b1 0 0;");
        for (int code : new int[] {0, 1, 8, 9, 11, 12, 13, 31, 33, 127, 128, 133, 138, 160, 255}) {
            fault(1, "place^" + (char) code + "a;");
            fault(1, "^" + (char) code);
            fault(1, "place a;^" + (char) code);
        }

        says(3, "All numbered as they come; PLACES, PATHS, WALKERS have names of their kind");
        PathsKept x = told("place b;place a;path b b a 1 0 0;path a a b 1 0 0;walker a a 0 1;walker b b 0 1;");
        due("place b", x.named(0, letters("b")), 0);
        due("place a", x.named(0, letters("a")), 1);
        due("path a", x.named(1, letters("a")), 1);
        due("walker a", x.named(2, letters("a")), 0);
        due("path b from place b", x.path(0, 0), 0);
        due("path b to place a", x.path(0, 1), 1);
        due("walker b at place b", x.walker(1, 0), 0);
    }

    private static void numberIs(String before, int least, int most, String behind) {
        fine(linesOf(before) + 1, before + least + behind);
        fine(linesOf(before) + 1, before + most + behind);
        fine(linesOf(before) + 1, before + "00000000000" + most + behind);
        if (least > 0) {
            fault(2, before + "^" + (least - 1) + behind);
            fault(2, before + "^000" + behind);
        }
        fault(2, before + "^" + (most + 1) + behind);
        fault(2, before + "^" + most + "0" + behind);
        // as many as would come round to the least one again by 32 or 64 bits
        fault(2, before + "^" + (4294967296L + least) + behind);
        fault(2, before + "^2147483648" + behind);
        fault(2, before + "^" + (least == 0 ? "18446744073709551616" : "18446744073709551617") + behind);
        fault(2, before + "^99999999999999999999999999999999999" + behind);
        fault(1, before + "^-" + most + behind);
        fault(1, before + "^x" + behind);
    }

    private static int linesOf(String text) {
        return text.length() - text.replace(";", "").length();
    }

    private static void numbersOfLines() {
        says(3, "LENGTH 1 .. 99, STILE 0 .. 9, AGE 0 .. 399");
        numberIs(TWO + "path p a b ", 1, 99, " 0 0;");
        numberIs(TWO + "path p a b 1 ", 0, 9, " 0;");
        numberIs(TWO + "path p a b 1 0 ", 0, 399, ";");
        says(3, "LEGS 0 .. 9, PACE 1 .. 99");
        numberIs(TWO + "walker w a ", 0, 9, " 1;");
        numberIs(TWO + "walker w a 0 ", 1, 99, ";");
        says(3, "a WALKER a PATH on a DAY 0 .. 99");
        numberIs(PAIR + "walk w p ", 0, 99, ";");
        says(3, "on a PATH from a DAY 0 .. 99 to a DAY 0 .. 99");
        numberIs(PAIR + "bull p ", 0, 99, " 0;");
        numberIs(PAIR + "bull p 0 ", 0, 99, ";");
        says(3, "year: 1 .. 400 (366 without)");
        numberIs("year ", 1, 400, ";");
        due("366 without", told(TWO + "path p a b 1 0 0;").lapse(0), 366);
        due("1", told(TWO + "path p a b 1 0 0;year 1;").lapse(0), 1);
        due("399", told(TWO + "path p a b 1 0 0;year 399;").lapse(0), 399);
        due("400", told(TWO + "path p a b 1 0 1;year 400;").lapse(0), 399);
        says(3, "snow: of a hundred 0 .. 100 (0)");
        numberIs("snow ", 0, 100, ";");
        due("0 without", told("").clear(1, 0) * 1000 + told("").clear(1, 1), 1001);
        says(3, "seed: 0 .. 99999 (0)");
        numberIs("seed ", 0, 99999, ";");
        PathsKept without = told(snowy(30, 0).replace("seed 0;", ""));
        PathsKept with = told(snowy(30, 0));
        without.go(12);
        with.go(12);
        due("0 without", without.count(7), with.count(7));
        due("0 without", without.path(0, 4), with.path(0, 4));
        says(3, "N of E 0 .. 9999");
        numberIs("law may ", 0, 9999, ";");
        due("9999", worth("9999"), 9999);
        due("0", worth("0"), 0);
        due("zeros ahead", worth("0009999"), 9999);
    }

    private static String named(String start, int n, String rest) {
        StringBuilder b = new StringBuilder();
        for (int i = 0; i < n; i++) {
            b.append(start).append((char) ('a' + i)).append(rest);
        }
        return b.toString();
    }

    private static void tooMany() {
        says(3, "an eighth place and so on (at the word of the LINE)");
        fine(7, named("place ", 7, ";"));
        fault(2, named("place ", 7, ";") + "^place h;");
        fault(2, named("place ", 7, ";") + "^place a;");
        fault(2, named("place ", 7, ";") + "^place");
        fault(2, named("place ", 7, ";") + " \n^place $");
        says(3, "PATHS, at most 9");
        fine(11, TWO + named("path ", 9, " a b 1 0 0;"));
        fault(2, TWO + named("path ", 9, " a b 1 0 0;") + "^path z a b 1 0 0;");
        fault(2, TWO + named("path ", 9, " a b 1 0 0;") + "^path a x x 0;");
        says(3, "WALKERS, at most 4");
        fine(6, TWO + named("walker ", 4, " a 0 1;"));
        fault(2, TWO + named("walker ", 4, " a 0 1;") + "^walker z a 0 1;");
        fault(2, TWO + named("walker ", 4, " a 0 1;") + "^walker a x 10;");
        says(3, "walk, at most 12");
        fine(16, PAIR + times(12, "walk w p 0;"));
        fault(2, PAIR + times(12, "walk w p 0;") + "^walk w p 0;");
        fault(2, PAIR + times(12, "walk w p 0;") + "^walk x;");
        says(3, "bull, at most 6");
        fine(10, PAIR + times(6, "bull p 0 0;"));
        fault(2, PAIR + times(6, "bull p 0 0;") + "^bull p 0 0;");
        fault(2, PAIR + times(6, "bull p 0 0;") + "^bull x;");
        says(3, "PLACES, at most 7");
        PathsKept x = told(FULL);
        int[] want = {7, 9, 4, 12, 3};
        for (int what = 0; what < want.length; what++) {
            due("count(" + what + ") of the fullest text", x.count(what), want[what]);
        }
        for (String line : new String[] {"place h;", "path j a b 1 0 0;", "walker e a 0 1;", "walk a a 0;", "bull a 0 0;"}) {
            fault(2, FULL + "^" + line);
        }
    }

    private static void toldAlready() {
        says(3, "3 told already: a name of its kind (at W), year, snow, seed (at the word), a law of its LAW (at LAW)");
        fault(3, "place a;place ^a;");
        fault(3, "place abcdef;place b;place ^abcdef;");
        fine(2, "place abcdef;place abcde;");
        fine(2, "place ab;place ba;");
        fault(3, PAIR + "path ^p a b 1 1 1;");
        fault(3, PAIR + "path ^p x y");
        fault(3, PAIR + "walker ^w a 1 1;");
        fine(7, PAIR + "place p;path w a b 1 0 0;walker a a 0 1;");
        for (String word : new String[] {"year", "snow", "seed"}) {
            fault(3, word + " 1;^" + word + " 2;");
            fault(3, word + " 1;place a;^" + word + ";");
            fault(3, word + " 1;^" + word + " 999999;");
        }
        for (String law : new String[] {"term", "may", "cost"}) {
            fault(3, "law " + law + " 1;law ^" + law + " 2;");
            fault(3, "law " + law + " 1;place a;law ^" + law + ";");
        }
        fine(6, "law cost 1;law may 1;law term 1;seed 1;snow 1;year 1;");
        fine(8, PAIR + "walk w p 1;walk w p 1;bull p 1 1;bull p 1 1;");
    }

    private static void notTold() {
        says(3, "4 a PLACE, a PATH, a WALKER that isn't told ahead (at W)");
        fault(4, "path p ^a b 1 1 1;place a;place b;");
        fault(4, "place a;path p a ^b 1 1 1;place b;");
        fault(4, "place a;path p ^b a 1 1 1;place b;");
        fault(4, "walker w ^a 1 1;place a;");
        fault(4, PAIR + "walker v ^p 1 1;");
        fault(4, PAIR + "walk ^v p 1;walker v a 1 1;");
        fault(4, PAIR + "walk w ^q 1;path q a b 1 1 1;");
        fault(4, PAIR + "walk ^p p 1;");
        fault(4, PAIR + "walk ^a p 1;");
        fault(4, PAIR + "walk w ^w 1;");
        fault(4, PAIR + "bull ^q 1 1;path q a b 1 1 1;");
        fault(4, PAIR + "bull ^w 1 1;");
        fault(4, PAIR + "bull ^a 1 1;");
        fault(4, "place ab;path p ^a ab 1 1 1;");
        // a path of the same name that has just begun isn't told ahead of itself
        fault(4, "place a;path a a ^b 1 1 1;");

        says(3, "5 a PATH from a PLACE to itself (at the second PLACE)");
        fault(5, "place a;path p a ^a 1 1 1;");
        fault(5, TWO + "path p b ^b 1 1 1;");
        fault(5, TWO + "path p b ^b");
        fault(5, TWO + "path p b ^b $");
        fault(4, TWO + "path p ^c c 1 1 1;");
        fine(3, TWO + "path p b a 1 1 1;");
    }

    private static void firstFault() {
        says(3, "FAULTS, the first along the text (of one place the least), with its place");
        fault(2, "year ^0;place day;");
        fault(1, "place ^day;year 0;");
        fault(3, "place a;place ^a;year 0;");
        fault(4, "place a;path p ^b c 0 99 999;");
        fault(5, "place a;path p a ^a 0;");
        fault(2, TWO + "path p a b ^0 10 400;");
        fault(2, TWO + "path p a b 1 ^10 400;");
        fault(1, "place a;place b^$place b;");
        // of one place: unfit there, and too much or told already wherever it would fit
        fault(1, named("place ", 7, ";").replace("g;", "g") + " ^place h;");
        fault(1, "year 1 ^year 1;");
        fault(1, "law term 1;law ^law term 1;");
        fault(1, "place ^99999999999;");
        fault(1, "year 1 ^99999999999;");
        fault(1, "law term 1 ^10000;");
        fault(1, "law term ((((((((1^(");
        fault(1, "law term " + times(31, "1+") + "1;law may 1 ^1;");
        fault(1, "law term " + times(31, "1+") + "1;law may 1;law cost ^+;");
        fault(1, "law term " + times(31, "1+") + "1;law may 1;law cost ^place;");
        fault(1, "law term " + times(31, "1+") + "1;law may 1 ^not;");
    }

    // ---------------------------------------------------------------- promise 3: expressions

    private static void expressions() {
        says(3, "C: S [ ( < | <= | = | <> | >= | > ) S ]");
        String[] compare = {"<", "<=", "=", "<>", ">=", ">"};
        for (String one : compare) {
            fine(1, "law may 1" + one + "2;");
            fault(1, "law may 1" + one + "^;");
            fault(1, "law may ^" + one + "1;");
            fault(1, "law may 1" + one + " ^not 1;");
            for (String other : compare) {
                fault(1, "law may 1" + one + "2 ^" + other + "3;");
                fine(1, "law may (1" + one + "2)" + other + "3;");
                fine(1, "law may 1" + one + "2 and 1" + other + "3;");
            }
        }

        says(3, "A = (or > behind <) right behind < or > belongs to it");
        fault(1, "law may 1 < ^= 2;");
        fault(1, "law may 1 > ^= 2;");
        fault(1, "law may 1 < ^> 2;");
        fault(1, "law may 1 <\n^= 2;");
        fault(1, "law may 1 =^= 2;");
        fault(1, "law may 1 =^< 2;");
        fault(1, "law may 1 =^> 2;");
        fault(1, "law may 1 >^< 2;");
        fault(1, "law may 1 >^> 2;");
        fault(1, "law may 1 <^< 2;");
        fault(1, "law may 1 <=^= 2;");
        fault(1, "law may 1 >=^= 2;");
        fault(1, "law may 1 <>^= 2;");
        fault(1, "law may 1 <=^> 2;");
        fault(1, "law may 1 <^");
        fault(1, "law may 1 <=^");
        due("1<=1", worth("1<=1"), 1);
        due("1>=1", worth("1>=1"), 1);
        due("1<>1", worth("1<>1"), 0);

        says(3, "P: N | NAME | '(' E ')'");
        for (String word : LANGUAGE) {
            if (NAMES.contains(word)) {
                fine(1, "law may " + word + ";");
                fine(1, "law may 1+(" + word + ");");
            } else {
                fault(1, "law may 1+^" + word + ";");
                fault(1, "law may (1+^" + word + ");");
            }
        }
        fault(1, "law may ^a;");
        fault(1, "law may (^);");
        fault(1, "law may (1^;");
        fault(1, "law may 1^);");
        fault(1, "law may (1)^);");
        fault(1, "law may 1^(2);");
        fault(1, "law may (1)^(2);");
        fault(1, "law may (1)^2;");
        fault(1, "law may ^-1;");
        fault(1, "law may ^+1;");
        fault(1, "law may 1*^-1;");
        fault(1, "law may 1^$;");
        fault(1, "law may ^$;");
        fault(1, "law may 1^!=2;");
        fault(1, "law may ^lengthstile;");

        says(3, "B: not B | C");
        fine(1, "law may not 1;");
        fine(1, "law may not not not 1;");
        fine(1, "law may 1 and not 1 or not 1;");
        fault(1, "law may 1 ^not 1;");
        fault(1, "law may not^;");
        fault(1, "law may not ^and 1;");
        for (String sign : SIGNS.subList(0, 10)) {
            fault(1, "law may 1 " + sign + " ^not 1;");
            fine(1, "law may 1 " + sign + " (not 1);");
        }

        says(3, "E: A { or A }. A: B { and B }");
        for (String sign : new String[] {"or", "and"}) {
            fault(1, "law may ^" + sign + " 1;");
            fault(1, "law may 1 " + sign + "^;");
            fault(1, "law may 1 " + sign + " ^" + sign + " 1;");
            fine(1, "law may 1 " + sign + " 1 " + sign + " 1;");
        }
        fault(1, "law may 1 ^andnot 1;");
        fine(1, "law may 1and not 1or(1);");

        says(3, "a ninth '(' open");
        fine(1, "law may " + times(8, "(") + "1" + times(8, ")") + ";");
        fault(2, "law may " + times(8, "(") + "^(1" + times(9, ")") + ";");
        fault(2, "law may " + times(8, "(") + "1+^(1");
        fault(2, "law may " + times(8, "( ") + "not ^(1");
        fault(2, "law may " + times(8, "(") + "^($");
        fine(1, "law may " + times(8, "(") + "1" + times(8, ")") + "+" + times(8, "(") + "1" + times(8, ")") + ";");
        fine(1, "law may " + times(7, "(") + "1" + times(20, "+(1)") + times(7, ")") + ";");
        fine(2, "law may " + times(8, "(") + "1" + times(8, ")") + ";law cost " + times(8, "(") + "1" + times(8, ")") + ";");
        fault(1, "law may " + times(8, "(") + "1" + times(7, ")") + "^;");
        fault(1, "law may " + times(8, "(") + "1" + times(8, ")") + "^);");
    }

    private static void knots() {
        says(3, "a 65th KNOT of all E (N, NAMES, signs, not, and, or: one each)");
        String most = "law term " + times(31, "1+") + "1";
        fine(2, most + ";law may 1;");
        fine(1, "law term " + times(63, "not ") + "1;");
        fault(2, "law term " + times(64, "not ") + "^1;");
        fault(2, "law term " + times(64, "not ") + "^not 1;");
        fault(2, most + "+^1;");
        fault(2, most + "+^day+1;");
        due("64", told(most + ";law may 1;").count(4), 64);
        due("63", told(most + ";").count(4), 63);
        String full = most + ";law may 1;law cost ";
        fault(2, full + "^1;");
        fault(2, full + "^10000;");
        fault(2, full + "((^1));");
        fault(2, full + "^not 1;");
        for (String name : NAMES) {
            fault(2, full + "^" + name + ";");
        }
        for (String sign : SIGNS) {
            fault(2, most + ";law may 1 ^" + sign + " 1;");
            fault(2, "law term " + times(30, "1+") + "1;law may not 1 " + sign + " ^1;");
            due("one knot each: " + sign, told("law may 1 " + sign + " 1;").count(4), 3);
        }
        for (String name : NAMES) {
            due("one knot: " + name, told("law may " + name + ";").count(4), 1);
        }
        due("not", told("law may not 1;").count(4), 2);
        due("brackets are none", told("law may ((1)+((2)));").count(4), 3);
        due("of all E", told("law may 1;law cost 1+1;law term not 1;").count(4), 6);
        due("other lines have none", told(VALLEY).count(4), 0);
    }

    // ---------------------------------------------------------------- promises 4 and 5

    private static void faultCall() {
        says(4, "Of the latest text() that was not -2, what 0: its FAULT (0), 1: its place (NONE without)");
        PathsKept x = new PathsKept();
        due("at first", x.fault(0) * 10 + x.fault(1), -1);
        x.text(7);
        due("behind -2 at first", x.fault(0) * 10 + x.fault(1), -1);
        tell(x, "place a;place a;");
        due("fault(0)", x.fault(0), 3);
        due("fault(1)", x.fault(1), 14);
        x.text(-1);
        x.text(1);
        due("behind -2", x.fault(0) * 100 + x.fault(1), 314);
        x.feed(0, 0, 0, 0, 0);
        x.go(1);
        due("behind other calls", x.fault(0) * 100 + x.fault(1), 314);
        x.text(0);
        due("behind a text without a fault", x.fault(0), 0);
        due("behind a text without a fault", x.fault(1), -1);
        tell(x, "$");
        due("at place 0", x.fault(0) * 100 + x.fault(1), 100);
        tell(x, "place a;");
        due("none again", x.fault(0) * 100 + x.fault(1), -1);

        says(4, "NONE for another what");
        tell(x, "year 0;");
        for (int what : new int[] {-1, 2, 3, LEAST, MOST}) {
            due("fault(" + what + ")", x.fault(what), -1);
        }
    }

    private static void named() {
        says(5, "by its letters, 5 bits each (a is 1; the first one highest of six, 0 behind the last one)");
        PathsKept x = told("place a;place z;place abcdef;place zzzzzz;place ab;path a a z 1 0 0;walker z a 0 1;");
        due("a", x.named(0, 1 << 25), 0);
        due("z", x.named(0, 26 << 25), 1);
        due("abcdef", x.named(0, 1 << 25 | 2 << 20 | 3 << 15 | 4 << 10 | 5 << 5 | 6), 2);
        due("zzzzzz", x.named(0, letters("zzzzzz")), 3);
        due("ab", x.named(0, 1 << 25 | 2 << 20), 4);
        due("path a", x.named(1, 1 << 25), 0);
        due("walker z", x.named(2, 26 << 25), 0);

        says(5, "NONE: there is none such");
        for (int letters : new int[] {0, 1, 1 << 20, 2 << 25, 27 << 25, 31 << 25, letters("abcde"), letters("abcdeg"), letters("abc"),
            1 << 30 | 1 << 25, LEAST | 1 << 25, LEAST, MOST, -1}) {
            due("named(0, " + letters + ")", x.named(0, letters), -1);
        }
        due("no path z", x.named(1, 26 << 25), -1);
        due("no walker a", x.named(2, 1 << 25), -1);
        for (int what : new int[] {-1, 3, LEAST, MOST}) {
            due("named(" + what + ", a)", x.named(what, 1 << 25), -1);
        }
        tell(x, "place b;");
        due("told no more", x.named(0, 1 << 25), -1);
        due("b", x.named(0, 2 << 25), 0);
    }

    // ---------------------------------------------------------------- promises 6 to 8: what is now

    private static void pathCall() {
        says(6, "what 0, 1 its ends, 2 LENGTH, 3 STILE, 4 AGE, 5 whether KEPT (1, 0), 6 how often GONE, 7 whether a BULL is on it on this DAY (1, 0)");
        PathsKept x = told(TWO + "place c;path p c a 99 9 399;path q b c 1 0 0;bull q 0 0;year 400;");
        int[][] want = {{2, 0, 99, 9, 399, 1, 0, 0}, {1, 2, 1, 0, 0, 1, 0, 1}};
        for (int p = 0; p < 2; p++) {
            for (int what = 0; what <= 7; what++) {
                due("path(" + p + ", " + what + ")", path(x, p, what), want[p][what]);
            }
        }
        x.go(1);
        due("AGE", x.path(0, 4), 400);
        due("GRASS", x.path(0, 5), 0);
        due("AGE", x.path(1, 4), 1);
        due("KEPT", x.path(1, 5), 1);
        due("the BULL is gone", x.path(1, 7), 0);

        says(6, "IndexOutOfBoundsException: no such PATH");
        for (int p : new int[] {-1, 2, 9, LEAST, MOST}) {
            due("path(" + p + ", 0)", path(x, p, 0), 1001);
            due("path(" + p + ", 7)", path(x, p, 7), 1001);
            due("path(" + p + ", 8)", path(x, p, 8), 1001);
        }
        x = told(FULL);
        due("the ninth", path(x, 8, 2), 1);
        due("a tenth", path(x, 9, 2), 1001);
        due("of a text without paths", path(told("place a;"), 0, 0), 1001);

        says(6, "NoSuchElementException: no such what");
        for (int what : new int[] {-1, 8, 9, LEAST, MOST}) {
            due("path(0, " + what + ")", path(x, 0, what), 1002);
            due("path(8, " + what + ")", path(x, 8, what), 1002);
        }
    }

    private static void bulls() {
        says(6, "(both with; none, if the second one is less)");
        PathsKept x = told(TWO + "path p a b 1 0 0;path q a b 1 0 0;path r a b 1 0 0;path s a b 1 0 0;"
            + "bull p 1 3;bull q 2 2;bull r 3 1;bull s 0 0;bull s 2 4;bull s 4 5;");
        int[] onP = {0, 1, 1, 1, 0, 0, 0};
        int[] onQ = {0, 0, 1, 0, 0, 0, 0};
        int[] onS = {1, 0, 1, 1, 1, 1, 0};
        for (int day = 0; day <= 6; day++) {
            due("a bull on p on day " + day, x.path(0, 7), onP[day]);
            due("a bull on q on day " + day, x.path(1, 7), onQ[day]);
            due("no bull on r on day " + day, x.path(2, 7), 0);
            due("a bull on s on day " + day, x.path(3, 7), onS[day]);
            x.go(1);
        }
        x = told(PAIR + "bull p 0 99;");
        due("from day 0 on", x.path(0, 7), 1);
        x.go(99);
        due("to day 99", x.path(0, 7), 1);
        x.go(1);
        due("not on day 100", x.path(0, 7), 0);
    }

    private static void walkerCall() {
        says(7, "what 0 the PLACE, 1 LEGS, 2 PACE, 3 what is left of it");
        PathsKept x = told(TWO + "path p a b 4 0 0;walker v b 0 1;walker w a 9 99;");
        int[][] want = {{1, 0, 1, 1, 0}, {0, 9, 99, 99, 1}};
        for (int w = 0; w < 2; w++) {
            for (int what = 0; what <= 4; what++) {
                due("walker(" + w + ", " + what + ")", x.walker(w, what), want[w][what]);
            }
        }
        x.walk(1, 0);
        due("left", x.walker(1, 3), 95);
        due("PACE stays", x.walker(1, 2), 99);
        x.carry(1, 0);
        due("left behind being carried", x.walker(1, 3), 95);
        due("of the other one", x.walker(0, 3), 1);
        x.go(0);
        due("no day went by", x.walker(1, 3), 95);
        x.go(1);
        due("all again", x.walker(1, 3), 99);

        says(7, "NONE: no such ones");
        for (int w : new int[] {-1, 2, 4, LEAST, MOST}) {
            for (int what = 0; what <= 4; what++) {
                due("walker(" + w + ", " + what + ")", x.walker(w, what), -1);
            }
        }
        for (int what : new int[] {-1, 5, LEAST, MOST}) {
            due("walker(0, " + what + ")", x.walker(0, what), -1);
        }
        x = told(FULL);
        due("the fourth", x.walker(3, 2), 1);
        due("a fifth", x.walker(4, 2), -1);
    }

    private static void canGo() {
        says(7, "if he is at one end of it");
        PathsKept x = told(TWO + "place c;path p a b 5 3 2;path q b a 1 0 0;walker u a 3 5;walker v b 3 5;walker w c 3 5;");
        due("at the first end", x.walker(0, 4), 3);
        due("at the second end", x.walker(1, 4), 3);
        due("at neither", x.walker(2, 4), 0);
        due("nor by call", x.walk(2, 0), -2);

        says(7, "it is KEPT, no BULL is on it on that DAY");
        x = told(PAIR + "year 5;bull p 1 1;");
        due("day 0", x.walker(0, 4), 1);
        x.go(1);
        due("a bull on day 1", x.walker(0, 4), 0);
        due("nor by call", x.walk(0, 0), -2);
        x.go(1);
        due("day 2", x.walker(0, 4), 1);
        x.go(1);
        due("grass on day 3", x.path(0, 5), 0);
        due("grass on day 3", x.walker(0, 4), 0);
        due("nor by call", x.walk(0, 0), -2);
        x.mow(0);
        due("mown", x.walker(0, 4), 1);

        says(7, "E of may isn't 0 (STILE is no more than LEGS without, with an ERROR)");
        String low = PAIR.replace("walker w a 3", "walker w a 2");
        due("LEGS as STILE", told(PAIR).walker(0, 4), 1);
        due("LEGS less", told(low).walker(0, 4), 0);
        due("LEGS more", told(PAIR.replace("walker w a 3", "walker w a 4")).walker(0, 4), 1);
        due("LEGS 0, STILE 0", told(PAIR.replace("5 3 2", "5 0 2").replace("a 3 5", "a 0 5")).walker(0, 4), 1);
        due("may 0", told(PAIR + "law may 0;").walker(0, 4), 0);
        due("may 1", told(low + "law may 1;").walker(0, 4), 1);
        due("may 2", told(low + "law may 2;").walker(0, 4), 1);
        due("may below 0", told(low + "law may 0-1;").walker(0, 4), 1);
        due("an ERROR, LEGS as STILE", told(PAIR + "law may 1/0;").walker(0, 4), 1);
        due("an ERROR, LEGS less", told(low + "law may 1/0;").walker(0, 4), 0);
        due("an ERROR by too much, LEGS as STILE", told(PAIR + "law may 0*(9999*9999*9999*9999);").walker(0, 4), 1);
        due("an ERROR by too much, LEGS less", told(low + "law may 1+0*(9999*9999*9999*9999);").walker(0, 4), 0);

        says(7, "4 PATHS (bits) he CAN go now (without snow)");
        due("cost 0", told(PAIR + "law cost 0;").walker(0, 4), 1);
        due("cost as PACE", told(PAIR + "law cost 5;").walker(0, 4), 1);
        due("cost above PACE", told(PAIR + "law cost 6;").walker(0, 4), 0);
        due("snow 100", told(PAIR + "snow 100;").walker(0, 4), 1);
        x = told(TWO + named("path ", 9, " a b 1 0 0;") + "walker w a 0 1;");
        due("nine", x.walker(0, 4), 511);
        x.walk(0, 8);
        due("nothing left", x.walker(0, 4), 0);
        x.go(1);
        due("nine from the other end", x.walker(0, 4), 511);
    }

    private static void costs() {
        says(9, "what he has left of PACE on that DAY is no less than E of cost (0 .. 99; LENGTH without, with an ERROR)");
        due("LENGTH as PACE", told(PAIR).walk(0, 0), 0);
        due("LENGTH more", told(PAIR.replace("3 5;", "3 4;")).walk(0, 0), -2);
        due("LENGTH less", told(PAIR.replace("3 5;", "3 6;")).walk(0, 0), 1);
        due("cost as PACE", told(PAIR + "law cost 5;").walk(0, 0), 0);
        due("cost more", told(PAIR + "law cost 6;").walk(0, 0), -2);
        due("cost less", told(PAIR + "law cost 4;").walk(0, 0), 1);
        due("cost 0", told(PAIR + "law cost 0;").walk(0, 0), 5);
        due("cost -1 is 0", told(PAIR + "law cost 0-1;").walk(0, 0), 5);
        due("far below 0", told(PAIR + "law cost 0-9999*9999;").walk(0, 0), 5);
        due("an ERROR", told(PAIR + "law cost 1/0;").walk(0, 0), 0);
        due("an ERROR by too much", told(PAIR + "law cost 9999*9999*9999*9999;").walk(0, 0), 0);
        due("an ERROR by too little", told(PAIR + "law cost 0-9999*9999*9999*9999;").walk(0, 0), 0);
        due("an ERROR, LENGTH more", told(PAIR.replace("3 5;", "3 4;") + "law cost 1/0;").walk(0, 0), -2);
        String fast = PAIR.replace("3 5;", "3 99;");
        String less = PAIR.replace("3 5;", "3 98;");
        due("99", told(fast + "law cost 99;").walk(0, 0), 0);
        due("100 is 99", told(fast + "law cost 100;").walk(0, 0), 0);
        due("far above is 99", told(fast + "law cost 9999*9999;").walk(0, 0), 0);
        due("99 of 98", told(less + "law cost 99;").walk(0, 0), -2);
        due("100 of 98", told(less + "law cost 100;").walk(0, 0), -2);
        due("98 of 98", told(less + "law cost 98;").walk(0, 0), 0);
        PathsKept x = told(PAIR + "law cost 3;");
        due("2 are left", x.walk(0, 0), 2);
        due("3 of 2", x.walk(0, 0), -2);
        x = told(PAIR + "law cost 0;");
        due("nothing is spent", x.walk(0, 0) + x.walk(0, 0) + x.walk(0, 0), 15);
    }

    private static void lawCall() {
        says(8, "what 0 term of a PATH, the WALKER isn't looked at, 1 may, 2 cost of both");
        String text = TWO + "path p a b 6 3 2;path q b a 7 1 9;walker v a 2 20;walker w b 5 30;";
        PathsKept x = told(text + "law term 1;law may 2;law cost 3;");
        for (int walker : new int[] {-1, 0, 1, 2, LEAST, MOST}) {
            due("term", x.law(0, 0, walker), 1);
            due("term", x.law(0, 1, walker), 1);
        }
        due("may", x.law(1, 1, 1), 2);
        due("cost", x.law(2, 1, 1), 3);

        says(8, "NAMES, of the PATH: length, stile: LENGTH, STILE; age: AGE; legs, pace: LEGS, what the WALKER has left of PACE (of term 0); "
            + "gone: how often it was GONE; day: the DAY");
        long[][] want = {{6, 3, 2, 0, 0, 0, 0}, {7, 1, 9, 0, 0, 0, 0}};
        long[][] wantOfV = {{6, 3, 2, 2, 20, 0, 0}, {7, 1, 9, 2, 20, 0, 0}};
        long[] later = {6, 3, 1, 2, 20, 1, 1};
        for (int name = 0; name < 7; name++) {
            x = told(text + "law term " + NAMES.get(name) + ";law may " + NAMES.get(name) + ";law cost " + NAMES.get(name) + ";");
            for (int p = 0; p < 2; p++) {
                due("term " + NAMES.get(name), x.law(0, p, 0), want[p][name]);
                due("may " + NAMES.get(name), x.law(1, p, 0), wantOfV[p][name]);
                due("cost " + NAMES.get(name), x.law(2, p, 0), wantOfV[p][name]);
            }
            due("of w", x.law(1, 0, 1), name == 3 ? 5 : name == 4 ? 30 : wantOfV[0][name]);
            x = told(text + "walk v p 0;law may " + NAMES.get(name) + "+1;law term 9+" + NAMES.get(name) + ";");
            x.go(1);
            due("may " + NAMES.get(name) + " behind a walk and a day", x.law(1, 0, 0), later[name] + 1);
            due("term " + NAMES.get(name) + " behind a walk and a day", x.law(0, 0, 0), (name == 3 || name == 4 ? 0 : later[name]) + 9);
        }
        x = told(text + "law may 1+pace;law cost 7;");
        x.walk(0, 0);
        due("what is left", x.law(1, 0, 0), 14);
        x.undo();
        due("all again", x.law(1, 0, 0), 21);

        says(8, "Long.MIN_VALUE: an ERROR, no such law, no such ones");
        x = told(text + "law term 1/0;law may 1/(stile-3);law cost 1;");
        due("an ERROR", x.law(0, 0, 0), ERROR);
        due("an ERROR", x.law(1, 0, 0), ERROR);
        due("none of the other path", x.law(1, 1, 0), 0);
        for (int what : new int[] {-1, 3, LEAST, MOST}) {
            due("law(" + what + ", 0, 0)", x.law(what, 0, 0), ERROR);
        }
        for (int one : new int[] {-1, 2, LEAST, MOST}) {
            due("law(0, " + one + ", 0)", x.law(0, one, 0), ERROR);
            due("law(2, " + one + ", 0)", x.law(2, one, 0), ERROR);
            due("law(2, 0, " + one + ")", x.law(2, 0, one), ERROR);
        }
        due("and those that are", x.law(2, 0, 0), 1);
        x = told(text);
        due("no term", x.law(0, 0, 0), ERROR);
        due("no may", x.law(1, 0, 0), ERROR);
        due("no cost", x.law(2, 0, 0), ERROR);
        x = told(text + "law may 1;");
        due("no term, but may", x.law(0, 0, 0), ERROR);
        due("no cost, but may", x.law(2, 0, 0), ERROR);
        due("the value isn't brought into 0 .. 99", told(text + "law cost 0-100;").law(2, 0, 0), -100);
        due("the value isn't brought into 0 .. 99", told(text + "law cost 100;").law(2, 0, 0), 100);
        due("the value isn't brought into 1 .. 9999", told(text + "law term 0;").law(0, 0, 0), 0);
        due("the value isn't brought into 1 .. 9999", told(text + "law term 9999+1;").law(0, 0, 0), 10000);
        x = told(text + "law term age;law may age;year 5;");
        x.go(3);
        due("of GRASS too, whose AGE stays", x.law(0, 0, 0), 3);
    }

    private static void values() {
        String million = "(1000*1000)";
        String most = million + "*" + million;
        says(8, "ERROR: / by 0, a value above 10 to the 12 or below 0 by more than that");
        due("1/0", worth("1/0"), ERROR);
        due("0/0", worth("0/0"), ERROR);
        due("0/1", worth("0/1"), 0);
        due("1/(1-1)", worth("1/(1-1)"), ERROR);
        due("1/(not 1)", worth("1/(not 1)"), ERROR);
        due("10 to the 12", worth(most), 1000000000000L);
        due("and 1", worth(most + "+1"), ERROR);
        due("less 1", worth(most + "-1"), 999999999999L);
        due("below 0", worth("0-" + most), -1000000000000L);
        due("below 0, and 1", worth("0-" + most + "-1"), ERROR);
        due("there and back", worth(most + "+1-1"), ERROR);
        due("there and back", worth("0*(" + most + "+1)"), ERROR);
        due("beyond 63 bits", worth(most + "*(" + most + ")"), ERROR);
        due("beyond 63 bits, below 0", worth("(0-" + most + ")*(" + most + ")"), ERROR);
        due("round to 0 by 64 bits", worth("(4096*4096*4096)*(4096*4096*4096)"), ERROR);
        due("just below by a product", worth("9999*9999*9999"), 999700029999L);
        due("just above by a product", worth("9999*9999*9999*2"), ERROR);
        due("times 0", worth("(" + most + ")*0"), 0);
        due("0 times", worth("0*(" + most + ")"), 0);
        due("by itself", worth("(" + most + ")/(" + most + ")"), 1);
        due("in a comparison", worth("1<1/0"), ERROR);
        due("not of an ERROR", worth("not 1/0"), ERROR);

        says(8, "comparisons, and, or, not are 1 or 0 (what isn't 0 is as 1, both sides are worked out)");
        due("7 and 9", worth("7 and 9"), 1);
        due("7 and 0", worth("7 and 0"), 0);
        due("0 and 7", worth("0 and 7"), 0);
        due("0 or 7", worth("0 or 7"), 1);
        due("7 or 0", worth("7 or 0"), 1);
        due("0 or 0", worth("0 or 0"), 0);
        due("(0-1) and (0-1)", worth("(0-1) and (0-1)"), 1);
        due("not 2", worth("not 2"), 0);
        due("not (0-1)", worth("not (0-1)"), 0);
        due("not 0", worth("not 0"), 1);
        due("not not 5", worth("not not 5"), 1);
        due("1 or 1/0", worth("1 or 1/0"), ERROR);
        due("1/0 or 1", worth("1/0 or 1"), ERROR);
        due("0 and 1/0", worth("0 and 1/0"), ERROR);
        due("1/0 and 0", worth("1/0 and 0"), ERROR);
        int[][] compared = {{1, 1, 0, 1, 0, 0}, {0, 1, 1, 0, 1, 0}, {0, 0, 0, 1, 1, 1}};
        String[] signs = {"<", "<=", "=", "<>", ">=", ">"};
        for (int second = 1; second <= 3; second++) {
            for (int i = 0; i < 6; i++) {
                String e = "2" + signs[i] + (4 - second);
                due(e, worth(e), compared[second - 1][i]);
            }
        }
        due("(2<3)+(3>2)", worth("(2<3)+(3>2)"), 2);

        says(8, "/ is cut towards 0");
        due("7/2", worth("7/2"), 3);
        due("(0-7)/2", worth("(0-7)/2"), -3);
        due("7/(0-2)", worth("7/(0-2)"), -3);
        due("(0-7)/(0-2)", worth("(0-7)/(0-2)"), 3);
        due("(0-1)/2", worth("(0-1)/2"), 0);

        says(8, "S: T { ( + | - ) T }. T: P { ( * | / ) P }");
        due("10-3-2", worth("10-3-2"), 5);
        due("10-(3-2)", worth("10-(3-2)"), 9);
        due("100/10/5", worth("100/10/5"), 2);
        due("100/10*5", worth("100/10*5"), 50);
        due("2+3*4", worth("2+3*4"), 14);
        due("2*3+4", worth("2*3+4"), 10);
        due("1+1=2", worth("1+1=2"), 1);
        due("not 1=2", worth("not 1=2"), 1);
        due("not 0 and 0", worth("not 0 and 0"), 0);
        due("1 or 1 and 0", worth("1 or 1 and 0"), 1);
        due("0 and 0 or 1", worth("0 and 0 or 1"), 1);
    }

    // ---------------------------------------------------------------- promises 9 to 11: by call

    private static void walkCall() {
        says(9, "he has so much less left on that DAY, is at its other end; AGE is 0, it was GONE once more");
        PathsKept x = told(PAIR.replace("3 5;", "3 11;"));
        due("left", x.walk(0, 0), 6);
        due("at the other end", x.walker(0, 0), 1);
        due("AGE", x.path(0, 4), 0);
        due("GONE", x.path(0, 6), 1);
        due("back", x.walk(0, 0), 1);
        due("at the first end", x.walker(0, 0), 0);
        due("GONE twice", x.path(0, 6), 2);
        due("5 of 1", x.walk(0, 0), -2);
        due("done", x.count(7), 2);
        x = told(PAIR + "law cost 0;");
        for (int i = 0; i < 480; i++) {
            x.walk(0, 0);
        }
        due("GONE often", x.path(0, 6), 480);

        says(9, "-2: he can't");
        x = told(VALLEY);
        x.go(1);
        long[] before = all(x);
        due("not there", x.walk(0, 3), -2);
        due("the stile", x.walk(0, 1), -2);
        due("a bull", x.walk(1, 2), -2);
        due("too long", x.walk(1, 1), -2);
        same("all stays", all(x), before);
        due("not REFUSED by days", x.count(8), 0);
        due("nothing to undo", x.undo(), -1);
        due("snow isn't asked by call", told(PAIR + "snow 100;").walk(0, 0), 0);

        says(9, "NONE: no such ones");
        for (int w : new int[] {-1, 2, 4, LEAST, MOST}) {
            due("walk(" + w + ", 0)", x.walk(w, 0), -1);
        }
        for (int p : new int[] {-1, 4, 9, LEAST, MOST}) {
            due("walk(0, " + p + ")", x.walk(0, p), -1);
        }
        same("all stays", all(x), before);
    }

    private static void mowCall() {
        says(10, "A PATH is mown: KEPT, AGE 0 (GONE stays): true");
        PathsKept x = told(PAIR + "walk w p 0;year 3;");
        due("AGE 2", x.mow(0), true);
        due("AGE 0", x.path(0, 4), 0);
        due("never GONE", x.path(0, 6), 0);
        due("no walk done", x.count(7), 0);
        x.go(4);
        due("GRASS", x.path(0, 5), 0);
        due("GONE", x.path(0, 6), 1);
        due("mown", x.mow(0), true);
        due("KEPT", x.path(0, 5), 1);
        due("AGE 0", x.path(0, 4), 0);
        due("GONE stays", x.path(0, 6), 1);
        x.go(3);
        due("GRASS again at 3", x.path(0, 5), 0);

        says(10, "false: no such PATH, it is so");
        x = told(TWO + "path p a b 1 0 0;path q a b 1 0 1;walker w a 0 9;");
        due("AGE 0", x.mow(0), false);
        due("AGE 1", x.mow(1), true);
        due("it is so", x.mow(1), false);
        x.go(1);
        due("a day older", x.mow(0), true);
        x.go(1);
        x.walk(0, 0);
        due("just gone", x.mow(0), false);
        long[] before = all(x);
        for (int p : new int[] {-1, 2, 9, LEAST, MOST}) {
            due("mow(" + p + ")", x.mow(p), false);
        }
        same("all stays", all(x), before);
    }

    private static void carryCall() {
        says(11, "A WALKER is carried to a PLACE: true");
        PathsKept x = told(TWO + "place c;walker w a 0 1;walker v b 0 1;");
        due("without any path", x.carry(0, 2), true);
        due("there", x.walker(0, 0), 2);
        due("what is left of PACE stays", x.walker(0, 3), 1);
        due("the other one stays", x.walker(1, 0), 1);
        due("to where another one is", x.carry(0, 1), true);
        due("no walk done", x.count(7), 0);

        says(11, "false: no such ones, he is there");
        long[] before = all(x);
        due("he is there", x.carry(0, 1), false);
        for (int w : new int[] {-1, 2, 4, LEAST, MOST}) {
            due("carry(" + w + ", 0)", x.carry(w, 0), false);
        }
        for (int place : new int[] {-1, 3, 7, LEAST, MOST}) {
            due("carry(0, " + place + ")", x.carry(0, place), false);
        }
        same("all stays", all(x), before);
        x = told(FULL);
        due("the last of each", x.carry(3, 6), true);
        due("an eighth place", x.carry(3, 7), false);
    }

    // ---------------------------------------------------------------- promise 12: days

    private static void goCall() {
        says(12, "So many DAYS (0 .. 400) go by: which one it is");
        PathsKept x = told(VALLEY);
        long[] before = all(x);
        due("go(0)", x.go(0), 0);
        same("all stays", all(x), before);
        due("go(1)", x.go(1), 1);
        due("go(400)", x.go(400), 401);

        says(12, "NONE, and none does: no such number, behind 9000");
        before = all(x);
        for (int n : new int[] {-1, 401, LEAST, MOST}) {
            due("go(" + n + ")", x.go(n), -1);
        }
        same("none does", all(x), before);
        x = told(PAIR);
        for (int i = 1; i <= 22; i++) {
            due("go(400)", x.go(400), 400 * i);
        }
        x.mow(0);
        due("to 9001", x.go(201), -1);
        due("to 9200", x.go(400), -1);
        due("none does", x.count(5), 8800);
        due("what can be undone stays", x.count(12), 1);
        due("AGE stays", x.path(0, 4), 0);
        due("to 8999", x.go(199), 8999);
        due("to 9001", x.go(2), -1);
        due("to 9000", x.go(1), 9000);
        due("to 9001", x.go(1), -1);
        due("go(0) on DAY 9000", x.go(0), 9000);
        due("an image on DAY 9000", x.keep(), 9000);
        due("AHEAD of DAY 9000", x.ahead(400, 4, 0), 366);
        due("LAPSE behind DAY 9000", x.lapse(0), 166);
        due("the tape on DAY 9000", tell(x, PAIR), 4);
        due("go from DAY 0 on", x.go(1), 1);
    }

    private static void snowOfDays() {
        says(12, "a number modulo 100 of each DAY (no number, if snow is 0 or 100; at 100 always) below snow");
        for (int seed : new int[] {0, 1, 2, 12345, 50000, 99998, 99999}) {
            int[] due = numbers(seed, 12);
            for (int snow : new int[] {1, 50, 99, Math.max(1, due[0]), Math.min(99, due[0] + 1), Math.max(1, due[11])}) {
                PathsKept x = told(snowy(snow, seed));
                int refused = 0;
                for (int day = 0; day < 12; day++) {
                    x.go(1);
                    refused += due[day] < snow ? 1 : 0;
                    due("REFUSED by snow " + snow + ", seed " + seed + " to day " + day, x.count(8), refused);
                    due("done", x.count(7), day + 1 - refused);
                }
            }
        }
        for (int number = 0; number <= 99; number += 99) {
            int seed = 0;
            while (numbers(seed, 1)[0] != number) {
                seed++;
            }
            PathsKept x = told(snowy(99, seed));
            x.go(1);
            due("a number of " + number + " by snow 99", x.count(8), number == 99 ? 0 : 1);
            x = told(snowy(1, seed));
            x.go(1);
            due("a number of " + number + " by snow 1", x.count(8), number == 0 ? 1 : 0);
            x = told(snowy(100, seed));
            x.go(1);
            due("a number of " + number + " by snow 100", x.count(8), 1);
            x = told(snowy(0, seed));
            x.go(1);
            due("a number of " + number + " by snow 0", x.count(8), 0);
        }
        PathsKept x = told(snowy(100, 1));
        x.go(12);
        due("always at 100", x.count(8), 12);
        x = told(snowy(0, 1));
        x.go(12);
        due("never at 0", x.count(7), 12);

        says(12, "Numbers are the last one (at first the seed) times 1103515245 and 12345, without what is above 31 bits, by 65536");
        // seed 1 is the well known row 16838, 5758, 10113, 17515, 31051, 5627, 23010, 7419, 16212, 4086
        int[] known = {38, 58, 13, 15, 51, 27, 10, 19, 12, 86};
        for (int day = 0; day < known.length; day++) {
            for (int more = 0; more <= 1; more++) {
                x = told(snowy(known[day] + more, 1));
                x.go(day);
                int before = x.count(8);
                x.go(1);
                due("snow " + (known[day] + more) + " on day " + day, x.count(8) - before, more);
            }
        }
        x = told(snowy(39, 1));
        x.go(3);
        x.go(0);
        x.ahead(400, 0, 0);
        x.tried(0, 0, 400);
        x.chance(77, 99, 0, 0);
        x.lapse(0);
        x.legs(0);
        x.sit(0, 60, 0);
        x.go(1);
        due("asking takes no number: 15 of 39", x.count(8), 3);
    }

    private static void walksOfDays() {
        says(12, "walks of this DAY, by their numbers: if there is no snow and the WALKER CAN, he GOES the PATH; else it is REFUSED");
        PathsKept x = told(TWO + "place c;path p a b 1 0 0;path q b c 1 0 0;walker w a 0 9;walk w q 0;walk w p 0;walk w q 0;");
        x.go(1);
        due("p, then q", x.walker(0, 0), 2);
        due("done", x.count(7), 2);
        due("REFUSED", x.count(8), 1);
        x = told(TWO + "path p a b 1 0 0;walker w a 0 9;walk w p 99;walk w p 1;walk w p 0;walk w p 99;walk w p 99;");
        int[] done = {0, 1, 2, 2};
        for (int day = 0; day <= 3; day++) {
            due("done ahead of day " + day, x.count(7), done[day]);
            x.go(1);
        }
        x.go(95);
        due("DAY 99", x.count(5) * 10 + x.count(7), 992);
        x.go(1);
        due("done on DAY 99", x.count(7), 5);
        x.go(400);
        due("none behind", x.count(7), 5);
        x = told(PAIR + "walk w p 0;walk w p 0;");
        x.go(1);
        due("too little left for the second one", x.count(7) * 10 + x.count(8), 11);
        x = told(PAIR + "walk w p 0;");
        x.walk(0, 0);
        x.go(1);
        due("too little left behind a walk by call", x.count(7) * 10 + x.count(8), 11);
        x = told(PAIR + "walk w p 0;bull p 0 0;walk w p 1;");
        x.go(2);
        due("a bull on DAY 0", x.count(7) * 10 + x.count(8), 11);
        x = told(PAIR + "walk w p 0;law may 0;");
        x.go(1);
        due("may not", x.count(8), 1);
        x = told(PAIR + "walk w p 1;year 3;");
        x.go(2);
        due("GRASS on DAY 1", x.count(8), 1);
        x = told(PAIR + "walk w p 0;year 3;");
        x.go(1);
        due("gone on its last day", x.path(0, 5) * 10 + x.path(0, 4), 11);
        x = told(PAIR + "walk w p 0;snow 100;");
        x.go(1);
        due("snow", x.count(8), 1);

        says(12, "all have PACE left again");
        x = told(PAIR + "walk w p 0;walk w p 1;walk w p 2;");
        x.go(3);
        due("each day anew", x.count(7), 3);
        due("and then", x.walker(0, 3), 5);
    }

    private static void olderByDays() {
        says(12, "each PATH that is KEPT is 1 older; if AGE is E of term then at least (1 .. 9999; year without, with an ERROR), it is GRASS");
        PathsKept x = told(TWO + "path p a b 1 0 8;path q a b 1 0 9;path r a b 1 0 10;path s a b 1 0 399;year 10;");
        x.go(1);
        int[] kept = {1, 0, 0, 0};
        int[] age = {9, 10, 11, 400};
        for (int p = 0; p < 4; p++) {
            due("KEPT", x.path(p, 5), kept[p]);
            due("AGE", x.path(p, 4), age[p]);
        }
        x.go(400);
        age[0] = 10;
        for (int p = 0; p < 4; p++) {
            due("GRASS for good", x.path(p, 5), 0);
            due("GRASS is no older", x.path(p, 4), age[p]);
        }
        due("term 3", told(PAIR + "law term 3;").lapse(0), 1);
        due("term 4", told(PAIR + "law term 4;").lapse(0), 2);
        due("term 0", told(PAIR.replace("3 2;", "3 0;") + "law term 0;").lapse(0), 1);
        due("term 1", told(PAIR.replace("3 2;", "3 0;") + "law term 1;").lapse(0), 1);
        due("term 2", told(PAIR.replace("3 2;", "3 0;") + "law term 2;").lapse(0), 2);
        due("term below 0", told(PAIR + "law term 0-9999;").lapse(0), 1);
        due("the AGE behind the day is asked", told(PAIR + "law term (age<>3)*9999+3;").lapse(0), 1);
        due("the DAY itself is asked", told(PAIR + "law term (day<>1)*9999+3;").lapse(0), 2);
        due("an ERROR", told(PAIR + "law term 1/0;year 5;").lapse(0), 3);
        due("an ERROR without a year", told(PAIR + "law term 1/0;").lapse(0), 364);
        due("an ERROR by too much", told(PAIR + "law term 9999*9999*9999*9999;year 5;").lapse(0), 3);
        due("term, not year", told(PAIR + "law term 9999;year 5;").lapse(0), -2);
        due("legs and pace are 0", told(PAIR + "law term 3+legs+pace;").lapse(0), 1);
        x = told(PAIR + "law term 9999*9999;");
        for (int i = 0; i < 22; i++) {
            x.go(400);
        }
        x.go(200);
        due("a term of 9999 isn't reached by DAY 9000", x.path(0, 5), 1);
        due("AGE", x.path(0, 4), 9002);
        x = told(PAIR + "walk w p 0;walk w p 1;law term 1+gone;");
        x.go(3);
        due("gone is asked: 2 of 3", x.path(0, 5), 1);
        x.go(1);
        due("3 of 3", x.path(0, 5), 0);
    }

    // ---------------------------------------------------------------- promises 13 and 14: ahead

    private static void aheadCall() {
        says(13, "AHEAD (n 0 .. 400), what 0 KEPT, 1 walks done, 2 REFUSED, 3 the PLACE of WALKER i, 4 AGE of PATH i");
        PathsKept x = told(VALLEY);
        due("n 0, KEPT", x.ahead(0, 0, 0), 4);
        due("n 0, done", x.ahead(0, 1, 0), 0);
        due("n 0, REFUSED", x.ahead(0, 2, 0), 0);
        due("n 0, the PLACE", x.ahead(0, 3, 1), 2);
        due("n 0, AGE", x.ahead(0, 4, 1), 20);
        due("n 2, KEPT", x.ahead(2, 0, 0), 4);
        due("n 2, done", x.ahead(2, 1, 0), 2);
        due("n 2, REFUSED", x.ahead(2, 2, 0), 1);
        due("n 2, the PLACE", x.ahead(2, 3, 1), 3);
        due("n 2, AGE", x.ahead(2, 4, 1), 22);
        due("n 9, KEPT", x.ahead(9, 0, 0), 4);
        due("n 10, KEPT", x.ahead(10, 0, 0), 3);
        due("n 400, KEPT", x.ahead(400, 0, 0), 0);
        due("n 400, AGE of GRASS", x.ahead(400, 4, 1), 30);
        x.walk(0, 0);
        due("done more: not those of before", x.ahead(0, 1, 0), 0);
        x.go(2);
        due("REFUSED more: not those of before", x.ahead(1, 2, 0), 0);

        says(13, "(of 0 .. 2 i isn't looked at)");
        x = told(VALLEY);
        for (int i : new int[] {-1, 99, LEAST, MOST}) {
            due("what 0", x.ahead(10, 0, i), 3);
            due("what 1", x.ahead(10, 1, i), 2);
            due("what 2", x.ahead(10, 2, i), 1);
        }

        says(13, "NONE: no such ones");
        for (int n : new int[] {-1, 401, LEAST, MOST}) {
            for (int what = 0; what <= 4; what++) {
                due("ahead(" + n + ", " + what + ", 0)", x.ahead(n, what, 0), -1);
            }
        }
        for (int what : new int[] {-1, 5, LEAST, MOST}) {
            due("ahead(1, " + what + ", 0)", x.ahead(1, what, 0), -1);
        }
        for (int i : new int[] {-1, 2, 4, LEAST, MOST}) {
            due("ahead(1, 3, " + i + ")", x.ahead(1, 3, i), -1);
        }
        for (int i : new int[] {-1, 4, 9, LEAST, MOST}) {
            due("ahead(1, 4, " + i + ")", x.ahead(1, 4, i), -1);
        }

        says(13, "AS IT GOES: without numbers: there is snow, if snow is 50 at least");
        for (int seed : new int[] {0, 1, 99999}) {
            due("49", told(snowy(49, seed)).ahead(12, 1, 0), 12);
            due("50", told(snowy(50, seed)).ahead(12, 2, 0), 12);
            due("1", told(snowy(1, seed)).ahead(12, 1, 0), 12);
            due("99", told(snowy(99, seed)).ahead(12, 2, 0), 12);
            due("100", told(snowy(100, seed)).ahead(12, 2, 0), 12);
            due("0", told(snowy(0, seed)).ahead(12, 1, 0), 12);
        }
        x = told(VALLEY);
        x.walk(0, 0);
        long[] before = all(x);
        x.ahead(400, 0, 0);
        same("all stays", all(x), before);
        due("what is left on this DAY is asked", x.ahead(1, 2, 0), 0);
        x = told(PAIR + "walk w p 0;");
        x.walk(0, 0);
        due("what is left on this DAY is asked", x.ahead(1, 2, 0), 1);
    }

    private static void lapseCall() {
        says(14, "in how many DAYS as it goes, 399 at most (1: this one), it is GRASS (0: it is)");
        String none = TWO + "path p a b 1 0 0;";
        PathsKept x = told(none + "year 2;");
        due("2", x.lapse(0), 2);
        x.go(1);
        due("this one", x.lapse(0), 1);
        x.go(1);
        due("it is", x.lapse(0), 0);
        x.go(1);
        due("it is", x.lapse(0), 0);
        due("399", told(none + "year 399;").lapse(0), 399);
        due("398", told(none + "law term 398;").lapse(0), 398);
        due("a walk ahead", told(PAIR + "walk w p 7;year 10;").lapse(0), 17);
        due("a walk too late", told(PAIR + "walk w p 8;year 10;").lapse(0), 8);
        due("snow as it goes", told(PAIR + "walk w p 7;year 10;snow 50;").lapse(0), 8);
        due("no snow as it goes", told(PAIR + "walk w p 7;year 10;snow 49;").lapse(0), 17);

        says(14, "-2: not by then");
        due("400", told(none + "year 400;").lapse(0), -2);
        due("400", told(none + "law term 400;").lapse(0), -2);
        due("9999", told(none + "law term 9999;").lapse(0), -2);
        x = told(none + "year 400;");
        x.go(1);
        due("399 from DAY 1 on", x.lapse(0), 399);

        says(14, "NONE: no such PATH");
        for (int p : new int[] {-1, 1, 9, LEAST, MOST}) {
            due("lapse(" + p + ")", x.lapse(p), -1);
        }
        due("nothing went by", x.count(5), 1);
    }

    // ---------------------------------------------------------------- promises 15 to 22: ways, matches, the squire

    private static void reachCall() {
        says(15, "REACH: PLACES (bits) to which he comes by OPEN ones, his own with");
        due("his own alone", told("place a;place b;place c;walker w b 0 1;").reach(0), 2);
        due("the seventh alone", told(named("place ", 7, ";") + "walker w g 0 1;").reach(0), 64);
        String row = "place a;place b;place c;place d;place e;place f;place g;path p g f 99 0 0;path q f e 99 0 0;path r e d 99 0 0;"
            + "path s d c 99 0 0;path t c b 99 0 0;path u b a 99 0 0;walker w a 0 1;walker v g 0 1;";
        due("seven in a row", told(row).reach(0), 127);
        due("seven in a row, from the end", told(row).reach(1), 127);

        says(15, "OPEN for a WALKER: PATHS that are KEPT, STILE no more than LEGS (E of may, BULLS, PACE aren't asked)");
        PathsKept x = told(TWO + "place c;path p a b 50 3 0;path q b c 50 4 0;walker w a 3 1;bull p 0 99;law may 0;law cost 99;");
        due("STILE as LEGS, not above", x.reach(0), 3);
        due("E of may isn't asked", told(TWO + "path p a b 1 3 0;walker w a 2 9;law may 1;").reach(0), 1);
        x = told(TWO + "path p a b 1 0 8;walker w a 0 9;year 10;");
        x.go(1);
        due("KEPT on its last day", x.reach(0), 3);
        x.go(1);
        due("GRASS", x.reach(0), 1);
        due("no WAY over GRASS", x.way(0, 1), -2);
        x.carry(0, 1);
        due("from where he is now", x.reach(0), 2);

        says(15, "NONE: no such WALKER");
        for (int w : new int[] {-1, 1, 4, LEAST, MOST}) {
            due("reach(" + w + ")", x.reach(w), -1);
        }
    }

    private static void wayCall() {
        says(16, "WAY (0: he is there); -2: there is none; NONE: no such ones");
        PathsKept x = told(TWO + "place c;place d;path p a b 99 0 0;path q b c 99 0 0;path r a c 99 1 0;walker w a 0 1;walker v c 1 1;");
        due("there", x.way(0, 0), 0);
        due("99", x.way(0, 1), 99);
        due("by OPEN ones", x.way(0, 2), 198);
        due("with LEGS 1", x.way(1, 0), 99);
        due("none", x.way(0, 3), -2);
        x.carry(0, 3);
        due("there", x.way(0, 3), 0);
        due("none", x.way(0, 0), -2);
        for (int one : new int[] {-1, 2, 4, LEAST, MOST}) {
            due("way(" + one + ", 0)", x.way(one, 0), -1);
        }
        for (int place : new int[] {-1, 4, 7, LEAST, MOST}) {
            due("way(0, " + place + ")", x.way(0, place), -1);
        }

        says(16, "WAY to a PLACE: least LENGTH in sum by OPEN ones");
        String row = "place a;place b;place c;place d;place e;place f;place g;path p g f 1 0 0;path q f e 1 0 0;path r e d 1 0 0;"
            + "path s d c 1 0 0;path t c b 1 0 0;path u b a 1 0 0;path v a g 7 0 0;path x a g 8 0 0;walker w a 0 1;";
        due("six short ones", told(row).way(0, 6), 6);
        due("one of the same length", told(row.replace("v a g 7", "v a g 6")).way(0, 6), 6);
        due("one that is shorter", told(row.replace("v a g 7", "v a g 5")).way(0, 6), 5);
        due("the shorter one of two", told(TWO + "path p a b 9 0 0;path q b a 8 0 0;walker w a 0 1;").way(0, 1), 8);
    }

    private static void roundCall() {
        says(17, "ROUND through some PATHS (bits): least LENGTH in sum of a walk from where he is by OPEN ones that goes each of these once at least "
            + "and ends anywhere");
        PathsKept x = told(VALLEY);
        due("no PATHS", x.round(0, 0, 0), 0);
        due("one at hand", x.round(0, 1, 0), 4);
        due("one afar", x.round(0, 8, 0), 12);
        due("there and back and on", x.round(0, 1 | 4, 0), 17);
        due("bob: the ring, then dell", x.round(1, 15, 0), 22);
        due("all nine, there and back", told(FULL).round(0, 511, 0), 9);
        x = told(TWO + "place c;path p a b 99 0 0;path q a c 99 0 0;walker w a 0 1;");
        due("back over the first one", x.round(0, 3, 0), 297);
        x = told(TWO + "place c;path p a b 99 0 0;path q a c 99 0 0;path r b c 1 5 0;walker w a 5 1;walker v a 4 1;");
        due("by r", x.round(0, 3, 0), 199);
        due("r isn't OPEN", x.round(1, 3, 0), 297);

        says(17, "-2: there is none");
        due("STILE", x.round(1, 4, 0), -2);
        due("STILE among others", x.round(1, 7, 0), -2);
        x = told(TWO + "place c;place d;path p a b 1 0 0;path q c d 1 0 0;path r c d 1 0 8;walker w a 0 9;year 9;");
        due("hangs elsewhere", x.round(0, 2, 0), -2);
        due("hangs elsewhere", x.round(0, 3, 1), -2);
        x.carry(0, 2);
        due("at hand", x.round(0, 4, 0), 1);
        x.go(1);
        due("GRASS", x.round(0, 4, 0), -2);
        due("GRASS", x.round(0, 4, 1), -2);

        says(17, "NONE: no such ones, a PATH that isn't there");
        for (int w : new int[] {-1, 1, 4, LEAST, MOST}) {
            due("round(" + w + ", 0, 0)", x.round(w, 0, 0), -1);
        }
        for (int what : new int[] {-1, 2, LEAST, MOST}) {
            due("round(0, 0, " + what + ")", x.round(0, 0, what), -1);
        }
        for (int paths : new int[] {8, 9, 512, -1, LEAST, LEAST | 1, MOST}) {
            due("round(0, " + paths + ", 0)", x.round(0, paths, 0), -1);
            due("round(0, " + paths + ", 1)", x.round(0, paths, 1), -1);
        }
        due("all that are there", told(FULL).round(0, 511, 1), 9);
        due("a tenth", told(FULL).round(0, 512, 0), -1);
        due("a tenth among others", told(FULL).round(0, 1023, 0), -1);
        due("no PATHS of none", told("place a;walker w a 0 1;").round(0, 0, 0), 0);
        due("one of none", told("place a;walker w a 0 1;").round(0, 1, 0), -1);
    }

    private static void daysOfRounds() {
        says(17, "if no more LENGTH than PACE is gone in each (in this one, too), no PATH by halves (0 of no PATHS)");
        String row = TWO + "place c;path p a b 5 0 0;path q b c 4 0 0;walker w a 0 ";
        due("no PATHS", told(row + "9;").round(0, 0, 1), 0);
        due("9 of 9", told(row + "9;").round(0, 3, 1), 1);
        due("9 of 8: no PATH by halves", told(row + "8;").round(0, 3, 1), 2);
        due("5 of 5", told(row + "5;").round(0, 3, 1), 2);
        due("5 of 4", told(row + "4;").round(0, 3, 1), -2);
        due("5 of 4: none by days, but one by LENGTH", told(row + "4;").round(0, 3, 0), 9);
        due("5 of 4", told(row + "4;").round(0, 2, 1), -2);
        PathsKept x = told(row + "9;");
        x.walk(0, 0);
        x.carry(0, 0);
        due("4 are left", x.walker(0, 3), 4);
        due("PACE in this one, too", x.round(0, 3, 1), 1);
        due("99 days' walk", told(TWO + "path p a b 99 0 0;walker w a 0 99;").round(0, 1, 1), 1);

        says(17, "such a walk (not only the shortest)");
        x = told("place a;place b;place c;place d;place e;place f;path p a b 6 0 0;path q b c 6 0 0;path r c d 6 0 0;"
            + "path s a e 10 0 0;path t e d 9 0 0;path u d f 1 0 0;walker w a 0 10;");
        due("the shortest: 6, 6, 6 and 1", x.round(0, 32, 0), 19);
        due("in fewer days: 10, 9 and 1", x.round(0, 32, 1), 2);
        x = told(TWO + "place c;path p a b 3 0 0;path q a b 9 0 0;path r b c 1 0 0;walker w a 0 8;");
        due("q is above PACE, but needn't be gone", x.round(0, 5, 1), 1);
        due("q is wanted", x.round(0, 7, 1), -2);
    }

    private static void neededCall() {
        says(18, "how many pairs of PLACES hang together by PATHS that are KEPT, but wouldn't without that one");
        String row = "place a;place b;place c;place d;place e;place f;place g;path p a b 1 0 0;path q b c 1 0 0;path r c d 1 0 0;"
            + "path s d e 1 0 0;path t e f 1 0 0;path u f g 1 0 0;";
        int[] want = {6, 10, 12, 12, 10, 6};
        for (int p = 0; p < 6; p++) {
            due("in a row, path " + p, told(row).needed(p), want[p]);
            due("in a ring, path " + p, told(row + "path v g a 1 0 0;").needed(p), 0);
        }
        due("twofold", told(TWO + "path p a b 1 0 0;path q b a 1 0 0;").needed(1), 0);
        PathsKept x = told(TWO + "path p a b 1 0 0;path q b a 1 0 9;year 10;");
        x.go(1);
        due("its twin is GRASS", x.needed(0), 1);

        says(18, "NONE: no such PATH, GRASS");
        due("GRASS", x.needed(1), -1);
        for (int p : new int[] {-1, 2, 9, LEAST, MOST}) {
            due("needed(" + p + ")", x.needed(p), -1);
        }
        x.mow(1);
        due("mown", x.needed(1), 0);
    }

    private static void blindCall() {
        says(19, "BLIND: PATHS (bits) that are KEPT with an end that no other one that is KEPT has");
        due("none are there", told("place a;place b;").blind(), 0);
        due("one, both ends", told(TWO + "path p a b 1 0 0;").blind(), 1);
        due("twofold", told(TWO + "path p a b 1 0 0;path q b a 1 0 0;").blind(), 0);
        due("a row", told(TWO + "place c;place d;path p a b 1 0 0;path q b c 1 0 0;path r c d 1 0 0;").blind(), 5);
        due("a ring", told(TWO + "place c;path p a b 1 0 0;path q b c 1 0 0;path r c a 1 0 0;").blind(), 0);
        due("nine", told(FULL).blind(), 0);
        PathsKept x = told(TWO + "place c;path p a b 1 0 0;path q b c 1 0 0;path r c a 1 0 9;year 10;");
        x.go(1);
        due("r is GRASS", x.blind(), 3);
        x.go(400);
        due("all is GRASS", x.blind(), 0);
        x.mow(2);
        due("r is mown", x.blind(), 4);
    }

    private static void watchCall() {
        says(20, "the fewest PLACES (bits, of several the least) of which each PATH that is KEPT has one for an end at least");
        due("none are there", told("place a;").watch(), 0);
        due("one", told(TWO + "path p b a 1 0 0;").watch(), 1);
        due("one among others", told(TWO + "place c;path p c b 1 0 0;").watch(), 2);
        due("fewest ahead of least", told(TWO + "place c;place d;path p a d 1 0 0;path q b d 1 0 0;path r c d 1 0 0;").watch(), 8);
        due("a row of four", told(TWO + "place c;place d;path p a b 1 0 0;path q b c 1 0 0;path r c d 1 0 0;").watch(), 5 | 1);
        due("a row of three", told(TWO + "place c;path p a b 1 0 0;path q b c 1 0 0;").watch(), 2);
        due("a ring of three", told(TWO + "place c;path p a b 1 0 0;path q b c 1 0 0;path r c a 1 0 0;").watch(), 3);
        due("a ring of seven", told(named("place ", 7, ";") + "path p a b 1 0 0;path q b c 1 0 0;path r c d 1 0 0;path s d e 1 0 0;"
            + "path t e f 1 0 0;path u f g 1 0 0;path v g a 1 0 0;").watch(), 0b0101011);
        PathsKept x = told(TWO + "place c;path p a b 1 0 0;path q b c 1 0 0;path r c a 1 0 9;year 10;");
        x.go(1);
        due("r is GRASS", x.watch(), 2);
        x.go(400);
        due("all is GRASS", x.watch(), 0);
    }

    private static void matchCall() {
        says(21, "the PATH of that WALKER (-2: none, there are not so many), 4: AGES in sum");
        PathsKept x = told(TWO + "place c;path p a b 1 5 9;path q a b 1 0 8;walker v a 9 1;walker w b 0 1;walker u c 9 1;");
        int[] want = {0, 1, -2, -2, 17};
        for (int what = 0; what <= 4; what++) {
            due("match(" + what + ")", x.match(what), want[what]);
        }
        x = told(TWO + "path p a b 1 0 399;path q a b 1 0 399;path r a b 1 0 399;path s a b 1 0 399;"
            + "walker v a 0 1;walker w b 0 1;walker u a 0 1;walker t b 0 1;");
        due("four", x.match(4), 4 * 399);
        due("four", x.match(0) * 1000 + x.match(1) * 100 + x.match(2) * 10 + x.match(3), 123);
        due("without walkers", told(TWO + "path p a b 1 0 5;").match(4), 0);
        due("without walkers", told(TWO + "path p a b 1 0 5;").match(0), -2);

        says(21, "OPEN for him and at one end of which he is, or none, none for two");
        x = told(TWO + "place c;path p a b 1 3 7;path q b c 1 0 9;walker v a 3 1;walker w a 2 1;walker u a 4 1;bull p 0 0;law may 0;law cost 99;");
        due("STILE as LEGS; bulls and laws aren't asked", x.match(0), 0);
        due("STILE above LEGS", x.match(1), -2);
        due("none for two", x.match(2), -2);
        due("in sum", x.match(4), 7);
        x = told(TWO + "path p a b 1 0 9;walker v a 0 1;year 10;");
        x.go(1);
        due("GRASS", x.match(0), -2);
        due("GRASS", x.match(4), 0);

        says(21, "by which AGES in sum are most, of several the first by WALKERS (none is last)");
        x = told(TWO + "path p a b 1 0 0;walker v a 0 1;");
        due("AGE 0 ahead of none", x.match(0), 0);
        x = told(TWO + "path p a b 1 0 0;path q a b 1 0 0;walker v a 0 1;walker w a 0 1;");
        due("the first one first", x.match(0) * 10 + x.match(1), 1);
        x = told(TWO + "path p a b 1 0 5;walker v a 0 1;walker w a 0 1;");
        due("none is last", x.match(0), 0);
        due("none is last", x.match(1), -2);
        x = told(TWO + "path p a b 1 0 4;path q a b 1 9 5;walker v a 9 1;walker w a 0 1;");
        due("not the oldest for himself: 5 and 4", x.match(0) * 10 + x.match(1), 10);
        x = told(TWO + "path p a b 1 0 5;path q a b 1 9 4;walker v a 9 1;walker w a 0 1;");
        due("v leaves p to w: 4 and 5", x.match(0) * 10 + x.match(1), 10);
        x.carry(1, 1);
        due("from the other end", x.match(0) * 10 + x.match(1), 10);
        x = told(TWO + "place c;path p a c 1 0 1;path q a c 1 0 5;path r b c 1 0 9;walker u a 0 1;walker v b 0 1;walker w b 0 1;");
        due("5 and 9", x.match(0) * 10 + x.match(1), 12);
        due("r is v's", x.match(2), -2);
        due("in sum", x.match(4), 14);
        x.carry(0, 1);
        due("all at b: r", x.match(0), 2);
        due("all at b: none", x.match(1), -2);
        due("all at b: 9", x.match(4), 9);

        says(21, "NONE for another what");
        for (int what : new int[] {-1, 5, LEAST, MOST}) {
            due("match(" + what + ")", x.match(what), -1);
        }
    }

    private static void gameCall() {
        says(22, "the PARISH wins, if PATHS it took lead from one PLACE to the other one in the end");
        PathsKept x = told(TWO + "place c;path p a b 1 9 0;");
        due("one PATH, the SQUIRE begins", x.game(0, 1, 0, 0), 0);
        due("he shuts it", x.game(0, 1, 0, 1), 0);
        due("one PATH, the PARISH begins", x.game(0, 1, 1, 0), 1);
        due("it takes it", x.game(0, 1, 1, 1), 0);
        due("the other way round", x.game(1, 0, 1, 0), 1);
        x = told(TWO + "place c;path p a b 1 0 0;path q b c 1 0 0;path r a c 1 0 0;path s a c 1 0 0;");
        due("twofold", x.game(0, 2, 0, 0), 1);
        due("the SQUIRE can't win", x.game(0, 2, 0, 1), -2);
        due("any will do for the PARISH", x.game(0, 2, 1, 1), 0);
        due("to b: p or q and others", x.game(0, 1, 0, 0), 1);
        due("fullest", told(FULL).game(0, 1, 0, 0), 1);
        due("fullest", told(FULL).game(0, 1, 1, 1), 0);
        due("fullest, to a place apart", told(FULL).game(0, 6, 1, 0), 0);
        due("fullest, to a place apart", told(FULL).game(0, 6, 0, 1), 0);

        says(22, "the SQUIRE shuts a PATH that is KEPT and that nobody took, the PARISH takes one, till all are taken or shut");
        Random random = new Random(22);
        for (int turn = 0; turn < 60; turn++) {
            playAll(random, 2 + random.nextInt(6), turn < 40 ? 9 : random.nextInt(10));
        }

        says(22, "the first PATH by which he wins (-2: he can't win, there is none)");
        x = told(TWO + "place c;path p a b 1 0 0;path q a b 1 0 0;path r b c 1 0 0;");
        due("only r", x.game(0, 2, 1, 1), 2);
        due("p, and then q or r", x.game(0, 2, 0, 1), 0);
        x = told(TWO + "place c;path p a c 1 0 0;path q a b 1 0 0;");
        due("p is of no use", x.game(0, 1, 0, 1), 1);
        due("p is of no use", x.game(0, 1, 1, 1), 1);
        due("none are there: the SQUIRE wins", told(TWO).game(0, 1, 0, 0), 0);
        due("none are there: the SQUIRE wins", told(TWO).game(0, 1, 1, 0), 0);
        due("none are there", told(TWO).game(0, 1, 0, 1), -2);
        due("none are there", told(TWO).game(0, 1, 1, 1), -2);
        x = told(TWO + "path p a b 1 0 9;path q a b 1 0 0;year 10;");
        due("two", x.game(0, 1, 0, 0), 1);
        x.go(1);
        due("p is GRASS", x.game(0, 1, 0, 0), 0);
        due("p is GRASS", x.game(0, 1, 0, 1), 1);
        x.go(400);
        due("all is GRASS", x.game(0, 1, 0, 1), -2);

        says(22, "NONE: no such ones, PLACES alike");
        for (int one : new int[] {-1, 2, 7, LEAST, MOST}) {
            due("game(" + one + ", 0, 0, 0)", x.game(one, 0, 0, 0), -1);
            due("game(0, " + one + ", 0, 0)", x.game(0, one, 0, 0), -1);
            due("game(" + one + ", " + one + ", 0, 0)", x.game(one, one, 0, 0), -1);
        }
        for (int no : new int[] {-1, 2, LEAST, MOST}) {
            due("game(0, 1, " + no + ", 0)", x.game(0, 1, no, 0), -1);
            due("game(0, 1, 0, " + no + ")", x.game(0, 1, 0, no), -1);
        }
        due("alike", x.game(0, 0, 0, 0), -1);
        due("alike", x.game(1, 1, 1, 1), -1);
    }

    /** All games of one text, played to their very end. */
    private static void playAll(Random random, int places, int paths) {
        int[] ends = new int[paths];
        StringBuilder text = new StringBuilder(named("place ", places, ";"));
        for (int p = 0; p < paths; p++) {
            int one = random.nextInt(places);
            int other = (one + 1 + random.nextInt(places - 1)) % places;
            ends[p] = 1 << one | 1 << other;
            text.append("path ").append((char) ('a' + p)).append(' ').append((char) ('a' + one)).append(' ').append((char) ('a' + other))
                .append(" 1 0 0;");
        }
        PathsKept x = told(text.toString());
        for (int one = 0; one < places; one++) {
            for (int other = 0; other < places; other++) {
                for (int first = 0; first <= 1 && one != other; first++) {
                    Map<Integer, Integer> winners = new HashMap<>();
                    String call = "game(" + one + ", " + other + ", " + first + ") of " + text;
                    due(call, x.game(one, other, first, 0), winner(ends, 1 << one | 1 << other, 0, 0, first, winners));
                    int move = -2;
                    for (int p = paths - 1; p >= 0; p--) {
                        int taken = first == 1 ? 1 << p : 0;
                        if (winner(ends, 1 << one | 1 << other, taken, 1 << p ^ taken, 1 - first, winners) == first) {
                            move = p;
                        }
                    }
                    due(call + ", first", x.game(one, other, first, 1), move);
                }
            }
        }
    }

    private static int winner(int[] ends, int both, int taken, int shut, int turn, Map<Integer, Integer> winners) {
        int free = (1 << ends.length) - 1 & ~taken & ~shut;
        if (free == 0) {
            int reached = both & -both;
            for (int again = 0; again < ends.length; again++) {
                for (int p = 0; p < ends.length; p++) {
                    if ((taken >> p & 1) != 0 && (reached & ends[p]) != 0) {
                        reached |= ends[p];
                    }
                }
            }
            return (reached & both) == both ? 1 : 0;
        }
        Integer known = winners.get(taken << 9 | shut);
        if (known != null) {
            return known;
        }
        int winner = 1 - turn;
        for (int p = 0; p < ends.length && winner != turn; p++) {
            if ((free >> p & 1) != 0) {
                winner = turn == 1 ? winner(ends, both, taken | 1 << p, shut, 0, winners) : winner(ends, both, taken, shut | 1 << p, 1, winners);
            }
        }
        winners.put(taken << 9 | shut, winner);
        return winner;
    }

    // ---------------------------------------------------------------- promises 23 to 26: by LEGS and by odds

    private static int share(int legs, int own, int others) {
        int[][] table = {{legs, legs - 2}, {legs + 3, 0}};
        return table[own][others];
    }

    private static List<Integer> restsOf(int one, int other) {
        List<Integer> rests = new ArrayList<>();
        for (int a = 0; a <= 1; a++) {
            for (int b = 0; b <= 1; b++) {
                if (share(one, 1 - a, b) <= share(one, a, b) && share(other, 1 - b, a) <= share(other, b, a)) {
                    rests.add(10 * a + b);
                }
            }
        }
        return rests;
    }

    private static void restsAndRest() {
        says(23, "A REST: neither would have more otherwise");
        for (int one = 0; one <= 9; one++) {
            for (int other = 0; other <= 9; other++) {
                PathsKept x = told("place a;walker v a " + one + " 1;walker w a " + other + " 1;");
                List<Integer> rests = restsOf(one, other);
                due("rests of LEGS " + one + " and " + other, x.rests(0, 1), rests.size());
                for (int k = 0; k <= rests.size(); k++) {
                    due("rest " + k + " of LEGS " + one + " and " + other, x.rest(0, 1, k), k < rests.size() ? rests.get(k) : -2);
                }
                due("the other way round", x.rests(1, 0), rests.size());
            }
        }
        // LEGS 2: alone he has 0, as if both leave
        PathsKept x = told("place a;walker v a 2 1;walker w a 2 1;walker u a 1 1;walker t a 3 1;");
        due("2 and 2", x.rests(0, 1), 3);
        due("2 and 1", x.rests(0, 2), 2);
        due("3 and 1", x.rests(3, 2), 1);

        says(23, "NONE: no such WALKERS, alike");
        due("alike", x.rests(0, 0), -1);
        due("alike", x.rests(3, 3), -1);
        for (int w : new int[] {-1, 4, LEAST, MOST}) {
            due("rests(" + w + ", 0)", x.rests(w, 0), -1);
            due("rests(0, " + w + ")", x.rests(0, w), -1);
            due("rests(" + w + ", " + w + ")", x.rests(w, w), -1);
            due("rest(" + w + ", 0, 0)", x.rest(w, 0, 0), -1);
            due("rest(0, " + w + ", 0)", x.rest(0, w, 0), -1);
        }

        says(24, "-2: there are no so many; NONE likewise, k is below 0");
        due("the first", x.rest(0, 1, 0), 1);
        due("the second", x.rest(0, 1, 1), 10);
        due("the third", x.rest(0, 1, 2), 11);
        due("a fourth", x.rest(0, 1, 3), -2);
        due("rest(0, 1, MAX)", x.rest(0, 1, MOST), -2);
        due("rest(0, 1, -1)", x.rest(0, 1, -1), -1);
        due("rest(0, 1, MIN)", x.rest(0, 1, LEAST), -1);
        due("alike", x.rest(1, 1, 0), -1);
        due("alike, far", x.rest(1, 1, MOST), -1);
    }

    private static void triesCall() {
        says(25, "the fewest DAYS, 1 .. 8, of which by snow told at least one has none with p of a hundred at least");
        for (int snow : new int[] {0, 1, 9, 10, 20, 37, 49, 50, 56, 57, 70, 90, 99, 100}) {
            PathsKept x = told("snow " + snow + ";");
            for (int p = 0; p <= 100; p++) {
                int want = -2;
                for (int days = 8; days >= 1; days--) {
                    java.math.BigInteger all = java.math.BigInteger.valueOf(100).pow(days);
                    java.math.BigInteger none = all.subtract(java.math.BigInteger.valueOf(snow).pow(days));
                    if (none.multiply(java.math.BigInteger.valueOf(100)).compareTo(all.multiply(java.math.BigInteger.valueOf(p))) >= 0) {
                        want = days;
                    }
                }
                due("tries(" + p + ") by snow " + snow, x.tries(p), want);
            }
        }
        PathsKept x = told("snow 10;");
        due("90 exactly", x.tries(90), 1);
        due("91", x.tries(91), 2);
        due("99 exactly", x.tries(99), 2);
        says(25, "-2: not by 8");
        due("100 by snow 10", x.tries(100), -2);
        due("100 by snow 1", told("snow 1;").tries(100), -2);
        due("1 by snow 100", told("snow 100;").tries(1), -2);
        due("0 by snow 100", told("snow 100;").tries(0), 1);
        due("100 by snow 0", told("snow 0;").tries(100), 1);
        due("99 by snow 56: 8 days", told("snow 56;").tries(99), 8);
        due("99 by snow 57", told("snow 57;").tries(99), -2);
        says(25, "NONE: no such p");
        for (int p : new int[] {-1, 101, LEAST, MOST}) {
            due("tries(" + p + ")", x.tries(p), -1);
        }
    }

    private static void clearCall() {
        says(26, "CLEAR (n 0 .. 6) in least terms, what 0: the number above, 1: the one below");
        for (int snow = 0; snow <= 100; snow++) {
            PathsKept x = told("snow " + snow + ";");
            for (int n = 0; n <= 6; n++) {
                java.math.BigInteger above = java.math.BigInteger.valueOf(100 - snow).pow(n);
                java.math.BigInteger below = java.math.BigInteger.valueOf(100).pow(n);
                java.math.BigInteger common = above.gcd(below);
                due("above " + n + " by snow " + snow, x.clear(n, 0), above.divide(common).longValueExact());
                due("below " + n + " by snow " + snow, x.clear(n, 1), below.divide(common).longValueExact());
            }
        }
        due("never", told("snow 100;").clear(6, 0) * 10 + told("snow 100;").clear(6, 1), 1);
        due("none of none", told("snow 100;").clear(0, 0) * 10 + told("snow 100;").clear(0, 1), 11);
        says(26, "NONE: no such ones");
        PathsKept x = told("snow 1;");
        for (int n : new int[] {-1, 7, LEAST, MOST}) {
            due("clear(" + n + ", 0)", x.clear(n, 0), -1);
            due("clear(" + n + ", 1)", x.clear(n, 1), -1);
        }
        for (int what : new int[] {-1, 2, LEAST, MOST}) {
            due("clear(0, " + what + ")", x.clear(0, what), -1);
            due("clear(6, " + what + ")", x.clear(6, what), -1);
        }
    }

    // ---------------------------------------------------------------- promises 27 to 31: what was seen

    private static void seeAndStrike() {
        says(27, "SEEN, at most 24, numbered from 0 on: behind so many DAYS 1 .. 60");
        PathsKept x = told(VALLEY);
        due("1 day", x.see(1, 0, 0, true), 0);
        due("60 days", x.see(60, 1, 3, true), 1);
        due("the same again", x.see(60, 1, 3, true), 2);

        says(27, "NONE: no such ones, or there are 24");
        for (int days : new int[] {0, 61, -1, LEAST, MOST}) {
            due("see(" + days + ", 0, 0, true)", x.see(days, 0, 0, true), -1);
        }
        for (int w : new int[] {-1, 2, 4, LEAST, MOST}) {
            due("see(1, " + w + ", 0, true)", x.see(1, w, 0, true), -1);
        }
        for (int place : new int[] {-1, 4, 7, LEAST, MOST}) {
            due("see(1, 0, " + place + ", false)", x.see(1, 0, place, false), -1);
        }
        due("none of these came", x.count(10), 3);
        for (int i = 3; i < 23; i++) {
            due("see " + i, x.see(1, 0, 0, true), i);
        }
        due("by 23", x.legs(0), 1);
        due("a strike is one, too", x.strike(22), 23);
        due("by 24", x.legs(0), 1);
        due("by 24", x.known(24), true);
        due("by 24", x.sit(0, 60, 1), 1);
        due("by 25", x.known(25), false);
        due("24", x.count(10), 24);
        due("a 25th", x.see(1, 0, 0, true), -1);
        due("a 25th, wrong beside", x.see(0, 9, 9, true), -1);
        says(28, "NONE: no such one SEEN, or there are 24");
        due("a 25th", x.strike(0), -1);
        due("a 25th", x.strike(23), -1);
        due("24", x.count(10), 24);
        tell(x, VALLEY);
        due("nothing SEEN", x.strike(0), -1);
        due("the first again", x.see(1, 0, 0, true), 0);
        due("itself", x.strike(1), -1);
        for (int seen : new int[] {-1, 2, 24, LEAST, MOST}) {
            due("strike(" + seen + ")", x.strike(seen), -1);
        }
        due("of the first", x.strike(0), 1);
        due("of it again", x.strike(0), 2);
        due("of a strike", x.strike(1), 3);
        due("four", x.count(10), 4);
    }

    private static void knownCall() {
        says(29, "KNOWN by n from now on (-1: by all, also those to come): true; false: no such n");
        PathsKept x = told(PAIR + "walk w p 0;");
        due("none of none", x.known(0), true);
        due("none", x.count(11), 0);
        due("one of none", x.known(1), false);
        x.see(1, 0, 0, true);
        due("by none still", x.count(11), 0);
        due("by none still", x.legs(0), 1023);
        due("by 1", x.known(1), true);
        due("by 1", x.legs(0), 7);
        x.see(1, 0, 1, true);
        due("by 1 still", x.count(11), 1);
        due("by 1 still", x.legs(0), 7);
        due("by 3", x.known(3), false);
        due("by 1 still", x.count(11), 1);
        for (int n : new int[] {-2, 24, LEAST, MOST}) {
            due("known(" + n + ")", x.known(n), false);
        }
        due("by 1 still", x.legs(0), 7);
        due("by 2", x.known(2), true);
        due("both can't be", x.legs(0), 0);
        due("by all", x.known(-1), true);
        due("by all", x.count(11), 2);
        x.strike(0);
        due("also those to come", x.count(11), 3);
        due("also those to come", x.legs(0), 1016);
        due("back to none", x.known(0), true);
        due("back to none", x.legs(0), 1023);

        says(29, "the first n that aren't STRUCK by one of these (a STRIKE may be STRUCK: then it doesn't count; asked from the last one on)");
        x = told(PAIR + "walk w p 0;");
        x.see(1, 0, 0, true);
        for (int i = 0; i < 8; i++) {
            due("strike", x.strike(i), i + 1);
        }
        due("nothing is STRUCK by 1", x.known(1), true);
        for (int n = 1; n <= 9; n++) {
            x.known(n);
            // the last of n strikes counts always, so each other one ahead of it
            due("by " + n, x.legs(0), n % 2 == 1 ? 7 : 1023);
        }
        x = told(PAIR + "walk w p 0;");
        x.see(1, 0, 0, true);
        x.strike(0);
        x.strike(0);
        x.strike(1);
        due("STRUCK twice, once in vain", x.legs(0), 1023);
        x.strike(2);
        due("STRUCK twice, both in vain", x.legs(0), 7);
        x.known(4);
        due("a strike behind the first n doesn't count", x.legs(0), 1023);
    }

    private static void legsCall() {
        says(30, "LEGS of a WALKER: 0 .. 9 (bits) in place of his own, by which all KNOWN ones are so");
        for (int stile = 0; stile <= 9; stile++) {
            String text = TWO + "path p a b 5 " + stile + " 0;walker w a 3 5;walker v b 3 5;walk w p 0;";
            PathsKept x = told(text);
            due("nothing SEEN", x.legs(0), 1023);
            x.see(1, 0, 1, true);
            due("was at b, STILE " + stile, x.legs(0), 1023 >> stile << stile);
            due("of v: w's own LEGS are 3", x.legs(1), stile <= 3 ? 1023 : 0);
            x = told(text);
            x.see(1, 0, 1, false);
            due("wasn't at b, STILE " + stile, x.legs(0), 1023 & ~(1023 >> stile << stile));
            x.see(1, 0, 0, false);
            due("was nowhere", x.legs(0), 0);
        }
        due("the name legs is in place, too", seenAtB(PAIR + "walk w p 0;law may legs=7;").legs(0), 128);
        due("of cost, too", seenAtB(PAIR + "walk w p 0;law may 1;law cost legs;").legs(0), 63);

        says(30, "behind so many DAYS 1 .. 60 (as it goes from the TEXT on, nothing done by call) a WALKER was at a PLACE, or wasn't");
        String text = PAIR + "walk w p 59;walk w p 60;walk w p 0;snow 49;";
        PathsKept x = told(text.replace("walk w p 0;", ""));
        x.see(60, 0, 1, true);
        due("on DAY 59, behind 60", x.legs(0), 1016);
        x.see(59, 0, 0, true);
        due("behind 59 not yet", x.legs(0), 1016);
        x = told(text);
        x.see(1, 0, 1, true);
        due("on DAY 0, behind 1", x.legs(0), 1016);
        x.carry(0, 1);
        x.walk(0, 0);
        x.mow(0);
        due("nothing done by call", x.legs(0), 1016);
        x.go(400);
        due("from the TEXT on", x.legs(0), 1016);
        due("snow 50 as it goes", seenAtB(PAIR + "walk w p 0;snow 50;").legs(0), 0);
        due("snow 49 as it goes", seenAtB(PAIR + "walk w p 0;snow 49;seed 1;").legs(0), 1016);

        says(30, "NONE: no such WALKER");
        for (int w : new int[] {-1, 1, 4, LEAST, MOST}) {
            due("legs(" + w + ")", x.legs(w), -1);
        }
    }

    private static PathsKept seenAtB(String text) {
        PathsKept x = told(text);
        x.see(1, 0, 1, true);
        return x;
    }

    private static void sitCall() {
        says(31, "as few of these LEGS as may be are left at worst, the first of several");
        for (int stile = 0; stile <= 9; stile++) {
            PathsKept x = told(TWO + "path p a b 5 " + stile + " 0;walker w a 3 5;walk w p 0;");
            due("the first, STILE " + stile, x.sit(0, 1, 0), 0);
            due("at worst, STILE " + stile, x.sit(0, 1, 1), Math.max(stile, 10 - stile));
        }
        String three = TWO + "place c;path p b c 5 4 0;path q b a 5 6 0;walker w b 3 10;walk w p 0;walk w p 1;walk w q 2;";
        PathsKept x = told(three);
        due("behind 1: b 4, c 6", x.sit(0, 1, 0) * 100 + x.sit(0, 1, 1), 106);
        due("behind 2: b 10", x.sit(0, 2, 0) * 100 + x.sit(0, 2, 1), 10);
        due("behind 3: a 4, b 6", x.sit(0, 3, 0) * 100 + x.sit(0, 3, 1), 6);
        due("behind 60 as behind 3", x.sit(0, 60, 0) * 100 + x.sit(0, 60, 1), 6);
        x.see(1, 0, 2, true);
        due("of those KNOWN: behind 1 c 6", x.sit(0, 1, 0) * 100 + x.sit(0, 1, 1), 6);
        due("of those KNOWN: behind 3 a 4, b 2", x.sit(0, 3, 0) * 100 + x.sit(0, 3, 1), 4);
        x.known(0);
        due("of none KNOWN", x.sit(0, 3, 1), 6);
        x.known(-1);
        x.see(1, 0, 2, false);
        due("of no LEGS", x.sit(0, 1, 0) * 100 + x.sit(0, 1, 1), 0);
        x.go(7);
        x.carry(0, 2);
        due("nothing done by call", x.sit(0, 1, 1), 0);
        // a known one behind more days than are asked
        x = told(three);
        x.see(3, 0, 0, true);
        due("KNOWN behind 3, asked behind 1: c 4", x.sit(0, 1, 0) * 100 + x.sit(0, 1, 1), 4);

        says(31, "SIT (n 1 .. 60), what 0: the PLACE, 1: how many are left at worst. NONE: no such ones");
        for (int n : new int[] {0, 61, -1, LEAST, MOST}) {
            due("sit(0, " + n + ", 0)", x.sit(0, n, 0), -1);
            due("sit(0, " + n + ", 1)", x.sit(0, n, 1), -1);
        }
        for (int w : new int[] {-1, 1, 4, LEAST, MOST}) {
            due("sit(" + w + ", 1, 0)", x.sit(w, 1, 0), -1);
        }
        for (int what : new int[] {-1, 2, LEAST, MOST}) {
            due("sit(0, 1, " + what + ")", x.sit(0, 1, what), -1);
        }
        due("1", x.sit(0, 1, 1), 4);
        due("60", x.sit(0, 60, 1), 4);
        x = told(PAIR + "walk w p 59;");
        due("a walk on DAY 59, behind 59", x.sit(0, 59, 1), 10);
        due("a walk on DAY 59, behind 60", x.sit(0, 60, 1), 7);
    }

    // ---------------------------------------------------------------- promises 32 and 33: drawn, tried otherwise

    private static void chanceCall() {
        says(32, "In how many of ten times drawn (numbers from a seed 0 .. 2147483647 on, one behind another; n 1 .. 99 DAYS from now)");
        PathsKept x = told(TWO + "path p a b 1 0 5;walker w a 0 9;walk w p 0;snow 30;seed 1;");
        for (int seed : new int[] {0, 1, 2, 99999, 100000, 1 << 30, MOST - 1, MOST}) {
            for (int n : new int[] {1, 2, 3, 50, 98, 99}) {
                int[] drawn = numbers(seed, 10 * n);
                int times = 0;
                for (int time = 0; time < 10; time++) {
                    times += drawn[time * n] >= 30 ? 1 : 0;
                }
                due("chance(" + seed + ", " + n + ", 0, " + n + ")", x.chance(seed, n, 0, n), times);
            }
        }
        x.go(1);
        due("from now on: the walk is past", x.chance(1, 1, 0, 1), 0);
        x = told(snowy(100, 0));
        due("always snow: AGE 12", x.chance(5, 12, 0, 11), 0);
        due("always snow: AGE 12", x.chance(5, 12, 0, 12), 10);
        x = told(snowy(0, 0));
        due("never snow: AGE 1", x.chance(5, 12, 0, 0), 0);
        due("never snow: AGE 1", x.chance(5, 12, 0, 1), 10);

        says(32, "a PATH is of so much AGE 0 .. 999 at most then");
        x = told(TWO + "path p a b 1 0 399;path q a b 1 0 0;year 400;law term 9999;");
        due("AGE 400", x.chance(1, 1, 0, 399), 0);
        due("AGE 400", x.chance(1, 1, 0, 400), 10);
        due("AGE 400", x.chance(1, 1, 0, 999), 10);
        due("AGE 0", x.chance(1, 1, 1, 0), 0);
        due("AGE 99", x.chance(1, 99, 1, 98), 0);
        due("AGE 99", x.chance(1, 99, 1, 99), 10);
        x.go(400);
        x.go(199);
        due("AGE 999", x.chance(1, 1, 0, 998), 0);
        due("AGE 999", x.chance(1, 1, 0, 999), 10);
        due("AGE 1000", x.chance(1, 2, 0, 999), 0);
        x = told(TWO + "path p a b 1 0 9;year 10;");
        due("AGE of GRASS stays", x.chance(1, 99, 0, 10), 10);
        due("AGE of GRASS stays", x.chance(1, 99, 0, 9), 0);

        says(32, "NONE: no such ones");
        for (int seed : new int[] {-1, LEAST}) {
            due("chance(" + seed + ", 1, 0, 1)", x.chance(seed, 1, 0, 1), -1);
        }
        for (int n : new int[] {0, 100, -1, LEAST, MOST}) {
            due("chance(1, " + n + ", 0, 1)", x.chance(1, n, 0, 1), -1);
        }
        for (int p : new int[] {-1, 1, 9, LEAST, MOST}) {
            due("chance(1, 1, " + p + ", 1)", x.chance(1, 1, p, 1), -1);
        }
        for (int age : new int[] {-1, 1000, LEAST, MOST}) {
            due("chance(1, 1, 0, " + age + ")", x.chance(1, 1, 0, age), -1);
        }
        due("nothing went by", x.count(5), 0);
    }

    private static void triedCall() {
        says(33, "0 no snow, 1 no bulls, 2 WALKER i goes nowhere, 3 all have LEGS 9, 4 year is 400 (E of term isn't asked)");
        String base = TWO + "path p a b 4 9 8;walker v a 9 9;walker w a 8 9;year 10;";
        String snow = base + "walk v p 0;snow 50;";
        String bull = base + "walk v p 0;bull p 0 0;";
        String one = base + "walk v p 0;walk w p 0;";
        String legs = base + "walk w p 0;";
        String term = base + "law term 9;";
        String[] texts = {snow, bull, one, legs, term, base};
        // by what, WALKER 0 and WALKER 1 of what 2 apart
        int[][] want = {{1, 0, 0, 0, 0, 1}, {0, 1, 0, 0, 0, 1}, {1, 1, 0, 1, 1, 1}, {0, 0, 0, 0, 1, 1}, {0, 0, 0, 0, 0, 1}, {0, 0, 0, 0, 0, 1}};
        for (int t = 0; t < texts.length; t++) {
            PathsKept x = told(texts[t]);
            due("what 0 of " + texts[t], x.tried(0, 0, 2), want[t][0]);
            due("what 1 of " + texts[t], x.tried(1, 0, 2), want[t][1]);
            due("what 2, v, of " + texts[t], x.tried(2, 0, 2), want[t][2]);
            due("what 2, w, of " + texts[t], x.tried(2, 1, 2), want[t][3]);
            due("what 3 of " + texts[t], x.tried(3, 0, 2), want[t][4]);
            due("what 4 of " + texts[t], x.tried(4, 0, 2), want[t][5]);
            due("as it goes", x.ahead(2, 0, 0), t == 2 ? 1 : 0);
        }
        due("LEGS 9 in E of may", told(base + "walk w p 0;law may legs=9;").tried(3, 0, 2), 1);
        due("LEGS 9 in E of may", told(base + "walk w p 0;law may legs=8;").tried(3, 0, 2), 0);
        PathsKept x = told(base + "law term 9;");
        due("400: by 391 days", x.tried(4, 0, 391), 1);
        due("400: by 392 days", x.tried(4, 0, 392), 0);

        says(33, "TRIED (n 0 .. 400); NONE: no such ones (i 0 of all but 2)");
        x = told(one);
        for (int what = 0; what <= 4; what++) {
            due("n 0", x.tried(what, 0, 0), 1);
            due("n 400", x.tried(what, 0, 400), 0);
            for (int n : new int[] {-1, 401, LEAST, MOST}) {
                due("tried(" + what + ", 0, " + n + ")", x.tried(what, 0, n), -1);
            }
            for (int i : new int[] {-1, 2, LEAST, MOST}) {
                due("tried(" + what + ", " + i + ", 1)", x.tried(what, i, 1), -1);
            }
            due("tried(" + what + ", 1, 1)", x.tried(what, 1, 1), what == 2 ? 1 : -1);
        }
        for (int what : new int[] {-1, 5, LEAST, MOST}) {
            due("tried(" + what + ", 0, 1)", x.tried(what, 0, 1), -1);
        }
        due("nothing went by", x.count(5), 0);
        due("GRASS stays GRASS", grass().tried(4, 0, 1), 0);
    }

    private static PathsKept grass() {
        PathsKept x = told(PAIR + "year 3;");
        x.go(1);
        return x;
    }

    // ---------------------------------------------------------------- promises 34 to 37

    private static void undoCall() {
        says(34, "Walking, mowing, carrying by call can be undone, the latest first (20 at most), if no DAY went by since");
        PathsKept x = told(PAIR + "path q a b 1 0 7;walker v b 0 1;");
        long[] first = all(x);
        x.walk(0, 0);
        long[] second = all(x);
        x.mow(1);
        long[] third = all(x);
        x.carry(1, 0);
        due("three", x.count(12), 3);
        due("carrying", x.undo(), 2);
        same("carrying undone", all(x), third);
        due("mowing", x.undo(), 1);
        same("mowing undone", all(x), second);
        due("walking", x.undo(), 0);
        same("walking undone", all(x), first);
        due("none", x.undo(), -1);
        same("none", all(x), first);
        x = told(TWO + "place c;walker w a 0 1;");
        for (int i = 1; i <= 19; i++) {
            x.carry(0, 1 + i % 2);
        }
        due("19", x.count(12), 19);
        x.carry(0, 1);
        due("20", x.count(12), 20);
        x.carry(0, 0);
        due("21: 20 at most", x.count(12), 20);
        for (int left = 19; left >= 0; left--) {
            due("undo", x.undo(), left);
        }
        due("the first one stands", x.walker(0, 0), 2);
        due("none", x.undo(), -1);
        x.carry(0, 0);
        due("anew", x.undo(), 0);
        due("anew", x.walker(0, 0), 2);
        x = told(named("place ", 7, ";") + "walker w a 0 1;");
        for (int i = 1; i <= 50; i++) {
            x.carry(0, i % 7);
        }
        for (int i = 49; i >= 30; i--) {
            due("undo", x.undo(), i - 30);
            due("each one is undone by itself", x.walker(0, 0), i % 7);
        }
        due("the first thirty stand", x.undo(), -1);
        x = grass();
        x.mow(0);
        x.undo();
        due("GRASS again", x.path(0, 5) * 10 + x.path(0, 4), 3);

        says(34, "if no DAY went by since");
        x = told(VALLEY);
        x.carry(0, 3);
        x.go(0);
        due("go(0)", x.count(12), 1);
        x.go(-1);
        x.go(401);
        due("go that is refused", x.count(12), 1);
        x.ahead(5, 0, 0);
        x.tried(0, 0, 5);
        x.chance(1, 5, 0, 0);
        x.lapse(0);
        due("days that are only asked", x.count(12), 1);
        x.go(1);
        due("go(1)", x.count(12), 0);
        due("go(1)", x.undo(), -1);
        due("carried for good", x.walker(0, 0), 3);

        says(34, "how many are left; NONE: none");
        x = told(VALLEY);
        x.walk(0, 3);
        x.walk(9, 9);
        x.mow(3);
        x.mow(9);
        x.carry(0, 0);
        x.carry(9, 9);
        due("what was refused isn't undone", x.undo(), -1);
        x.see(1, 0, 0, true);
        x.known(0);
        x.keep();
        due("other calls aren't undone", x.undo(), -1);
        x.carry(0, 1);
        x.see(1, 0, 0, true);
        x.carry(0, 2);
        x.undo();
        due("what was SEEN stays", x.count(10), 2);
        due("one is left", x.count(12), 1);
    }

    private static void images() {
        says(35, "An IMAGE is kept (in place of one ahead): which DAY it is");
        PathsKept x = told(snowy(39, 1));
        due("DAY 0", x.keep(), 0);
        x.go(3);
        due("DAY 3", x.keep(), 3);
        x.go(2);
        due("the later one", x.back(), 3);
        x = told(PAIR);
        x.carry(0, 1);
        x.keep();
        due("keeping undoes nothing", x.count(12), 1);
        due("keeping undoes nothing", x.undo(), 0);
        due("undoing leaves the IMAGE", x.back(), 0);
        due("carried in the IMAGE", x.walker(0, 0), 1);

        says(36, "All (but what was SEEN) is as in the IMAGE (nothing to undo then): which DAY it is; NONE: there is none");
        x = told(VALLEY + "snow 39;seed 1;law cost length;");
        due("none", x.back(), -1);
        due("a fault", tell(x, "$"), -1);
        due("none", x.back(), -1);
        x.walk(0, 0);
        x.go(2);
        x.walk(1, 3);
        long[] kept = all(x);
        due("keep", x.keep(), 2);
        x.go(40);
        x.mow(0);
        x.carry(0, 3);
        due("back", x.back(), 2);
        kept[12] = 0;
        same("all as in the IMAGE", all(x), kept);
        due("nothing to undo", x.undo(), -1);
        due("back again", x.back(), 2);
        x = told(snowy(39, 1));
        x.go(1);
        x.keep();
        int[] drawn = numbers(1, 12);
        for (int turn = 0; turn < 3; turn++) {
            int refused = 1;
            due("REFUSED as in the IMAGE", x.count(8), refused);
            for (int day = 1; day < 12; day++) {
                x.go(1);
                refused += drawn[day] < 39 ? 1 : 0;
                due("the numbers as in the IMAGE, DAY " + day, x.count(8), refused);
            }
            x.back();
        }
        x.see(1, 0, 0, true);
        x.strike(0);
        x.known(1);
        due("back", x.back(), 1);
        due("what was SEEN stays", x.count(10), 2);
        due("by how many it is KNOWN stays", x.count(11), 1);
        tell(x, PAIR);
        due("none of a new TEXT", x.back(), -1);
        due("nothing changed", x.count(5), 0);
    }

    private static void countCall() {
        says(37, "0 PLACES, 1 PATHS, 2 WALKERS, 3 walks told, 4 KNOTS, 5 the DAY, 6 KEPT, 7 walks done, 8 REFUSED so far (by days), "
            + "9 how many sets PLACES fall into by PATHS that are KEPT, 10 SEEN, 11 by how many it is KNOWN, 12 what can be undone");
        PathsKept x = told(VALLEY + "law cost length;");
        int[] want = {4, 4, 2, 3, 1, 0, 4, 0, 0, 1, 0, 0, 0};
        for (int what = 0; what <= 12; what++) {
            due("count(" + what + ")", x.count(what), want[what]);
        }
        x.walk(0, 0);
        x.walk(0, 3);
        x.see(1, 0, 0, true);
        x.see(1, 0, 0, true);
        x.known(1);
        due("walks done", x.count(7), 1);
        due("not REFUSED by days", x.count(8), 0);
        due("SEEN", x.count(10), 2);
        due("KNOWN", x.count(11), 1);
        due("undo", x.count(12), 1);
        x.go(2);
        due("the DAY", x.count(5), 2);
        due("REFUSED by days", x.count(8), 1);
        due("walks done by call and by days", x.count(7), 3);
        due("sets of seven without paths", told(named("place ", 7, ";")).count(9), 7);
        due("sets of none", told("").count(9), 0);
        due("sets of a row", told(TWO + "place c;place d;path p a b 1 9 0;path q d c 1 9 0;path r b c 1 9 0;").count(9), 1);
        x = told(TWO + "place c;path p a b 1 9 9;path q a b 1 9 0;path r b c 1 9 8;year 10;");
        due("one set", x.count(9), 1);
        x.go(1);
        due("p is GRASS, but q isn't", x.count(9), 1);
        x.go(1);
        due("r is GRASS", x.count(9), 2);
        due("KEPT", x.count(6), 1);
        x.go(8);
        due("all is GRASS", x.count(9), 3);
        due("KEPT", x.count(6), 0);

        says(37, "NONE for another what");
        for (int what : new int[] {-1, 13, LEAST, MOST}) {
            due("count(" + what + ")", x.count(what), -1);
        }
    }

    /** No call throws by itself, whatever it is given: only path() does, and what the document names. */
    private static void wildArguments() {
        says(6, "throws IndexOutOfBoundsException, NoSuchElementException");
        int[] wild = {LEAST, LEAST + 1, -2, -1, 0, 1, 2, 3, 4, 5, 6, 7, 8, 9, 24, 60, 61, 99, 100, 400, 401, 511, 512, 1 << 30, MOST};
        String[] texts = {"", VALLEY, FULL, PAIR + "law may 1/(day-1);law cost 9999*9999*9999*age;law term gone/0;snow 60;",
            TWO + "path p a b 1 0 0;", "place a;walker w a 0 1;"};
        int thrown = 0;
        for (String text : texts) {
            for (int a : wild) {
                PathsKept x = told(text);
                for (int b : wild) {
                    try {
                        callAll(x, a, b);
                    } catch (RuntimeException e) {
                        thrown++;
                        System.out.println(e + " by " + a + ", " + b + " of " + text);
                    }
                    if (b == 4 || b == 60) {
                        x = told(text);
                    }
                }
            }
        }
        due("nothing else is thrown", thrown, 0);
    }

    private static void callAll(PathsKept x, int a, int b) {
        x.fault(a);
        x.named(a, b);
        int answer = path(x, a, b);
        due("path(" + a + ", " + b + ")", answer == 1003 || answer == 1004, false);
        x.walker(a, b);
        x.law(a, b, 0);
        x.law(1, a, b);
        x.walk(a, b);
        x.mow(a);
        x.carry(a, b);
        x.ahead(a, b, 0);
        x.ahead(1, a, b);
        x.lapse(a);
        x.reach(a);
        x.way(a, b);
        x.round(a, b, 0);
        x.round(0, a, b);
        x.needed(a);
        x.match(a);
        x.game(a, b, 1, 1);
        x.game(0, 1, a, b);
        x.rests(a, b);
        x.rest(a, b, 0);
        x.rest(0, 1, a);
        x.tries(a);
        x.clear(a, b);
        x.see(a, b, 0, true);
        x.see(1, a, b, false);
        x.strike(a);
        x.known(b);
        x.legs(a);
        x.sit(0, a, b);
        x.sit(a, b, 0);
        x.chance(a, b, 0, 1);
        x.chance(1, 1, a, b);
        x.tried(a, b, 1);
        x.tried(1, 0, a);
        x.undo();
        x.keep();
        x.go(b);
        x.back();
        x.count(a);
        x.text(a == 0 ? -1 : a);
    }
}
