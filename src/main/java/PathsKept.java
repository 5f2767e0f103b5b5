import java.util.Arrays;
import java.util.NoSuchElementException;

/** Paths that are kept by being walked; what each call promises stands in ../shared/DOC.md. */
public final class PathsKept {
    public static final int NONE = -1;

    /** What many calls answer if all they name is there, but it can't be. */
    private static final int NOT_SO = -2;

    private static final int MOST_PLACES = 7;
    private static final int MOST_PATHS = 9;
    private static final int MOST_WALKERS = 4;
    private static final int MOST_WALKS = 12;
    private static final int MOST_BULLS = 6;
    private static final int MOST_KNOTS = 64;
    private static final int MOST_SEEN = 24;
    private static final int MOST_UNDONE = 20;
    private static final int MOST_BYTES = 700;
    private static final int FED_BYTES = 20;
    private static final int MOST_LEGS = 9;
    private static final int MOST_GONE = 999;
    private static final int MOST_DAYS = 400;
    private static final int LONGEST_LAPSE = 399;
    private static final int LAST_DAY = 9000;
    private static final int LAST_WALK_DAY = 99;
    private static final int MOST_DAYS_SEEN = 60;
    private static final int MOST_DAYS_DRAWN = 99;
    private static final int TIMES_DRAWN = 10;
    private static final int HIGHEST_AGE_DRAWN = 999;
    private static final int MOST_TRIES = 8;
    private static final int MOST_DAYS_CLEAR = 6;

    private final byte[] tape = new byte[MOST_BYTES];
    private int tapeSize;
    private final Reader reader = new Reader();
    private Told told = new Told();
    /** Where a text is read to, so that all stays as it was if it has a fault. */
    private Told draft = new Told();
    private final Standing now = new Standing();
    private final Standing scratch = new Standing();
    private final Standing image = new Standing();
    private boolean imaged;
    private final Standing[] past = new Standing[MOST_UNDONE];
    private int pastSize;
    private final Days days = new Days();
    private final Seen seen = new Seen();
    private final Ways ways = new Ways();
    private final Game squireGame = new Game();

    public PathsKept() {
        for (int i = 0; i < MOST_UNDONE; i++) {
            past[i] = new Standing();
        }
    }

    // ---- the text

    public int feed(int a, int b, int c, int d, int e) {
        if (tapeSize + FED_BYTES > MOST_BYTES) {
            return NONE;
        }
        putFour(a);
        putFour(b);
        putFour(c);
        putFour(d);
        putFour(e);
        return tapeSize;
    }

    private void putFour(int four) {
        for (int shift = 24; shift >= 0 && tapeSize < MOST_BYTES; shift -= 8) {
            tape[tapeSize] = (byte) (four >> shift);
            tapeSize++;
        }
    }

    public int text(int n) {
        if (n < 0 || n > tapeSize) {
            return NOT_SO;
        }
        tapeSize = 0;
        try {
            reader.readText(tape, n, draft);
        } catch (IllegalArgumentException e) {
            return NONE;
        }
        Told old = told;
        told = draft;
        draft = old;
        now.begin(told);
        seen.empty();
        imaged = false;
        pastSize = 0;
        return told.lines;
    }

    public int fault(int what) {
        switch (what) {
            case 0:
                return reader.fault;
            case 1:
                return reader.faultPlace;
            default:
                return NONE;
        }
    }

    public int named(int what, int letters) {
        switch (what) {
            case 0:
                return told.places.find(letters);
            case 1:
                return told.paths.find(letters);
            case 2:
                return told.walkers.find(letters);
            default:
                return NONE;
        }
    }

    private boolean isPlace(int place) {
        return place >= 0 && place < told.places.size;
    }

    private boolean isPath(int path) {
        return path >= 0 && path < told.paths.size;
    }

    private boolean isWalker(int walker) {
        return walker >= 0 && walker < told.walkers.size;
    }

    private static boolean isWithin(int least, int number, int most) {
        return number >= least && number <= most;
    }

    // ---- what is now

    public int path(int path, int what) throws IndexOutOfBoundsException, NoSuchElementException {
        if (!isPath(path)) {
            throw new IndexOutOfBoundsException("no such path");
        }
        switch (what) {
            case 0:
                return told.paths.cell(path, Told.FROM);
            case 1:
                return told.paths.cell(path, Told.TO);
            case 2:
                return told.paths.cell(path, Told.LENGTH);
            case 3:
                return told.paths.cell(path, Told.STILE);
            case 4:
                return now.age[path];
            case 5:
                return now.isKept(path) ? 1 : 0;
            case 6:
                return now.gone[path];
            case 7:
                return told.isBullOn(path, now.day) ? 1 : 0;
            default:
                throw new NoSuchElementException("no such what");
        }
    }

    public int walker(int walker, int what) {
        if (!isWalker(walker)) {
            return NONE;
        }
        switch (what) {
            case 0:
                return now.at[walker];
            case 1:
                return told.walkers.cell(walker, Told.LEGS);
            case 2:
                return told.walkers.cell(walker, Told.PACE);
            case 3:
                return now.left[walker];
            case 4:
                return pathsHeCanGo(walker);
            default:
                return NONE;
        }
    }

    private int pathsHeCanGo(int walker) {
        days.begin(told, now, Days.BY_NUMBERS);
        int paths = 0;
        for (int path = 0; path < told.paths.size; path++) {
            if (days.costIfHeCan(walker, path) >= 0) {
                paths |= 1 << path;
            }
        }
        return paths;
    }

    public long law(int what, int path, int walker) {
        if (!isWithin(Laws.TERM, what, Laws.COST) || !isPath(path)) {
            return Laws.ERROR;
        }
        if (what != Laws.TERM && !isWalker(walker)) {
            return Laws.ERROR;
        }
        days.begin(told, now, Days.BY_NUMBERS);
        days.lookAt(path, what == Laws.TERM ? Days.NOBODY : walker);
        return told.laws.value(what, Laws.ERROR);
    }

    public int count(int what) {
        switch (what) {
            case 0:
                return told.places.size;
            case 1:
                return told.paths.size;
            case 2:
                return told.walkers.size;
            case 3:
                return told.walks.size;
            case 4:
                return told.laws.knots;
            case 5:
                return now.day;
            case 6:
                return Integer.bitCount(now.kept);
            case 7:
                return now.done;
            case 8:
                return now.refused;
            case 9:
                return Ways.sets(told, now.kept);
            case 10:
                return seen.size;
            case 11:
                return seen.knownSize();
            case 12:
                return pastSize;
            default:
                return NONE;
        }
    }

    // ---- what is done by call

    public int walk(int walker, int path) {
        if (!isWalker(walker) || !isPath(path)) {
            return NONE;
        }
        days.begin(told, now, Days.BY_NUMBERS);
        int cost = days.costIfHeCan(walker, path);
        if (cost < 0) {
            return NOT_SO;
        }
        remember();
        days.goWhole(walker, path, cost);
        return now.left[walker];
    }

    public boolean mow(int path) {
        if (!isPath(path) || now.isKept(path) && now.age[path] == 0) {
            return false;
        }
        remember();
        now.kept |= 1 << path;
        now.age[path] = 0;
        return true;
    }

    public boolean carry(int walker, int place) {
        if (!isWalker(walker) || !isPlace(place) || now.at[walker] == place) {
            return false;
        }
        remember();
        now.at[walker] = place;
        return true;
    }

    /** Keeps what is now for undoing; beyond the limit the oldest one is given up. */
    private void remember() {
        if (pastSize >= MOST_UNDONE) {
            Standing oldest = past[0];
            for (int i = 1; i < MOST_UNDONE; i++) {
                past[i - 1] = past[i];
            }
            past[MOST_UNDONE - 1] = oldest;
            pastSize = MOST_UNDONE - 1;
        }
        past[pastSize].copyFrom(now);
        pastSize++;
    }

    public int undo() {
        if (pastSize <= 0) {
            return NONE;
        }
        pastSize--;
        now.copyFrom(past[pastSize]);
        return pastSize;
    }

    public int keep() {
        image.copyFrom(now);
        imaged = true;
        return now.day;
    }

    public int back() {
        if (!imaged) {
            return NONE;
        }
        now.copyFrom(image);
        pastSize = 0;
        return now.day;
    }

    // ---- days

    public int go(int n) {
        if (!isWithin(0, n, MOST_DAYS) || now.day + n > LAST_DAY) {
            return NONE;
        }
        days.begin(told, now, Days.BY_NUMBERS);
        for (int i = 0; i < n; i++) {
            days.pass();
        }
        if (n > 0) {
            pastSize = 0;
        }
        return now.day;
    }

    /** From now on the days are run on a copy, as it goes. */
    private void beginAhead() {
        scratch.copyFrom(now);
        days.begin(told, scratch, Days.AS_IT_GOES);
    }

    public int ahead(int n, int what, int i) {
        if (!isWithin(0, n, MOST_DAYS) || !isAsked(what, i)) {
            return NONE;
        }
        beginAhead();
        for (int day = 0; day < n; day++) {
            days.pass();
        }
        switch (what) {
            case 0:
                return Integer.bitCount(scratch.kept);
            case 1:
                return scratch.done - now.done;
            case 2:
                return scratch.refused - now.refused;
            case 3:
                return scratch.at[i];
            default:
                return scratch.age[i];
        }
    }

    private boolean isAsked(int what, int i) {
        switch (what) {
            case 0:
            case 1:
            case 2:
                return true;
            case 3:
                return isWalker(i);
            case 4:
                return isPath(i);
            default:
                return false;
        }
    }

    public int lapse(int path) {
        if (!isPath(path)) {
            return NONE;
        }
        beginAhead();
        for (int day = 0; day < LONGEST_LAPSE && scratch.isKept(path); day++) {
            days.pass();
        }
        return scratch.isKept(path) ? NOT_SO : scratch.day - now.day;
    }

    public int tried(int what, int i, int n) {
        if (!isWithin(Days.NO_SNOW, what, Days.LONG_YEAR) || !isWithin(0, n, MOST_DAYS)) {
            return NONE;
        }
        if (what == Days.ONE_STAYS ? !isWalker(i) : i != 0) {
            return NONE;
        }
        beginAhead();
        days.tryOtherwise(what, i);
        for (int day = 0; day < n; day++) {
            days.pass();
        }
        return Integer.bitCount(scratch.kept);
    }

    public int chance(int seed, int n, int path, int age) {
        if (seed < 0 || !isWithin(1, n, MOST_DAYS_DRAWN) || !isPath(path) || !isWithin(0, age, HIGHEST_AGE_DRAWN)) {
            return NONE;
        }
        int times = 0;
        int number = seed;
        for (int time = 0; time < TIMES_DRAWN; time++) {
            scratch.copyFrom(now);
            scratch.number = number;
            days.begin(told, scratch, Days.BY_NUMBERS);
            for (int day = 0; day < n; day++) {
                days.pass();
            }
            number = scratch.number;
            if (scratch.age[path] <= age) {
                times++;
            }
        }
        return times;
    }

    // ---- ways

    public int reach(int walker) {
        if (!isWalker(walker)) {
            return NONE;
        }
        return Ways.spread(told, now.at[walker], Ways.openFor(told, now, walker));
    }

    public int way(int walker, int place) {
        if (!isWalker(walker) || !isPlace(place)) {
            return NONE;
        }
        return ways.leastLength(told, now, walker, place);
    }

    public int round(int walker, int paths, int what) {
        if (!isWalker(walker) || paths < 0 || paths >= 1 << told.paths.size || !isWithin(0, what, 1)) {
            return NONE;
        }
        return ways.leastRound(told, now, walker, paths, what == 1);
    }

    public int needed(int path) {
        if (!isPath(path) || !now.isKept(path)) {
            return NONE;
        }
        return Ways.pairs(told, now.kept) - Ways.pairs(told, now.kept & ~(1 << path));
    }

    public int blind() {
        return Ways.blindEnds(told, now.kept);
    }

    public int watch() {
        return Ways.fewestWatched(told, now.kept);
    }

    public int match(int what) {
        if (!isWithin(0, what, MOST_WALKERS)) {
            return NONE;
        }
        ways.matchAll(told, now);
        return what == MOST_WALKERS ? ways.bestSum : ways.bestPick[what];
    }

    // ---- the squire, and two who keep or leave

    public int game(int one, int other, int first, int what) {
        if (!isPlace(one) || !isPlace(other) || one == other) {
            return NONE;
        }
        if (!isWithin(Game.SQUIRE, first, Game.PARISH) || !isWithin(0, what, 1)) {
            return NONE;
        }
        squireGame.begin(told, now.kept, one, other);
        return what == 0 ? squireGame.winner(first) : squireGame.firstMove(first);
    }

    private boolean isPair(int one, int other) {
        return isWalker(one) && isWalker(other) && one != other;
    }

    public int rests(int one, int other) {
        if (!isPair(one, other)) {
            return NONE;
        }
        int number = 0;
        for (int both = 0; both < 4; both++) {
            if (isRest(one, other, both)) {
                number++;
            }
        }
        return number;
    }

    public int rest(int one, int other, int k) {
        if (!isPair(one, other) || k < 0) {
            return NONE;
        }
        int number = 0;
        for (int both = 0; both < 4; both++) {
            if (isRest(one, other, both)) {
                if (number == k) {
                    return 10 * (both >> 1) + (both & 1);
                }
                number++;
            }
        }
        return NOT_SO;
    }

    /** The first one's choice is the higher bit of both. */
    private boolean isRest(int one, int other, int both) {
        int first = both >> 1;
        int second = both & 1;
        int legsOfOne = told.walkers.cell(one, Told.LEGS);
        int legsOfOther = told.walkers.cell(other, Told.LEGS);
        return share(legsOfOne, first, second) >= share(legsOfOne, 1 - first, second)
            && share(legsOfOther, second, first) >= share(legsOfOther, 1 - second, first);
    }

    /** What one with such legs has, if he and the other one keep (0) or leave (1). */
    private static int share(int legs, int own, int others) {
        if (own == 0) {
            return others == 0 ? legs : legs - 2;
        }
        return others == 0 ? legs + 3 : 0;
    }

    // ---- snow by odds

    public int tries(int p) {
        if (!isWithin(0, p, 100)) {
            return NONE;
        }
        long all = 1;
        long snowy = 1;
        for (int n = 1; n <= MOST_TRIES; n++) {
            all *= 100;
            snowy *= told.snow;
            if ((all - snowy) * 100 >= p * all) {
                return n;
            }
        }
        return NOT_SO;
    }

    public long clear(int n, int what) {
        if (!isWithin(0, n, MOST_DAYS_CLEAR) || !isWithin(0, what, 1)) {
            return NONE;
        }
        int without = 100 - told.snow;
        int common = commonDivisor(100, without);
        int factor = (what == 0 ? without : 100) / common;
        long power = 1;
        for (int i = 0; i < n; i++) {
            power *= factor;
        }
        return power;
    }

    /** Both 0 .. 100 and the first one above 0, so the answer is above 0 too. */
    private static int commonDivisor(int one, int other) {
        int a = one;
        int b = other;
        for (int i = 0; i < 100 && b > 0; i++) {
            int rest = a % b;
            a = b;
            b = rest;
        }
        return Math.max(a, 1);
    }

    // ---- what was seen

    public int see(int days, int walker, int place, boolean is) {
        if (!isWithin(1, days, MOST_DAYS_SEEN) || !isWalker(walker) || !isPlace(place)) {
            return NONE;
        }
        return seen.add(is ? Seen.THERE : Seen.ELSEWHERE, days, walker, place);
    }

    public int strike(int struck) {
        if (struck < 0 || struck >= seen.size) {
            return NONE;
        }
        return seen.add(Seen.STRIKE, 0, struck, 0);
    }

    public boolean known(int n) {
        if (!isWithin(Seen.ALL, n, seen.size)) {
            return false;
        }
        seen.knownBy = n;
        return true;
    }

    public int legs(int walker) {
        if (!isWalker(walker)) {
            return NONE;
        }
        seen.sift();
        int possible = 0;
        for (int legs = 0; legs <= MOST_LEGS; legs++) {
            if (placeIfLegs(walker, legs, 0) >= 0) {
                possible |= 1 << legs;
            }
        }
        return possible;
    }

    public int sit(int walker, int n, int what) {
        if (!isWalker(walker) || !isWithin(1, n, MOST_DAYS_SEEN) || !isWithin(0, what, 1)) {
            return NONE;
        }
        seen.sift();
        int[] hits = seen.hits;
        Arrays.fill(hits, 0);
        int all = 0;
        for (int legs = 0; legs <= MOST_LEGS; legs++) {
            int place = placeIfLegs(walker, legs, n);
            if (place >= 0 && place < hits.length) {
                hits[place]++;
                all++;
            }
        }
        int best = 0;
        for (int place = 1; place < told.places.size; place++) {
            if (leftAtWorst(hits[place], all) < leftAtWorst(hits[best], all)) {
                best = place;
            }
        }
        return what == 0 ? best : leftAtWorst(hits[best], all);
    }

    private static int leftAtWorst(int hits, int all) {
        return Math.max(hits, all - hits);
    }

    /** Where he is behind n days from the text on, had he such legs; NONE, if what is known wasn't so then. */
    private int placeIfLegs(int walker, int legs, int n) {
        scratch.begin(told);
        days.begin(told, scratch, Days.AS_IT_GOES);
        days.legs[walker] = legs;
        int last = Math.max(n, seen.lastDay);
        int place = scratch.at[walker];
        for (int day = 1; day <= last; day++) {
            days.pass();
            if (!seen.isSo(day, scratch.at)) {
                return NONE;
            }
            if (day == n) {
                place = scratch.at[walker];
            }
        }
        return place;
    }

    /** Rows of numbers under names; a cell that isn't there is 0. */
    private static final class Table {
        private final int most;
        private final int width;
        private final int[] names;
        private final int[] cells;
        private int size;

        Table(int most, int width) {
            this.most = most;
            this.width = width;
            names = new int[most];
            cells = new int[most * width];
        }

        boolean isFull() {
            return size >= most;
        }

        int find(int name) {
            for (int i = 0; i < size; i++) {
                if (names[i] == name) {
                    return i;
                }
            }
            return NONE;
        }

        int cell(int row, int column) {
            if (row < 0 || row >= size || column < 0 || column >= width) {
                return 0;
            }
            return cells[row * width + column];
        }

        /** Fills the row that comes next, which counts when it is ended. */
        void put(int column, int number) {
            if (!isFull() && column >= 0 && column < width) {
                cells[size * width + column] = number;
            }
        }

        void putName(int name) {
            if (!isFull()) {
                names[size] = name;
            }
        }

        void endRow() {
            if (!isFull()) {
                size++;
            }
        }
    }

    /** All that a text tells. */
    private static final class Told {
        /** Columns of paths. */
        static final int FROM = 0;
        static final int TO = 1;
        static final int LENGTH = 2;
        static final int STILE = 3;
        static final int AGE = 4;
        /** Columns of walkers. */
        static final int HOME = 0;
        static final int LEGS = 1;
        static final int PACE = 2;
        /** Columns of walks. */
        static final int WHO = 0;
        static final int WHICH = 1;
        static final int WHEN = 2;
        /** Columns of bulls. */
        static final int ON = 0;
        static final int SINCE = 1;
        static final int UNTIL = 2;

        static final int USUAL_YEAR = 366;

        private final Table places = new Table(MOST_PLACES, 0);
        private final Table paths = new Table(MOST_PATHS, 5);
        private final Table walkers = new Table(MOST_WALKERS, 3);
        private final Table walks = new Table(MOST_WALKS, 3);
        private final Table bulls = new Table(MOST_BULLS, 3);
        private final Laws laws = new Laws();
        private int year = USUAL_YEAR;
        private int snow;
        private int seed;
        private int lines;

        void empty() {
            places.size = 0;
            paths.size = 0;
            walkers.size = 0;
            walks.size = 0;
            bulls.size = 0;
            laws.empty();
            year = USUAL_YEAR;
            snow = 0;
            seed = 0;
            lines = 0;
        }

        /** Both ends of a path, as bits. */
        int ends(int path) {
            return 1 << paths.cell(path, FROM) | 1 << paths.cell(path, TO);
        }

        boolean isBullOn(int path, int day) {
            for (int i = 0; i < bulls.size; i++) {
                if (bulls.cell(i, ON) == path && isWithin(bulls.cell(i, SINCE), day, bulls.cell(i, UNTIL))) {
                    return true;
                }
            }
            return false;
        }
    }

    /** The laws' expressions, kept with each sign behind what it joins, so that working them out needs no tree. */
    private static final class Laws {
        static final int TERM = 0;
        static final int MAY = 1;
        static final int COST = 2;
        static final long ERROR = Long.MIN_VALUE;
        private static final long HIGHEST = 1000000000000L;

        private final int[] start = new int[3];
        private final int[] end = new int[3];
        private final int[] kinds = new int[MOST_KNOTS];
        private final int[] numbers = new int[MOST_KNOTS];
        private int size;
        /** Counted ahead of size: a sign is read before it is put behind what it joins. */
        private int knots;
        /** What names stand for, each as far behind the first one as its token is behind LENGTH. */
        private final long[] names = new long[Tokens.DAY - Tokens.LENGTH + 1];
        private final long[] stack = new long[MOST_KNOTS];

        void empty() {
            Arrays.fill(start, 0);
            Arrays.fill(end, 0);
            size = 0;
            knots = 0;
        }

        void put(int kind, int number) {
            if (size < MOST_KNOTS) {
                kinds[size] = kind;
                numbers[size] = number;
                size++;
            }
        }

        boolean isTold(int law) {
            return end[law] > start[law];
        }

        /** A law's value; the other one, if it isn't told or has an error. */
        long value(int law, long otherwise) {
            if (law < TERM || law > COST) {
                return otherwise;
            }
            int depth = 0;
            for (int i = start[law]; i < end[law] && i < MOST_KNOTS; i++) {
                int kind = kinds[i];
                if (kind == Tokens.NUMBER || Tokens.isName(kind)) {
                    if (depth >= MOST_KNOTS) {
                        return otherwise;
                    }
                    stack[depth] = kind == Tokens.NUMBER ? numbers[i] : names[kind - Tokens.LENGTH];
                    depth++;
                } else if (kind == Tokens.NOT) {
                    if (depth < 1) {
                        return otherwise;
                    }
                    stack[depth - 1] = stack[depth - 1] == 0 ? 1 : 0;
                } else {
                    if (depth < 2) {
                        return otherwise;
                    }
                    depth--;
                    long joined = join(kind, stack[depth - 1], stack[depth]);
                    if (joined > HIGHEST || joined < -HIGHEST) {
                        return otherwise;
                    }
                    stack[depth - 1] = joined;
                }
            }
            return depth == 1 ? stack[0] : otherwise;
        }

        private static long join(int kind, long a, long b) {
            switch (kind) {
                case Tokens.OR:
                    return a != 0 || b != 0 ? 1 : 0;
                case Tokens.AND:
                    return a != 0 && b != 0 ? 1 : 0;
                case Tokens.LESS:
                    return a < b ? 1 : 0;
                case Tokens.AT_MOST:
                    return a <= b ? 1 : 0;
                case Tokens.ALIKE:
                    return a == b ? 1 : 0;
                case Tokens.UNLIKE:
                    return a != b ? 1 : 0;
                case Tokens.AT_LEAST:
                    return a >= b ? 1 : 0;
                case Tokens.MORE:
                    return a > b ? 1 : 0;
                case Tokens.PLUS:
                    return a + b;
                case Tokens.MINUS:
                    return a - b;
                case Tokens.TIMES:
                    // two values that are no error may be too much for a long
                    return a != 0 && Math.abs(b) > HIGHEST / Math.abs(a) ? ERROR : a * b;
                case Tokens.OVER:
                    return b == 0 ? ERROR : a / b;
                default:
                    return ERROR;
            }
        }
    }

    /** Cuts bytes into tokens; the one that is looked at stays till the next one is asked for. */
    private static final class Tokens {
        /** Words of the language, numbered as they stand in WORDS. */
        static final int PLACE = 0;
        static final int PATH = 1;
        static final int WALKER = 2;
        static final int WALK = 3;
        static final int BULL = 4;
        static final int YEAR = 5;
        static final int SNOW = 6;
        static final int SEED = 7;
        static final int LAW = 8;
        static final int TERM = 9;
        static final int MAY = 10;
        static final int COST = 11;
        static final int OR = 12;
        static final int AND = 13;
        static final int NOT = 14;
        static final int LENGTH = 15;
        static final int STILE = 16;
        static final int AGE = 17;
        static final int LEGS = 18;
        static final int PACE = 19;
        static final int GONE = 20;
        static final int DAY = 21;
        /** What else there is. */
        static final int WORD = 22;
        static final int NUMBER = 23;
        static final int SEMICOLON = 24;
        static final int OPEN = 25;
        static final int CLOSE = 26;
        static final int LESS = 27;
        static final int AT_MOST = 28;
        static final int ALIKE = 29;
        static final int UNLIKE = 30;
        static final int AT_LEAST = 31;
        static final int MORE = 32;
        static final int PLUS = 33;
        static final int MINUS = 34;
        static final int TIMES = 35;
        static final int OVER = 36;
        static final int END = 37;
        static final int UNKNOWN = 38;

        private static final String WORDS =
            "place path walker walk bull year snow seed law term may cost or and not length stile age legs pace gone day ";
        private static final int WORDS_TOLD = 22;
        private static final int LETTERS = 6;
        private static final int LETTER_BITS = 5;
        /** Beyond all numbers that may stand anywhere; a number that passes it isn't read more exactly. */
        private static final int TOO_HIGH = 100000;

        private final int[] words = new int[WORDS_TOLD];
        private byte[] bytes;
        private int size;
        private int next;
        private int kind;
        private int place;
        /** A number, or a word's letters as named() has them. */
        private int value;

        Tokens() {
            int word = 0;
            int letters = 0;
            for (int i = 0; i < WORDS.length() && word < WORDS_TOLD; i++) {
                if (WORDS.charAt(i) == ' ') {
                    words[word] <<= LETTER_BITS * (LETTERS - letters);
                    word++;
                    letters = 0;
                } else {
                    words[word] = words[word] << LETTER_BITS | WORDS.charAt(i) - 'a' + 1;
                    letters++;
                }
            }
        }

        static boolean isName(int kind) {
            return kind >= LENGTH && kind <= DAY;
        }

        void begin(byte[] text, int length) {
            bytes = text;
            size = text == null ? 0 : Math.min(length, text.length);
            next = 0;
            advance();
        }

        void advance() {
            while (next < size && (bytes[next] == ' ' || bytes[next] == 10)) {
                next++;
            }
            place = next;
            value = 0;
            if (next >= size) {
                kind = END;
            } else if (bytes[next] >= 'a' && bytes[next] <= 'z') {
                readWord();
            } else if (bytes[next] >= '0' && bytes[next] <= '9') {
                readDigits();
            } else if (bytes[next] == '<' || bytes[next] == '>') {
                kind = readComparison();
            } else {
                kind = readSign();
            }
        }

        private void readWord() {
            int letters = 0;
            while (next < size && bytes[next] >= 'a' && bytes[next] <= 'z') {
                if (letters < LETTERS) {
                    value = value << LETTER_BITS | bytes[next] - 'a' + 1;
                }
                letters++;
                next++;
            }
            if (letters > LETTERS) {
                kind = UNKNOWN;
                return;
            }
            value <<= LETTER_BITS * (LETTERS - letters);
            kind = WORD;
            for (int word = 0; word < WORDS_TOLD && kind == WORD; word++) {
                if (words[word] == value) {
                    kind = word;
                }
            }
        }

        private void readDigits() {
            while (next < size && bytes[next] >= '0' && bytes[next] <= '9') {
                if (value < TOO_HIGH) {
                    value = value * 10 + bytes[next] - '0';
                }
                next++;
            }
            kind = NUMBER;
        }

        private int readSign() {
            int sign = bytes[next];
            next++;
            switch (sign) {
                case ';':
                    return SEMICOLON;
                case '(':
                    return OPEN;
                case ')':
                    return CLOSE;
                case '=':
                    return ALIKE;
                case '+':
                    return PLUS;
                case '-':
                    return MINUS;
                case '*':
                    return TIMES;
                case '/':
                    return OVER;
                default:
                    return UNKNOWN;
            }
        }

        /** What stands right behind < or > may belong to it. */
        private int readComparison() {
            int sign = bytes[next];
            next++;
            int behind = next < size ? bytes[next] : 0;
            if (behind == '=') {
                next++;
                return sign == '<' ? AT_MOST : AT_LEAST;
            }
            if (sign == '<' && behind == '>') {
                next++;
                return UNLIKE;
            }
            return sign == '<' ? LESS : MORE;
        }
    }

    /** Reads a text up to its first fault; each token is judged before the next one is looked at. */
    private static final class Reader {
        private static final int UNFIT = 1;
        private static final int TOO_MUCH = 2;
        private static final int TOLD_ALREADY = 3;
        private static final int NOT_TOLD = 4;
        private static final int TO_ITSELF = 5;

        /** How tightly what stands in an expression binds, from the loosest on. */
        private static final int OR_LEVEL = 0;
        private static final int AND_LEVEL = 1;
        private static final int NOT_LEVEL = 2;
        private static final int COMPARISON_LEVEL = 3;
        private static final int SUM_LEVEL = 4;
        private static final int PRODUCT_LEVEL = 5;
        private static final int PART_LEVEL = 6;

        private static final int MOST_OPEN = 8;
        private static final int HIGHEST_NUMBER = 9999;

        private final Tokens tokens = new Tokens();
        private Told told;
        /** Words of lines and laws that may come once and came, as bits. */
        private int once;
        private int fault;
        private int faultPlace = NONE;

        void readText(byte[] bytes, int length, Told into) {
            told = into;
            told.empty();
            once = 0;
            fault = 0;
            faultPlace = NONE;
            tokens.begin(bytes, length);
            for (int line = 0; line < MOST_BYTES && tokens.kind != Tokens.END; line++) {
                readLine();
                expect(Tokens.SEMICOLON);
                told.lines++;
            }
        }

        private void fail(int number) {
            fault = number;
            faultPlace = tokens.place;
            throw new IllegalArgumentException("a fault");
        }

        private void expect(int kind) {
            if (tokens.kind != kind) {
                fail(UNFIT);
            }
            tokens.advance();
        }

        private void readLine() {
            switch (tokens.kind) {
                case Tokens.PLACE:
                    beginRow(told.places);
                    readNewName(told.places);
                    told.places.endRow();
                    break;
                case Tokens.PATH:
                    readPath();
                    break;
                case Tokens.WALKER:
                    readWalker();
                    break;
                case Tokens.WALK:
                    readWalk();
                    break;
                case Tokens.BULL:
                    readBull();
                    break;
                case Tokens.YEAR:
                    beginOnce();
                    told.year = readNumber(1, 400);
                    break;
                case Tokens.SNOW:
                    beginOnce();
                    told.snow = readNumber(0, 100);
                    break;
                case Tokens.SEED:
                    beginOnce();
                    told.seed = readNumber(0, 99999);
                    break;
                default:
                    expect(Tokens.LAW);
                    readLaw();
            }
        }

        private void beginRow(Table table) {
            if (table.isFull()) {
                fail(TOO_MUCH);
            }
            tokens.advance();
        }

        private void beginOnce() {
            int bit = 1 << tokens.kind;
            if ((once & bit) != 0) {
                fail(TOLD_ALREADY);
            }
            once |= bit;
            tokens.advance();
        }

        private void readPath() {
            Table paths = told.paths;
            beginRow(paths);
            readNewName(paths);
            int from = readTold(told.places);
            paths.put(Told.FROM, from);
            if (tokens.kind == Tokens.WORD && told.places.find(tokens.value) == from) {
                fail(TO_ITSELF);
            }
            paths.put(Told.TO, readTold(told.places));
            paths.put(Told.LENGTH, readNumber(1, 99));
            paths.put(Told.STILE, readNumber(0, 9));
            paths.put(Told.AGE, readNumber(0, 399));
            paths.endRow();
        }

        private void readWalker() {
            Table walkers = told.walkers;
            beginRow(walkers);
            readNewName(walkers);
            walkers.put(Told.HOME, readTold(told.places));
            walkers.put(Told.LEGS, readNumber(0, MOST_LEGS));
            walkers.put(Told.PACE, readNumber(1, 99));
            walkers.endRow();
        }

        private void readWalk() {
            Table walks = told.walks;
            beginRow(walks);
            walks.put(Told.WHO, readTold(told.walkers));
            walks.put(Told.WHICH, readTold(told.paths));
            walks.put(Told.WHEN, readNumber(0, LAST_WALK_DAY));
            walks.endRow();
        }

        private void readBull() {
            Table bulls = told.bulls;
            beginRow(bulls);
            bulls.put(Told.ON, readTold(told.paths));
            bulls.put(Told.SINCE, readNumber(0, LAST_WALK_DAY));
            bulls.put(Told.UNTIL, readNumber(0, LAST_WALK_DAY));
            bulls.endRow();
        }

        private void readNewName(Table table) {
            if (tokens.kind != Tokens.WORD) {
                fail(UNFIT);
            }
            if (table.find(tokens.value) >= 0) {
                fail(TOLD_ALREADY);
            }
            table.putName(tokens.value);
            tokens.advance();
        }

        private int readTold(Table table) {
            if (tokens.kind != Tokens.WORD) {
                fail(UNFIT);
            }
            int row = table.find(tokens.value);
            if (row < 0) {
                fail(NOT_TOLD);
            }
            tokens.advance();
            return row;
        }

        private int readNumber(int least, int most) {
            if (tokens.kind != Tokens.NUMBER) {
                fail(UNFIT);
            }
            int number = tokens.value;
            if (!isWithin(least, number, most)) {
                fail(TOO_MUCH);
            }
            tokens.advance();
            return number;
        }

        private void readLaw() {
            int which = tokens.kind - Tokens.TERM;
            if (!isWithin(Laws.TERM, which, Laws.COST)) {
                fail(UNFIT);
            }
            beginOnce();
            told.laws.start[which] = told.laws.size;
            readLevel(OR_LEVEL, 0);
            told.laws.end[which] = told.laws.size;
        }

        /** An expression of a level or a tighter one, within so many brackets that are open. */
        private void readLevel(int level, int open) {
            if (level >= PART_LEVEL) {
                readPart(open);
                return;
            }
            if (level == NOT_LEVEL) {
                readNots(open);
                return;
            }
            readLevel(level + 1, open);
            int most = level == COMPARISON_LEVEL ? 1 : MOST_KNOTS;
            for (int i = 0; i < most && levelOf(tokens.kind) == level; i++) {
                int sign = tokens.kind;
                takeKnot();
                readLevel(level + 1, open);
                told.laws.put(sign, 0);
            }
        }

        private void readNots(int open) {
            int nots = 0;
            while (nots <= MOST_KNOTS && tokens.kind == Tokens.NOT) {
                takeKnot();
                nots++;
            }
            readLevel(COMPARISON_LEVEL, open);
            for (int i = 0; i < nots; i++) {
                told.laws.put(Tokens.NOT, 0);
            }
        }

        private void readPart(int open) {
            int kind = tokens.kind;
            int number = tokens.value;
            if (kind == Tokens.OPEN) {
                if (open >= MOST_OPEN) {
                    fail(TOO_MUCH);
                }
                tokens.advance();
                readLevel(OR_LEVEL, open + 1);
                expect(Tokens.CLOSE);
                return;
            }
            if (kind != Tokens.NUMBER && !Tokens.isName(kind)) {
                fail(UNFIT);
            }
            if (kind == Tokens.NUMBER && number > HIGHEST_NUMBER) {
                fail(TOO_MUCH);
            }
            takeKnot();
            told.laws.put(kind, number);
        }

        private void takeKnot() {
            if (told.laws.knots >= MOST_KNOTS) {
                fail(TOO_MUCH);
            }
            told.laws.knots++;
            tokens.advance();
        }

        private static int levelOf(int kind) {
            if (kind == Tokens.OR) {
                return OR_LEVEL;
            }
            if (kind == Tokens.AND) {
                return AND_LEVEL;
            }
            if (kind >= Tokens.LESS && kind <= Tokens.MORE) {
                return COMPARISON_LEVEL;
            }
            if (kind == Tokens.PLUS || kind == Tokens.MINUS) {
                return SUM_LEVEL;
            }
            return kind == Tokens.TIMES || kind == Tokens.OVER ? PRODUCT_LEVEL : NONE;
        }
    }

    /** All that changes by days and by calls. */
    private static final class Standing {
        private int day;
        private int number;
        private int done;
        private int refused;
        /** Paths that are kept, as bits. */
        private int kept;
        private final int[] age = new int[MOST_PATHS];
        private final int[] gone = new int[MOST_PATHS];
        private final int[] at = new int[MOST_WALKERS];
        private final int[] left = new int[MOST_WALKERS];

        void begin(Told told) {
            day = 0;
            number = told.seed;
            done = 0;
            refused = 0;
            kept = (1 << told.paths.size) - 1;
            for (int path = 0; path < MOST_PATHS; path++) {
                age[path] = told.paths.cell(path, Told.AGE);
                gone[path] = 0;
            }
            for (int walker = 0; walker < MOST_WALKERS; walker++) {
                at[walker] = told.walkers.cell(walker, Told.HOME);
                left[walker] = told.walkers.cell(walker, Told.PACE);
            }
        }

        void copyFrom(Standing other) {
            day = other.day;
            number = other.number;
            done = other.done;
            refused = other.refused;
            kept = other.kept;
            System.arraycopy(other.age, 0, age, 0, MOST_PATHS);
            System.arraycopy(other.gone, 0, gone, 0, MOST_PATHS);
            System.arraycopy(other.at, 0, at, 0, MOST_WALKERS);
            System.arraycopy(other.left, 0, left, 0, MOST_WALKERS);
        }

        boolean isKept(int path) {
            return (kept >> path & 1) != 0;
        }
    }

    /** Lets days go by on a standing, as told or in one thing otherwise. */
    private static final class Days {
        /** By what there is snow. */
        static final int BY_NUMBERS = 0;
        static final int AS_IT_GOES = 1;
        static final int NEVER = 2;
        /** What is tried otherwise. */
        static final int NO_SNOW = 0;
        static final int NO_BULLS = 1;
        static final int ONE_STAYS = 2;
        static final int ALL_LEGS = 3;
        static final int LONG_YEAR = 4;

        static final int NOBODY = -1;
        private static final int LONGEST_YEAR = 400;
        private static final int LONGEST_TERM = 9999;
        private static final int HIGHEST_COST = 99;
        private static final int SNOW_AS_IT_GOES = 50;

        private Told told;
        private Standing standing;
        private int snowBy;
        private boolean bulls;
        private boolean termAsked;
        private int year;
        private int stays;
        private final int[] legs = new int[MOST_WALKERS];

        void begin(Told asTold, Standing on, int snow) {
            told = asTold;
            standing = on;
            snowBy = snow;
            bulls = true;
            termAsked = told.laws.isTold(Laws.TERM);
            year = told.year;
            stays = NOBODY;
            for (int walker = 0; walker < MOST_WALKERS; walker++) {
                legs[walker] = told.walkers.cell(walker, Told.LEGS);
            }
        }

        void tryOtherwise(int what, int walker) {
            switch (what) {
                case NO_SNOW:
                    snowBy = NEVER;
                    break;
                case NO_BULLS:
                    bulls = false;
                    break;
                case ONE_STAYS:
                    stays = walker;
                    break;
                case ALL_LEGS:
                    Arrays.fill(legs, MOST_LEGS);
                    break;
                default:
                    termAsked = false;
                    year = LONGEST_YEAR;
            }
        }

        void pass() {
            goWalks(isSnowing());
            for (int path = 0; path < told.paths.size; path++) {
                if (standing.isKept(path)) {
                    growOlder(path);
                }
            }
            for (int walker = 0; walker < told.walkers.size; walker++) {
                standing.left[walker] = told.walkers.cell(walker, Told.PACE);
            }
            standing.day++;
        }

        private boolean isSnowing() {
            int snow = told.snow;
            if (snowBy == NEVER || snow == 0) {
                return false;
            }
            if (snowBy == AS_IT_GOES || snow == 100) {
                return snow >= SNOW_AS_IT_GOES;
            }
            standing.number = standing.number * 1103515245 + 12345 & Integer.MAX_VALUE;
            return standing.number / 65536 % 100 < snow;
        }

        private void goWalks(boolean snow) {
            Table walks = told.walks;
            for (int i = 0; i < walks.size && standing.day <= LAST_WALK_DAY; i++) {
                if (walks.cell(i, Told.WHEN) == standing.day) {
                    int walker = walks.cell(i, Told.WHO);
                    int path = walks.cell(i, Told.WHICH);
                    int cost = snow || walker == stays ? NONE : costIfHeCan(walker, path);
                    if (cost >= 0) {
                        goWhole(walker, path, cost);
                    } else {
                        standing.refused++;
                    }
                }
            }
        }

        private void growOlder(int path) {
            standing.age[path]++;
            long term = year;
            if (termAsked) {
                lookAt(path, NOBODY);
                term = told.laws.value(Laws.TERM, year);
            }
            if (standing.age[path] >= Math.max(1, Math.min(term, LONGEST_TERM))) {
                standing.kept &= ~(1 << path);
            }
        }

        /** What names in a law stand for from now on. */
        void lookAt(int path, int walker) {
            long[] names = told.laws.names;
            names[Tokens.LENGTH - Tokens.LENGTH] = told.paths.cell(path, Told.LENGTH);
            names[Tokens.STILE - Tokens.LENGTH] = told.paths.cell(path, Told.STILE);
            names[Tokens.AGE - Tokens.LENGTH] = standing.age[path];
            names[Tokens.LEGS - Tokens.LENGTH] = walker == NOBODY ? 0 : legs[walker];
            names[Tokens.PACE - Tokens.LENGTH] = walker == NOBODY ? 0 : standing.left[walker];
            names[Tokens.GONE - Tokens.LENGTH] = standing.gone[path];
            names[Tokens.DAY - Tokens.LENGTH] = standing.day;
        }

        /** What it costs him of his pace; below 0, if he can't go it. */
        int costIfHeCan(int walker, int path) {
            if ((told.ends(path) >> standing.at[walker] & 1) == 0 || !standing.isKept(path)) {
                return NONE;
            }
            if (bulls && told.isBullOn(path, standing.day)) {
                return NONE;
            }
            lookAt(path, walker);
            boolean overStile = told.paths.cell(path, Told.STILE) <= legs[walker];
            if (told.laws.value(Laws.MAY, overStile ? 1 : 0) == 0) {
                return NONE;
            }
            long asked = told.laws.value(Laws.COST, told.paths.cell(path, Told.LENGTH));
            int cost = (int) Math.max(0, Math.min(asked, HIGHEST_COST));
            return cost <= standing.left[walker] ? cost : NONE;
        }

        void goWhole(int walker, int path, int cost) {
            standing.left[walker] -= cost;
            int from = told.paths.cell(path, Told.FROM);
            standing.at[walker] = standing.at[walker] == from ? told.paths.cell(path, Told.TO) : from;
            standing.age[path] = 0;
            standing.gone[path] = Math.min(MOST_GONE, standing.gone[path] + 1);
            standing.done++;
        }
    }

    /** What was seen, in the order in which it was told, and what of it counts. */
    private static final class Seen {
        static final int THERE = 0;
        static final int ELSEWHERE = 1;
        static final int STRIKE = 2;
        static final int ALL = -1;

        private final int[] kind = new int[MOST_SEEN];
        private final int[] day = new int[MOST_SEEN];
        /** The walker; of a strike the number of what is struck. */
        private final int[] whom = new int[MOST_SEEN];
        private final int[] place = new int[MOST_SEEN];
        private final boolean[] counts = new boolean[MOST_SEEN];
        private int size;
        private int knownBy = ALL;
        /** The last day of which something that counts tells. */
        private int lastDay;
        /** By how many legs he is at each place, for the call that asks where to sit. */
        private final int[] hits = new int[MOST_PLACES];

        void empty() {
            size = 0;
            knownBy = ALL;
        }

        int knownSize() {
            return knownBy == ALL ? size : knownBy;
        }

        int add(int what, int behind, int who, int where) {
            if (size >= MOST_SEEN) {
                return NONE;
            }
            kind[size] = what;
            day[size] = behind;
            whom[size] = who;
            place[size] = where;
            size++;
            return size - 1;
        }

        /** Says what counts; from the last one on, since a strike is told behind what it strikes. */
        void sift() {
            int known = knownSize();
            lastDay = 0;
            for (int i = 0; i < MOST_SEEN; i++) {
                counts[i] = i < known;
            }
            for (int i = known - 1; i >= 0; i--) {
                if (!counts[i]) {
                    continue;
                }
                if (kind[i] == STRIKE && whom[i] < i) {
                    counts[whom[i]] = false;
                } else {
                    lastDay = Math.max(lastDay, day[i]);
                }
            }
        }

        /** Whether all that counts and tells of this day is so, if walkers are at these places. */
        boolean isSo(int behind, int[] at) {
            for (int i = 0; i < size; i++) {
                if (counts[i] && kind[i] != STRIKE && day[i] == behind) {
                    boolean there = at[whom[i]] == place[i];
                    if (there != (kind[i] == THERE)) {
                        return false;
                    }
                }
            }
            return true;
        }
    }

    /** Where paths lead. Sets of places and of paths are bits. */
    private static final class Ways {
        private static final int FAR = 1000000;
        /** How a day count and what is gone on its last day stand in one number, so that less of it is always better. */
        private static final int DAY_SHIFT = 7;
        private static final int DAY_MASK = 127;

        private final int[] lengths = new int[MOST_PLACES];
        /** The least by which a place is come to, by what was gone till then. */
        private final int[] least = new int[MOST_PLACES << MOST_PATHS];
        private final int[] choices = new int[MOST_WALKERS];
        private final int[] ages = new int[MOST_PATHS];
        private final int[] pick = new int[MOST_WALKERS];
        private final int[] bestPick = new int[MOST_WALKERS];
        private int bestSum;

        static int openFor(Told told, Standing standing, int walker) {
            int legs = told.walkers.cell(walker, Told.LEGS);
            int open = 0;
            for (int path = 0; path < told.paths.size; path++) {
                if (standing.isKept(path) && told.paths.cell(path, Told.STILE) <= legs) {
                    open |= 1 << path;
                }
            }
            return open;
        }

        /** The places that hang together with one by these paths, itself too. */
        static int spread(Told told, int place, int paths) {
            int places = 1 << place;
            int before = 0;
            for (int turn = 0; turn < MOST_PLACES && before != places; turn++) {
                before = places;
                for (int path = 0; path < told.paths.size; path++) {
                    int ends = told.ends(path);
                    if ((paths >> path & 1) != 0 && (places & ends) != 0) {
                        places |= ends;
                    }
                }
            }
            return places;
        }

        static int sets(Told told, int paths) {
            int sets = 0;
            for (int place = 0; place < told.places.size; place++) {
                int ahead = (1 << place) - 1;
                // each set is counted at its first place
                if ((spread(told, place, paths) & ahead) == 0) {
                    sets++;
                }
            }
            return sets;
        }

        static int pairs(Told told, int paths) {
            int twice = 0;
            for (int place = 0; place < told.places.size; place++) {
                twice += Integer.bitCount(spread(told, place, paths)) - 1;
            }
            return twice / 2;
        }

        static int blindEnds(Told told, int kept) {
            int blind = 0;
            for (int path = 0; path < told.paths.size; path++) {
                if ((kept >> path & 1) != 0 && (told.ends(path) & ~endsOfAll(told, kept & ~(1 << path))) != 0) {
                    blind |= 1 << path;
                }
            }
            return blind;
        }

        private static int endsOfAll(Told told, int paths) {
            int ends = 0;
            for (int path = 0; path < told.paths.size; path++) {
                if ((paths >> path & 1) != 0) {
                    ends |= told.ends(path);
                }
            }
            return ends;
        }

        static int fewestWatched(Told told, int kept) {
            int best = (1 << told.places.size) - 1;
            for (int places = best; places >= 0; places--) {
                if (Integer.bitCount(places) <= Integer.bitCount(best) && isWatched(told, kept, places)) {
                    best = places;
                }
            }
            return best;
        }

        private static boolean isWatched(Told told, int paths, int places) {
            for (int path = 0; path < told.paths.size; path++) {
                if ((paths >> path & 1) != 0 && (told.ends(path) & places) == 0) {
                    return false;
                }
            }
            return true;
        }

        int leastLength(Told told, Standing standing, int walker, int place) {
            int open = openFor(told, standing, walker);
            Arrays.fill(lengths, FAR);
            lengths[standing.at[walker]] = 0;
            boolean better = true;
            for (int turn = 0; turn < MOST_PLACES && better; turn++) {
                better = false;
                for (int path = 0; path < told.paths.size; path++) {
                    if ((open >> path & 1) != 0 && shorten(told, path)) {
                        better = true;
                    }
                }
            }
            return lengths[place] < FAR ? lengths[place] : NOT_SO;
        }

        private boolean shorten(Told told, int path) {
            int from = told.paths.cell(path, Told.FROM);
            int to = told.paths.cell(path, Told.TO);
            int length = told.paths.cell(path, Told.LENGTH);
            boolean better = false;
            if (lengths[from] + length < lengths[to]) {
                lengths[to] = lengths[from] + length;
                better = true;
            }
            if (lengths[to] + length < lengths[from]) {
                lengths[from] = lengths[to] + length;
                better = true;
            }
            return better;
        }

        /** The least length, or the fewest days, of a walk through all wanted paths. */
        int leastRound(Told told, Standing standing, int walker, int wanted, boolean byDays) {
            int open = openFor(told, standing, walker);
            if ((wanted & ~open) != 0) {
                return NOT_SO;
            }
            // no pace: the sum of lengths is asked
            int pace = byDays ? told.walkers.cell(walker, Told.PACE) : 0;
            int all = MOST_PLACES * (wanted + 1);
            for (int i = 0; i < all && i < least.length; i++) {
                least[i] = FAR;
            }
            // ahead of the first path no day is begun: nothing more can be gone on day 0
            least[standing.at[walker]] = pace;
            for (int gone = 0; gone <= wanted; gone++) {
                if ((gone & ~wanted) == 0) {
                    goOn(told, open, wanted, gone, pace);
                }
            }
            int best = FAR;
            for (int place = 0; place < told.places.size; place++) {
                best = Math.min(best, least[MOST_PLACES * wanted + place]);
            }
            if (best >= FAR) {
                return NOT_SO;
            }
            return byDays ? best >> DAY_SHIFT : best;
        }

        /** From all places by one set of gone paths on to all others by it, and on to larger sets. */
        private void goOn(Told told, int open, int wanted, int gone, int pace) {
            boolean better = true;
            for (int turn = 0; turn < MOST_PLACES && better; turn++) {
                better = false;
                for (int path = 0; path < told.paths.size; path++) {
                    if ((open >> path & 1) == 0) {
                        continue;
                    }
                    int then = gone | 1 << path & wanted;
                    int from = told.paths.cell(path, Told.FROM);
                    int to = told.paths.cell(path, Told.TO);
                    int length = told.paths.cell(path, Told.LENGTH);
                    boolean there = lessen(then * MOST_PLACES + to, least[gone * MOST_PLACES + from], length, pace);
                    boolean back = lessen(then * MOST_PLACES + from, least[gone * MOST_PLACES + to], length, pace);
                    better = better || then == gone && (there || back);
                }
            }
        }

        private boolean lessen(int index, int before, int length, int pace) {
            int by = before >= FAR ? FAR : before + length;
            if (pace > 0 && length > pace) {
                by = FAR;
            } else if (pace > 0 && before < FAR && (before & DAY_MASK) + length > pace) {
                by = (before >> DAY_SHIFT) + 1 << DAY_SHIFT | length;
            }
            if (by >= least[index]) {
                return false;
            }
            least[index] = by;
            return true;
        }

        void matchAll(Told told, Standing standing) {
            for (int walker = 0; walker < told.walkers.size; walker++) {
                int open = openFor(told, standing, walker);
                choices[walker] = 0;
                for (int path = 0; path < told.paths.size; path++) {
                    if ((open >> path & 1) != 0 && (told.ends(path) >> standing.at[walker] & 1) != 0) {
                        choices[walker] |= 1 << path;
                    }
                }
            }
            System.arraycopy(standing.age, 0, ages, 0, MOST_PATHS);
            Arrays.fill(pick, NOT_SO);
            bestSum = NONE;
            matchFrom(0, told.walkers.size, 0, 0);
        }

        /** Tries all picks from the first on, so that of several best ones the first one stays. */
        private void matchFrom(int walker, int walkers, int picked, int sum) {
            if (walker >= walkers || walker >= MOST_WALKERS) {
                if (sum > bestSum) {
                    bestSum = sum;
                    System.arraycopy(pick, 0, bestPick, 0, MOST_WALKERS);
                }
                return;
            }
            for (int path = 0; path < MOST_PATHS; path++) {
                int bit = 1 << path;
                if ((choices[walker] & ~picked & bit) != 0) {
                    pick[walker] = path;
                    matchFrom(walker + 1, walkers, picked | bit, sum + ages[path]);
                }
            }
            pick[walker] = NOT_SO;
            matchFrom(walker + 1, walkers, picked, sum);
        }
    }

    /** The squire and the parish; each state of the paths (free, taken, shut) is worked out once a game. */
    private static final class Game {
        static final int SQUIRE = 0;
        static final int PARISH = 1;
        private static final int[] POWERS_OF_THREE = {1, 3, 9, 27, 81, 243, 729, 2187, 6561};
        private static final int STATES = 19683;
        /** How many states are noted in one number, two bits each. */
        private static final int NOTED_SHIFT = 4;
        private static final int NOTED_MASK = 15;

        /** Whether a set of paths leads from one place to the other one. */
        private final boolean[] leads = new boolean[1 << MOST_PATHS];
        /** Who wins from a state on, and 1; 0, if it isn't worked out yet. */
        private final int[] winners = new int[(STATES >> NOTED_SHIFT) + 1];
        private int kept;

        void begin(Told told, int paths, int one, int other) {
            Arrays.fill(winners, 0);
            kept = paths;
            for (int set = 0; set <= kept; set++) {
                if ((set & ~kept) == 0) {
                    leads[set] = leads[set & set - 1] || (Ways.spread(told, one, set) >> other & 1) != 0;
                }
            }
        }

        int winner(int first) {
            return winnerFrom(0, 0, 0, first);
        }

        int firstMove(int first) {
            for (int path = 0; path < MOST_PATHS; path++) {
                if ((kept >> path & 1) != 0 && winnerBehind(0, 0, 0, first, path) == first) {
                    return path;
                }
            }
            return NOT_SO;
        }

        /** Who wins, if the one whose turn it is moves on this path. */
        private int winnerBehind(int taken, int shut, int state, int turn, int path) {
            int bit = 1 << path;
            int power = POWERS_OF_THREE[path];
            if (turn == PARISH) {
                return winnerFrom(taken | bit, shut, state + power, SQUIRE);
            }
            return winnerFrom(taken, shut | bit, state + 2 * power, PARISH);
        }

        /** Goes no deeper than there are paths: each move leaves one free path less. */
        private int winnerFrom(int taken, int shut, int state, int turn) {
            if (leads[taken]) {
                return PARISH;
            }
            if (!leads[kept & ~shut]) {
                return SQUIRE;
            }
            int row = state >> NOTED_SHIFT;
            int shift = (state & NOTED_MASK) << 1;
            int noted = winners[row] >> shift & 3;
            if (noted != 0) {
                return noted - 1;
            }
            int winner = 1 - turn;
            int free = kept & ~taken & ~shut;
            for (int path = 0; path < MOST_PATHS && winner != turn; path++) {
                if ((free >> path & 1) != 0) {
                    winner = winnerBehind(taken, shut, state, turn, path);
                }
            }
            winners[row] |= winner + 1 << shift;
            return winner;
        }
    }
}
