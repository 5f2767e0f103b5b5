import java.util.NoSuchElementException;

/** For each promise of the document: ordinary inputs, the edges that it names, and wrong inputs. */
public final class PathsKeptPromises {
    private static final String VALLEY = "place home;place mill;place inn;place wood;"
        + "path lane home mill 4 1 10;path ford mill inn 6 5 20;path hill inn home 9 2 5;path dell inn wood 3 0 0;"
        + "walker ann home 3 12;walker bob inn 6 5;"
        + "walk ann lane 0;walk bob dell 1;walk ann ford 1;bull hill 1 2;year 30;";
    private static final int LANE = 0;
    private static final int FORD = 1;
    private static final int HILL = 2;
    private static final int DELL = 3;
    private static final int ANN = 0;
    private static final int BOB = 1;
    private static final int HOME = 0;
    private static final int MILL = 1;
    private static final int INN = 2;
    private static final int WOOD = 3;
    private static final int NOBODY = 2;
    private static final int NOWHERE = 4;
    private static final int NO_PATH = 4;

    private static int checks;
    private static int wrong;

    private static void due(String call, long got, long want) {
        checks++;
        if (got != want) {
            wrong++;
            System.out.println(call + " answered " + got + ", due is " + want);
        }
    }

    private static void due(String call, boolean got, boolean want) {
        due(call, got ? 1 : 0, want ? 1 : 0);
    }

    private static void feed(PathsKept x, String text) {
        for (int i = 0; i < text.length(); i += 20) {
            int[] five = new int[5];
            for (int k = 0; k < 20; k++) {
                five[k / 4] = five[k / 4] << 8 | (i + k < text.length() ? text.charAt(i + k) : ' ');
            }
            x.feed(five[0], five[1], five[2], five[3], five[4]);
        }
    }

    private static int tell(PathsKept x, String text) {
        feed(x, text);
        return x.text(text.length());
    }

    private static PathsKept told(String text) {
        PathsKept x = new PathsKept();
        int lines = tell(x, text);
        if (lines < 0) {
            wrong++;
            System.out.println("a fault " + x.fault(0) + " at " + x.fault(1) + " in " + text);
        }
        return x;
    }

    private static void fault(String text, int fault, int place) {
        PathsKept x = new PathsKept();
        due("text of " + text, tell(x, text), -1);
        due("fault(0) of " + text, x.fault(0), fault);
        due("fault(1) of " + text, x.fault(1), place);
    }

    private static void fine(String text, int lines) {
        PathsKept x = new PathsKept();
        due("text of " + text, tell(x, text), lines);
        due("fault(0) of " + text, x.fault(0), 0);
        due("fault(1) of " + text, x.fault(1), -1);
    }

    private static int letters(String name) {
        int bits = 0;
        for (int i = 0; i < 6; i++) {
            bits = bits << 5 | (i < name.length() ? name.charAt(i) - 'a' + 1 : 0);
        }
        return bits;
    }

    public static void main(String[] args) {
        newObject();
        feeding();
        texts();
        faults();
        faultsOfLaws();
        names();
        paths();
        walkers();
        laws();
        values();
        walking();
        mowing();
        carrying();
        going();
        days();
        snow();
        ahead();
        lapsing();
        reaching();
        ways();
        rounds();
        needed();
        blind();
        watching();
        matching();
        games();
        resting();
        tries();
        clear();
        seeing();
        knowing();
        legs();
        sitting();
        chance();
        tried();
        undoing();
        images();
        counting();
        System.out.println(checks + " checks, " + wrong + " wrong");
        if (wrong != 0) {
            System.exit(1);
        }
    }

    // promise 1
    private static void newObject() {
        PathsKept x = new PathsKept();
        for (int what = 0; what <= 12; what++) {
            due("new: count(" + what + ")", x.count(what), 0);
        }
        due("new: text(1)", x.text(1), -2);
        due("new: text(0)", x.text(0), 0);
        due("new: fault(0)", new PathsKept().fault(0), 0);
        due("new: fault(1)", new PathsKept().fault(1), -1);
        due("new: go(400)", x.go(400), 400);
        due("new: tries(100)", x.tries(100), 1);
    }

    // promise 2
    private static void feeding() {
        PathsKept x = new PathsKept();
        for (int i = 1; i <= 35; i++) {
            due("feed " + i, x.feed(0, 0, 0, 0, 0), 20 * i);
        }
        due("feed beyond 700", x.feed(0, 0, 0, 0, 0), -1);
        due("the tape stays", x.text(701), -2);
        due("a whole tape is read", x.text(700), -1);
        due("its first byte", x.fault(1), 0);
        due("it is empty then", x.feed(0, 0, 0, 0, 0), 20);
        x = new PathsKept();
        due("highest first", x.feed(0x706c6163, 0x65206162, 0x3b20200a, 0xffffffff, 0x80000000), 20);
        due("highest first", x.text(12), 1);
        due("highest first", x.named(0, letters("ab")), 0);
    }

    // promise 3
    private static void texts() {
        PathsKept x = told(VALLEY);
        due("lines", tell(x, VALLEY), 15);
        due("text(-1)", x.text(-1), -2);
        feed(x, "place a;place b;    ");
        due("too many", x.text(21), -2);
        due("too few are fine", x.text(8), 1);
        due("the tape is empty then", x.text(1), -2);
        due("one place", x.count(0), 1);

        x = told(VALLEY);
        x.see(1, ANN, MILL, true);
        x.known(0);
        x.walk(ANN, LANE);
        x.keep();
        x.go(2);
        x.mow(HILL);
        due("a fault", tell(x, "place a;place"), -1);
        due("all stays: day", x.count(5), 2);
        due("all stays: paths", x.count(1), 4);
        due("all stays: seen", x.count(10), 1);
        due("all stays: undo", x.count(12), 1);
        due("all stays: image", x.back(), 0);
        due("all stays: image", x.walker(ANN, 0), MILL);
        x.walk(BOB, DELL);
        x.keep();
        due("told again", tell(x, VALLEY), 15);
        due("day 0", x.count(5), 0);
        due("none seen", x.count(10), 0);
        due("nothing to undo", x.undo(), -1);
        due("no image", x.back(), -1);
        due("never gone", x.path(DELL, 6), 0);
        due("walks done", x.count(7), 0);
        due("age as told", x.path(LANE, 4), 10);
        x.see(1, ANN, MILL, true);
        due("all known", x.count(11), 1);
        due("an empty text", tell(x, ""), 0);
        due("no places then", x.count(0), 0);
        due("blanks alone", tell(x, " \n  "), 0);
        due("blanks between", tell(x, "\nplace\na ;place b  ;\n path p a b1 1 1;"), 3);
    }

    // promises 3 and 4
    private static void faults() {
        PathsKept x = told(VALLEY);
        due("fault(0)", x.fault(0), 0);
        due("fault(1)", x.fault(1), -1);
        due("fault(2)", x.fault(2), -1);
        due("fault(-1)", x.fault(-1), -1);
        tell(x, "places a;");
        x.text(5);
        due("fault(0) behind -2", x.fault(0), 1);
        due("fault(1) behind -2", x.fault(1), 0);
        due("fault(2) with one", x.fault(2), -1);

        fault(";", 1, 0);
        fault("place a;;", 1, 8);
        fault("place", 1, 5);
        fault("place a", 1, 7);
        fault("place a  ", 1, 9);
        fault("place day;", 1, 6);
        fault("place abcdefg;", 1, 6);
        fault("place 1;", 1, 6);
        fault("place A;", 1, 6);
        fault("place a1;", 1, 7);
        fault("place\ta;", 1, 5);
        fault("place a;" + (char) 225, 1, 8);
        fault("year x;", 1, 5);
        fault("year 5a;", 1, 6);
        fault("age 5;", 1, 0);
        fine("place abcdef;place a;", 2);
        fine("place a;place b;path a a b 1 0 0;walker a a 0 1;", 4);

        String eight = "place a;place b;place c;place d;place e;place f;place g;";
        fine(eight, 7);
        fault(eight + "place ;", 2, 56);
        String two = "place a;place b;";
        StringBuilder many = new StringBuilder(two);
        for (char c = 'a'; c < 'j'; c++) {
            many.append("path ").append(c).append(" a b 1 0 0;");
        }
        fine(many.toString(), 11);
        fault(many + "path z a b 1 0 0;", 2, many.length());
        many = new StringBuilder(two);
        for (char c = 'a'; c < 'e'; c++) {
            many.append("walker ").append(c).append(" a 9 99;");
        }
        fine(many.toString(), 6);
        fault(many + "walker z a 1 1;", 2, many.length());
        String base = two + "path p a b 99 9 399;walker w b 0 1;";
        many = new StringBuilder(base);
        for (int i = 0; i < 12; i++) {
            many.append("walk w p 99;");
        }
        fine(many.toString(), 16);
        fault(many + "walk w p 0;", 2, many.length());
        many = new StringBuilder(base);
        for (int i = 0; i < 6; i++) {
            many.append("bull p 99 0;");
        }
        fine(many.toString(), 10);
        fault(many + "bull p 0 0;", 2, many.length());

        fault(two + "path p a b 0 0 0;", 2, 27);
        fault(two + "path p a b 100 0 0;", 2, 27);
        fault(two + "path p a b 1 10 0;", 2, 29);
        fault(two + "path p a b 1 0 400;", 2, 31);
        fault(two + "walker w a 10 1;", 2, 27);
        fault(two + "walker w a 0 0;", 2, 29);
        fault(two + "walker w a 0 100;", 2, 29);
        fault(base + "walk w p 100;", 2, base.length() + 9);
        fault(base + "bull p 100 0;", 2, base.length() + 7);
        fault(base + "bull p 0 100;", 2, base.length() + 9);
        fault("year 0;", 2, 5);
        fault("year 401;", 2, 5);
        fault("snow 101;", 2, 5);
        fault("seed 100000;", 2, 5);
        fault("seed 99999999999999999999;", 2, 5);
        fine("year 400;snow 100;seed 99999;", 3);
        fine("year 000001;snow 0;seed 0;", 3);

        fault("place a;place a;", 3, 14);
        fault(base + "path p x y;", 3, base.length() + 5);
        fault(base + "walker w x;", 3, base.length() + 7);
        fault("year 1;year 1;", 3, 7);
        fault("snow 1;snow 1;", 3, 7);
        fault("seed 1;seed 1;", 3, 7);
        fault("place a;walker w b 1 1;", 4, 17);
        fault("place a;path p b a 1 1 1;", 4, 15);
        fault("place a;path p a b 1 1 1;", 4, 17);
        fault(base + "walk p p 1;", 4, base.length() + 5);
        fault(base + "walk w w 1;", 4, base.length() + 7);
        fault(base + "bull w 1 1;", 4, base.length() + 5);
        fault(two + "path p a a 0;", 5, 25);
        fault(two + "path p a day;", 1, 25);
        fault("place a;place a$", 3, 14);
    }

    private static void faultsOfLaws() {
        fault("law;", 1, 3);
        fault("law day 1;", 1, 4);
        fault("law term;", 1, 8);
        fault("law term", 1, 8);
        fault("law term x;", 1, 9);
        fault("law term term;", 1, 9);
        fault("law term 1 2;", 1, 11);
        fault("law term 1 +;", 1, 12);
        fault("law term - 1;", 1, 9);
        fault("law term 1 < 2 < 3;", 1, 15);
        fault("law term 1 < not 2;", 1, 13);
        fault("law term 1 + not 2;", 1, 13);
        fault("law term 1 < = 2;", 1, 13);
        fault("law term 1 == 2;", 1, 12);
        fault("law term 1 => 2;", 1, 12);
        fault("law term ();", 1, 10);
        fault("law term (1;", 1, 11);
        fault("law term 1);", 1, 10);
        fault("law term 1 not 2;", 1, 11);
        fault("law term 1;law term 1;", 3, 15);
        fault("law term 10000;", 2, 9);
        fine("law term 9999;law may 0;law cost 1;", 3);
        fine("law may not not 1<2 and(1<2)<3 or 1<>2;", 1);
        fine("law may ((((((((1))))))))+((((((((1))))))));", 1);
        fault("law may 1+(((((((((1)))))))));", 2, 18);
        // 32 numbers and 31 signs in the first law
        StringBuilder sum = new StringBuilder("law may 1");
        for (int i = 0; i < 31; i++) {
            sum.append("+1");
        }
        fine(sum + ";law term 1;", 2);
        due("64 knots", told(sum + ";law term 1;").count(4), 64);
        fault(sum + ";law term 1+1;", 2, sum.length() + 11);
        fault(sum + ";law term not 1;", 2, sum.length() + 14);
        fault(sum + ";law term (1+y);", 2, sum.length() + 12);
        fault(sum + ";law term 1 y;", 1, sum.length() + 12);
        fault(sum + ";law term 1;law cost (y);", 1, sum.length() + 22);
        due("brackets are no knots", told("law may ((1)+(2));").count(4), 3);
    }

    // promise 5
    private static void names() {
        PathsKept x = told("place abcdef;place a;path b abcdef a 1 1 1;path a a abcdef 1 1 1;walker zz a 1 1;");
        due("named abcdef", x.named(0, letters("abcdef")), 0);
        due("named a", x.named(0, letters("a")), 1);
        due("a is highest of six", x.named(0, 1 << 25), 1);
        due("path b", x.named(1, letters("b")), 0);
        due("path a", x.named(1, letters("a")), 1);
        due("walker zz", x.named(2, letters("zz")), 0);
        due("no place b", x.named(0, letters("b")), -1);
        due("no walker z", x.named(2, letters("z")), -1);
        due("a lowest", x.named(0, 1), -1);
        due("no letters", x.named(0, 0), -1);
        due("what 3", x.named(3, letters("a")), -1);
        due("what -1", x.named(-1, letters("a")), -1);
    }

    // promise 6
    private static void paths() {
        PathsKept x = told(VALLEY);
        long[][] asTold = {{0, 1, 4, 1, 10, 1, 0, 0}, {1, 2, 6, 5, 20, 1, 0, 0}, {2, 0, 9, 2, 5, 1, 0, 0}, {2, 3, 3, 0, 0, 1, 0, 0}};
        for (int p = 0; p < 4; p++) {
            for (int what = 0; what < 8; what++) {
                due("path(" + p + ", " + what + ")", x.path(p, what), asTold[p][what]);
            }
        }
        x.go(1);
        due("gone on day 0", x.path(LANE, 6), 1);
        due("one older", x.path(LANE, 4), 1);
        due("a bull on day 1", x.path(HILL, 7), 1);
        due("no bull elsewhere", x.path(LANE, 7), 0);
        x.go(1);
        due("a bull on day 2", x.path(HILL, 7), 1);
        x.go(1);
        due("none on day 3", x.path(HILL, 7), 0);
        due("none, if the second is less", told("place a;place b;path p a b 1 1 1;bull p 1 0;").path(0, 7), 0);
        x.go(6);
        due("ford is kept on day 9", x.path(FORD, 5), 1);
        x.go(1);
        due("and grass on day 10", x.path(FORD, 5), 0);
        x.go(5);
        due("grass grows no older", x.path(FORD, 4), 30);
        due("path(-1, 0)", thrown(x, -1, 0), 1);
        due("path(4, 0)", thrown(x, NO_PATH, 0), 1);
        due("path(4, 8)", thrown(x, NO_PATH, 8), 1);
        due("path(0, -1)", thrown(x, 0, -1), 2);
        due("path(0, 8)", thrown(x, 0, 8), 2);
        due("path(0, 7)", thrown(x, 0, 7), 0);
        due("path(MIN, 0)", thrown(x, Integer.MIN_VALUE, 0), 1);
    }

    private static int thrown(PathsKept x, int path, int what) {
        try {
            x.path(path, what);
            return 0;
        } catch (IndexOutOfBoundsException e) {
            return e.getClass() == IndexOutOfBoundsException.class ? 1 : 3;
        } catch (NoSuchElementException e) {
            return 2;
        }
    }

    // promise 7
    private static void walkers() {
        PathsKept x = told(VALLEY);
        due("ann's place", x.walker(ANN, 0), HOME);
        due("ann's legs", x.walker(ANN, 1), 3);
        due("ann's pace", x.walker(ANN, 2), 12);
        due("ann has left", x.walker(ANN, 3), 12);
        due("ann can go", x.walker(ANN, 4), 1 << LANE | 1 << HILL);
        due("bob can go", x.walker(BOB, 4), 1 << DELL);
        x.walk(ANN, LANE);
        due("ann has left", x.walker(ANN, 3), 8);
        due("ann's pace stays", x.walker(ANN, 2), 12);
        due("the stile of ford is too high", x.walker(ANN, 4), 1 << LANE);
        x.go(1);
        due("all pace again", x.walker(ANN, 3), 12);
        x.carry(ANN, INN);
        due("a bull is on hill", x.walker(ANN, 4), 1 << DELL);
        x.go(2);
        due("none any more", x.walker(ANN, 4), 1 << DELL | 1 << HILL);
        due("snow isn't asked", told("place a;place b;path p a b 1 0 0;walker w a 1 1;snow 100;").walker(0, 4), 1);
        due("no such walker", x.walker(NOBODY, 0), -1);
        due("no such walker", x.walker(-1, 0), -1);
        due("no such what", x.walker(ANN, 5), -1);
        due("no such what", x.walker(ANN, -1), -1);
    }

    // promise 8
    private static void laws() {
        String text = "place a;place b;place c;path p a b 6 3 2;path q b c 7 1 9;walker v a 2 20;walker w b 5 30;";
        PathsKept x = told(text + "law term length*100+stile*10+legs+pace;law may legs*100+pace;law cost age*100+gone*10+day;");
        due("term of p", x.law(0, 0, 0), 630);
        due("term of q, nobody looked at", x.law(0, 1, 99), 710);
        due("may of v", x.law(1, 0, 0), 220);
        due("may of w", x.law(1, 0, 1), 530);
        due("cost of p", x.law(2, 0, 0), 200);
        due("cost of q", x.law(2, 1, 0), 900);
        due("no such path", x.law(0, 2, 0), Long.MIN_VALUE);
        due("no such path", x.law(1, -1, 0), Long.MIN_VALUE);
        due("no such walker", x.law(1, 0, 2), Long.MIN_VALUE);
        due("no such walker", x.law(2, 0, -1), Long.MIN_VALUE);
        due("no such what", x.law(3, 0, 0), Long.MIN_VALUE);
        due("no such what", x.law(-1, 0, 0), Long.MIN_VALUE);
        x.go(3);
        due("cost on day 3", x.law(2, 0, 0), 503);
        due("no such law", told(text + "law may 1;").law(0, 0, 0), Long.MIN_VALUE);
        due("not clamped", told(text + "law cost 0-500;").law(2, 0, 0), -500);
        x = told(text + "law may pace;law cost 8;");
        due("walks", x.walk(0, 0), 12);
        due("what is left of pace", x.law(1, 0, 0), 12);
        x.mow(1);
        due("gone", told(text + "law term gone;").law(0, 0, 0), 0);
        x = told(text + "law term gone;law may 1;");
        x.walk(0, 0);
        x.walk(0, 0);
        due("gone twice", x.law(0, 0, 0), 2);
    }

    private static long worth(String expression) {
        return told("place a;place b;path p a b 6 3 2;law term " + expression + ";").law(0, 0, 0);
    }

    private static void values() {
        long error = Long.MIN_VALUE;
        due("1+2*3", worth("1+2*3"), 7);
        due("(1+2)*3", worth("(1+2)*3"), 9);
        due("10-3-2", worth("10-3-2"), 5);
        due("100/7/2", worth("100/7/2"), 7);
        due("cut towards 0", worth("(0-7)/2"), -3);
        due("/ 0", worth("1/0"), error);
        due("/ (3-stile)", worth("1/(3-stile)"), error);
        due("both sides are worked out", worth("1 or 1/0"), error);
        due("both sides are worked out", worth("0 and 1/0"), error);
        due("1 or 0 and 0", worth("1 or 0 and 0"), 1);
        due("(1 or 0) and 0", worth("(1 or 0) and 0"), 0);
        due("5 and 7", worth("5 and 7"), 1);
        due("0 or 7", worth("0 or 7"), 1);
        due("0 or 0", worth("0 or 0"), 0);
        due("not 0", worth("not 0"), 1);
        due("not 7", worth("not 7"), 0);
        due("not not 7", worth("not not 7"), 1);
        due("not 1 = 2", worth("not 1 = 2"), 1);
        due("not 0 and 0", worth("not 0 and 0"), 0);
        due("(not 1) = 0", worth("(not 1) = 0"), 1);
        due("1<2", worth("1<2"), 1);
        due("2<2", worth("2<2"), 0);
        due("2<=2", worth("2<=2"), 1);
        due("3<=2", worth("3<=2"), 0);
        due("2=2", worth("2=2"), 1);
        due("2=3", worth("2=3"), 0);
        due("2<>3", worth("2<>3"), 1);
        due("2<>2", worth("2<>2"), 0);
        due("2>=2", worth("2>=2"), 1);
        due("1>=2", worth("1>=2"), 0);
        due("3>2", worth("3>2"), 1);
        due("2>2", worth("2>2"), 0);
        due("1+1<3", worth("1+1<3"), 1);
        due("10 to the 12", worth("1000*1000*1000*1000"), 1000000000000L);
        due("beyond", worth("1000*1000*1000*1000+1"), error);
        due("beyond, and back", worth("1000*1000*1000*1000+1-1"), error);
        due("below", worth("0-1000*1000*1000*1000"), -1000000000000L);
        due("below", worth("0-1000*1000*1000*1000-1"), error);
        due("far beyond a long", worth("(1000*1000*1000*1000)*(1000*1000*1000*1000)"), error);
        due("far beyond a long, wrapped", worth("(8192*8192*8192)*(8192*8192*8192)"), error);
        due("by 0", worth("0*(1000*1000*1000*1000)"), 0);
    }

    // promise 9
    private static void walking() {
        PathsKept x = told(VALLEY);
        due("ann goes lane", x.walk(ANN, LANE), 8);
        due("she is at the mill", x.walker(ANN, 0), MILL);
        due("lane was gone", x.path(LANE, 6), 1);
        due("its age", x.path(LANE, 4), 0);
        due("and back", x.walk(ANN, LANE), 4);
        due("at home", x.walker(ANN, 0), HOME);
        due("hill is too long now", x.walk(ANN, HILL), -2);
        due("she isn't there", x.walk(ANN, DELL), -2);
        due("exactly what is left", x.walk(ANN, LANE), 0);
        due("nothing is left", x.walk(ANN, LANE), -2);
        due("ford is too long for bob", x.walk(BOB, FORD), -2);
        due("walks done", x.count(7), 3);
        due("none refused by call", x.count(8), 0);
        due("no such walker", x.walk(NOBODY, LANE), -1);
        due("no such walker", x.walk(-1, LANE), -1);
        due("no such path", x.walk(ANN, NO_PATH), -1);
        due("no such path", x.walk(ANN, -1), -1);
        x.go(1);
        x.carry(ANN, HOME);
        due("a bull", x.walk(ANN, HILL), -2);

        String text = "place a;place b;path p a b 6 3 2;walker w a 2 20;";
        due("stile above legs", told(text).walk(0, 0), -2);
        due("may", told(text + "law may 0-1;").walk(0, 0), 14);
        due("may not", told(text + "law may 0;").walk(0, 0), -2);
        due("may with an error", told(text + "law may 1/0;").walk(0, 0), -2);
        due("may with an error", told("place a;place b;path p a b 6 2 2;walker w a 2 20;law may 1/0;").walk(0, 0), 14);
        due("cost", told(text + "law may 1;law cost 20;").walk(0, 0), 0);
        due("cost", told(text + "law may 1;law cost 21;").walk(0, 0), -2);
        due("cost below 0", told(text + "law may 1;law cost 0-5;").walk(0, 0), 20);
        due("cost with an error", told(text + "law may 1;law cost 1/0;").walk(0, 0), 14);
        due("cost above 99", told("place a;place b;path p a b 6 3 2;walker w a 5 99;law cost 500;").walk(0, 0), 0);
        x = told(text + "law may 1;year 3;");
        x.go(1);
        due("grass", x.walk(0, 0), -2);
    }

    // promise 10
    private static void mowing() {
        PathsKept x = told(VALLEY);
        due("mow", x.mow(LANE), true);
        due("age", x.path(LANE, 4), 0);
        due("it is so", x.mow(LANE), false);
        due("dell is so at first", x.mow(DELL), false);
        due("no such path", x.mow(NO_PATH), false);
        due("no such path", x.mow(-1), false);
        due("gone stays", x.path(LANE, 6), 0);
        x.go(10);
        due("ford is grass", x.path(FORD, 5), 0);
        due("mow it", x.mow(FORD), true);
        due("kept", x.path(FORD, 5), 1);
        due("age", x.path(FORD, 4), 0);
        due("gone once on day 0", x.path(LANE, 6), 1);
        x.mow(LANE);
        due("gone stays", x.path(LANE, 6), 1);
        // a path whose age was 0 when it came to grass can't be: it is 1 older first
        x = told("place a;place b;path p a b 1 1 0;year 1;");
        x.go(1);
        due("grass at 1", x.path(0, 5), 0);
        due("mown", x.mow(0), true);
    }

    // promise 11
    private static void carrying() {
        PathsKept x = told(VALLEY);
        due("carry", x.carry(ANN, WOOD), true);
        due("there", x.walker(ANN, 0), WOOD);
        due("he is there", x.carry(ANN, WOOD), false);
        due("pace stays", x.walker(ANN, 3), 12);
        due("no such walker", x.carry(NOBODY, HOME), false);
        due("no such walker", x.carry(-1, HOME), false);
        due("no such place", x.carry(ANN, NOWHERE), false);
        due("no such place", x.carry(ANN, -1), false);
        due("no walk", x.count(7), 0);
    }

    // promise 12
    private static void going() {
        PathsKept x = told(VALLEY);
        due("go(0)", x.go(0), 0);
        due("go(1)", x.go(1), 1);
        due("go(400)", x.go(400), 401);
        due("go(401)", x.go(401), -1);
        due("go(-1)", x.go(-1), -1);
        due("none went by", x.count(5), 401);
        for (int i = 0; i < 21; i++) {
            x.go(400);
        }
        due("go to 9000", x.go(199), 9000);
        due("behind 9000", x.go(1), -1);
        due("go(0) at 9000", x.go(0), 9000);
    }

    private static void days() {
        PathsKept x = told(VALLEY);
        x.go(1);
        due("ann went", x.walker(ANN, 0), MILL);
        due("done", x.count(7), 1);
        due("refused", x.count(8), 0);
        x.go(1);
        due("bob went", x.walker(BOB, 0), WOOD);
        due("ann didn't", x.walker(ANN, 0), MILL);
        due("done", x.count(7), 2);
        due("refused", x.count(8), 1);
        due("age of dell", x.path(DELL, 4), 1);
        due("age of ford", x.path(FORD, 4), 22);
        // what was gone by call counts on that day
        x = told(VALLEY);
        x.walk(ANN, HILL);
        x.carry(ANN, HOME);
        x.go(1);
        due("too little pace is left", x.count(8), 1);
        // by their numbers, on one day
        x = told("place a;place b;place c;path p a b 4 0 0;path q b c 4 0 0;walker w a 0 9;walk w q 0;walk w p 0;walk w q 0;walk w q 0;");
        x.go(1);
        due("the second q is gone, the third costs too much", x.walker(0, 0), 2);
        due("done", x.count(7), 2);
        due("refused", x.count(8), 2);
        // a path is grass when its age comes to the term
        x = told("place a;place b;path p a b 5 2 3;law term age*0+length+gone+day;");
        x.go(400);
        due("day + 5 is never reached from 3", x.path(0, 5), 1);
        x = told("place a;place b;path p a b 5 2 3;law term length;");
        x.go(1);
        due("4 of 5", x.path(0, 5), 1);
        x.go(1);
        due("5 of 5", x.path(0, 5), 0);
        x = told("place a;place b;path p a b 5 2 0;law term 0-9;");
        x.go(1);
        due("a term of 1 at least", x.path(0, 5), 0);
        x = told("place a;place b;path p a b 5 2 399;law term 9999*9;");
        for (int i = 0; i < 22; i++) {
            x.go(400);
        }
        x.go(200);
        due("a long term", x.path(0, 4), 9399);
        due("a long term", x.path(0, 5), 1);
        x = told("place a;place b;path p a b 5 2 3;law term 1/0;year 5;");
        x.go(2);
        due("an error: the year", x.path(0, 5), 0);
        x = told("place a;place b;path p a b 5 2 399;");
        x.go(1);
        due("366 without", x.path(0, 5), 0);
        x = told("place a;place b;path p a b 5 2 364;");
        x.go(1);
        due("365", x.path(0, 5), 1);
        x.go(1);
        due("366", x.path(0, 5), 0);
        // walkers whose term is asked: legs and pace are 0
        x = told("place a;place b;path p a b 5 2 0;walker w a 9 50;law term 3+legs+pace;");
        x.go(3);
        due("term of nobody", x.path(0, 5), 0);
    }

    private static String snowy(int snow, int seed) {
        return "place a;place b;path p a b 1 0 0;walker w a 0 9;walk w p 0;walk w p 1;walk w p 2;walk w p 3;snow " + snow + ";seed " + seed + ";";
    }

    private static void snow() {
        // from seed 1 the numbers are 16838, 5758, 10113, 17515: 38, 58, 13, 15
        PathsKept x = told(snowy(39, 1));
        x.go(1);
        due("snow at 38 of 39", x.count(8), 1);
        x.go(1);
        due("none at 58", x.count(7), 1);
        x.go(2);
        due("snow at 13 and 15", x.count(8), 3);
        x = told(snowy(38, 1));
        x.go(1);
        due("none at 38 of 38", x.count(7), 1);
        x = told(snowy(100, 1));
        x.go(4);
        due("always at 100", x.count(8), 4);
        x = told(snowy(0, 1));
        x.go(4);
        due("never at 0", x.count(7), 4);
        x = told(snowy(39, 1));
        x.go(4);
        x.keep();
        x.back();
        due("path gone once", x.path(0, 6), 1);
    }

    // promise 13
    private static void ahead() {
        PathsKept x = told(VALLEY);
        due("kept", x.ahead(9, 0, 77), 4);
        due("kept", x.ahead(10, 0, -5), 3);
        due("done", x.ahead(2, 1, 77), 2);
        due("refused", x.ahead(2, 2, 77), 1);
        due("ann", x.ahead(1, 3, ANN), MILL);
        due("bob", x.ahead(2, 3, BOB), WOOD);
        due("age", x.ahead(2, 4, LANE), 2);
        due("age", x.ahead(2, 4, HILL), 7);
        due("now", x.ahead(0, 0, 0), 4);
        due("now", x.ahead(0, 4, FORD), 20);
        due("400", x.ahead(400, 0, 0), 0);
        due("401", x.ahead(401, 0, 0), -1);
        due("-1", x.ahead(-1, 0, 0), -1);
        due("no such walker", x.ahead(1, 3, NOBODY), -1);
        due("no such walker", x.ahead(1, 3, -1), -1);
        due("no such path", x.ahead(1, 4, NO_PATH), -1);
        due("no such what", x.ahead(1, 5, 0), -1);
        due("no such what", x.ahead(1, -1, 0), -1);
        due("nothing went by", x.count(5), 0);
        x.go(1);
        due("done more", x.ahead(1, 1, 0), 1);
        due("refused more", x.ahead(1, 2, 0), 1);
        due("snow at 50", told(snowy(50, 1)).ahead(4, 2, 0), 4);
        due("none at 49", told(snowy(49, 1)).ahead(4, 1, 0), 4);
        x = told(snowy(39, 1));
        x.ahead(3, 0, 0);
        x.go(1);
        due("no number is drawn ahead", x.count(8), 1);
    }

    // promise 14
    private static void lapsing() {
        PathsKept x = told(VALLEY);
        due("ford", x.lapse(FORD), 10);
        due("lane is gone on day 0", x.lapse(LANE), 30);
        due("hill", x.lapse(HILL), 25);
        due("dell is gone on day 1", x.lapse(DELL), 31);
        x.go(9);
        due("this one", x.lapse(FORD), 1);
        x.go(1);
        due("it is", x.lapse(FORD), 0);
        due("no such path", x.lapse(NO_PATH), -1);
        due("no such path", x.lapse(-1), -1);
        due("399", told("place a;place b;path p a b 1 1 0;law term 399;").lapse(0), 399);
        due("not by then", told("place a;place b;path p a b 1 1 0;law term 400;").lapse(0), -2);
    }

    // promise 15
    private static void reaching() {
        PathsKept x = told(VALLEY);
        due("ann", x.reach(ANN), 15);
        due("bob", x.reach(BOB), 15);
        due("nobody", x.reach(NOBODY), -1);
        due("nobody", x.reach(-1), -1);
        x.go(25);
        due("hill is grass", x.path(HILL, 5), 0);
        due("ann at the mill", x.reach(ANN), 3);
        due("bob in the wood", x.reach(BOB), 12);
        x = told("place a;place b;place c;path p a b 50 3 0;path q b c 50 4 0;walker w a 3 1;bull p 0 99;law may 0;");
        due("laws, bulls, pace aren't asked", x.reach(0), 3);
    }

    // promise 16
    private static void ways() {
        PathsKept x = told(VALLEY);
        due("he is there", x.way(ANN, HOME), 0);
        due("mill", x.way(ANN, MILL), 4);
        due("inn, not by the ford", x.way(ANN, INN), 9);
        due("wood", x.way(ANN, WOOD), 12);
        due("bob to home: 9", x.way(BOB, HOME), 9);
        due("bob to the mill by the ford", x.way(BOB, MILL), 6);
        due("nobody", x.way(NOBODY, HOME), -1);
        due("nowhere", x.way(ANN, NOWHERE), -1);
        due("nowhere", x.way(ANN, -1), -1);
        x.go(25);
        due("none", x.way(ANN, WOOD), -2);
        x = told("place a;place b;place c;place d;path p a b 1 0 0;path q b c 1 0 0;path r c d 1 0 0;path s a d 4 0 0;path t d a 5 0 0;walker w a 0 1;");
        due("three short ones", x.way(0, 3), 3);
    }

    // promise 17
    private static void rounds() {
        PathsKept x = told(VALLEY);
        due("none wanted", x.round(ANN, 0, 0), 0);
        due("none wanted", x.round(ANN, 0, 1), 0);
        due("lane", x.round(ANN, 1, 0), 4);
        due("lane and hill: there, back, on", x.round(ANN, 5, 0), 17);
        due("two days: 4+4, 9", x.round(ANN, 5, 1), 2);
        due("the stile of ford", x.round(ANN, 2, 0), -2);
        due("lane, hill, dell", x.round(ANN, 13, 0), 20);
        due("8 | 12", x.round(ANN, 13, 1), 2);
        due("bob, all: round the ring, dell last", x.round(BOB, 15, 0), 6 + 4 + 9 + 3);
        due("bob can't go ford in a day", x.round(BOB, 2, 1), -2);
        due("bob, dell", x.round(BOB, 8, 1), 1);
        due("no such path", x.round(ANN, 16, 0), -1);
        due("no such path", x.round(ANN, -1, 0), -1);
        due("nobody", x.round(NOBODY, 0, 0), -1);
        due("no such what", x.round(ANN, 1, 2), -1);
        due("no such what", x.round(ANN, 1, -1), -1);
        x.walk(ANN, LANE);
        due("what is left isn't asked", x.round(ANN, 5, 1), 2);
        x.go(20);
        due("grass", x.round(BOB, 2, 0), -2);
        x = told("place a;place b;place c;path p a b 6 0 0;path q a c 5 0 0;path r b c 4 0 0;walker w a 0 11;");
        due("q, r, p is shorter than q twice", x.round(0, 3, 0), 15);
        due("5+4 | 6", x.round(0, 3, 1), 2);
        // by b and c it is shorter, 6 | 6 | 6+1, by e it takes fewer days, 10 | 9+1
        x = told("place a;place b;place c;place d;place e;place f;path p a b 6 0 0;path q b c 6 0 0;path r c d 6 0 0;"
            + "path s a e 10 0 0;path t e d 9 0 0;path u d f 1 0 0;walker w a 0 10;");
        due("the shortest", x.round(0, 32, 0), 19);
        due("not only the shortest", x.round(0, 32, 1), 2);
        due("one way and the other one back", x.round(0, 31, 0), 37);
    }

    // promise 18
    private static void needed() {
        PathsKept x = told(VALLEY);
        due("lane is on a ring", x.needed(LANE), 0);
        due("dell", x.needed(DELL), 3);
        x.go(10);
        due("ford is grass", x.needed(FORD), -1);
        due("lane", x.needed(LANE), 3);
        due("hill", x.needed(HILL), 4);
        due("no such path", x.needed(NO_PATH), -1);
        due("no such path", x.needed(-1), -1);
        due("two alike", told("place a;place b;path p a b 1 0 0;path q b a 1 0 0;").needed(0), 0);
    }

    // promise 19
    private static void blind() {
        PathsKept x = told(VALLEY);
        due("dell", x.blind(), 1 << DELL);
        x.go(10);
        due("lane too", x.blind(), 1 << DELL | 1 << LANE);
        x.go(90);
        due("all is grass", x.blind(), 0);
        due("one alone", told("place a;place b;path p a b 1 0 0;").blind(), 1);
        due("two alike", told("place a;place b;path p a b 1 0 0;path q b a 1 0 0;").blind(), 0);
    }

    // promise 20
    private static void watching() {
        PathsKept x = told(VALLEY);
        due("home or mill, and inn", x.watch(), 1 << HOME | 1 << INN);
        x.go(90);
        due("nothing to watch", x.watch(), 0);
        due("either end: the least", told("place a;place b;path p b a 1 0 0;").watch(), 1);
        due("the fewest ahead of the least", told("place a;place b;place c;place d;path p a d 1 0 0;path q b d 1 0 0;path r c d 1 0 0;").watch(), 8);
    }

    // promise 21
    private static void matching() {
        PathsKept x = told(VALLEY);
        due("ann", x.match(0), LANE);
        due("bob", x.match(1), FORD);
        due("there are not so many", x.match(2), -2);
        due("there are not so many", x.match(3), -2);
        due("in sum", x.match(4), 30);
        due("5", x.match(5), -1);
        due("-1", x.match(-1), -1);
        x.carry(ANN, INN);
        due("ann can't go ford: hill, 5 + 20", x.match(0), HILL);
        due("in sum", x.match(4), 25);
        String base = "place a;place b;place c;path p a b 1 0 7;path q a b 1 0 7;path r a c 1 0 0;";
        x = told(base + "walker v a 0 1;walker w a 0 1;walker x a 0 1;walker y a 0 1;");
        due("the first", x.match(0), 0);
        due("the second", x.match(1), 1);
        due("age 0 is better than none", x.match(2), 2);
        due("none is left", x.match(3), -2);
        due("in sum", x.match(4), 14);
        x = told(base + "walker v a 0 1;walker w b 0 1;");
        due("p and q", x.match(0) * 10 + x.match(1), 1);
        x = told("place a;place b;place c;path p a b 1 5 9;path q a b 1 0 8;walker v a 9 1;walker w b 0 1;");
        due("v leaves q to w", x.match(0) * 10 + x.match(1), 1);
        due("in sum", x.match(4), 17);
    }

    // promise 22
    private static void games() {
        PathsKept x = told(VALLEY);
        due("home to inn, the squire first", x.game(HOME, INN, 0, 0), 0);
        due("he shuts", x.game(HOME, INN, 0, 1), HILL);
        due("home to inn, the parish first", x.game(HOME, INN, 1, 0), 1);
        due("it takes lane: hill or ford then", x.game(HOME, INN, 1, 1), LANE);
        due("wood, the parish first", x.game(WOOD, INN, 1, 0), 1);
        due("it takes", x.game(WOOD, INN, 1, 1), DELL);
        due("wood to home", x.game(WOOD, HOME, 1, 0), 0);
        due("can't win", x.game(WOOD, HOME, 1, 1), -2);
        due("any will do", x.game(WOOD, HOME, 0, 1), LANE);
        due("alike", x.game(HOME, HOME, 0, 0), -1);
        due("no such place", x.game(HOME, NOWHERE, 0, 0), -1);
        due("no such place", x.game(-1, HOME, 0, 0), -1);
        due("no such first", x.game(HOME, INN, 2, 0), -1);
        due("no such first", x.game(HOME, INN, -1, 0), -1);
        due("no such what", x.game(HOME, INN, 0, 2), -1);
        due("no such what", x.game(HOME, INN, 0, -1), -1);
        x.go(90);
        due("all is grass", x.game(HOME, INN, 1, 0), 0);
        due("there is none", x.game(HOME, INN, 0, 1), -2);
        x = told("place a;place b;path p a b 1 0 0;path q a b 1 0 0;");
        due("two ways: the parish wins as second", x.game(0, 1, 0, 0), 1);
        due("the squire can't win", x.game(0, 1, 0, 1), -2);
        due("the first path", x.game(0, 1, 1, 1), 0);
        x = told("place a;place b;place c;path p a b 1 0 0;path q a b 1 0 0;path r b c 1 0 0;path s b c 1 0 0;");
        due("two by two", x.game(0, 2, 0, 0), 1);
        x = told("place a;place b;place c;path p a b 1 0 0;path q a b 1 0 0;path r b c 1 0 0;");
        due("the one that counts", x.game(0, 2, 1, 1), 2);
        due("one of two, then the other one or r", x.game(0, 2, 0, 1), 0);
        due("another pair of places behind it", x.game(0, 1, 0, 0), 1);
    }

    // promises 23 and 24
    private static void resting() {
        PathsKept x = told("place a;walker o a 0 1;walker b a 2 1;walker e a 1 1;walker f a 9 1;");
        due("0 and 1: both leave", x.rests(0, 2), 1);
        due("0 and 1: both leave", x.rest(0, 2, 0), 11);
        due("9 and 9 less", x.rests(3, 0), 1);
        due("9 keeps, 0 leaves", x.rest(3, 0, 0), 1);
        due("0 leaves, 9 keeps", x.rest(0, 3, 0), 10);
        due("2 and 9", x.rests(1, 3), 2);
        due("2 and 9", x.rest(1, 3, 0), 1);
        due("2 and 9", x.rest(1, 3, 1), 10);
        due("2 and 9", x.rest(1, 3, 2), -2);
        due("2 and 0: alone it has no more", x.rests(1, 0), 2);
        due("2 and 0", x.rest(1, 0, 0), 1);
        due("2 and 0", x.rest(1, 0, 1), 11);
        due("alike", x.rests(1, 1), -1);
        due("nobody", x.rests(1, 4), -1);
        due("nobody", x.rests(-1, 1), -1);
        due("alike", x.rest(1, 1, 0), -1);
        due("nobody", x.rest(4, 1, 0), -1);
        due("below 0", x.rest(1, 0, -1), -1);
        due("far behind", x.rest(1, 0, Integer.MAX_VALUE), -2);
    }

    // promise 25
    private static void tries() {
        PathsKept x = told("snow 50;");
        due("0", x.tries(0), 1);
        due("50", x.tries(50), 1);
        due("51", x.tries(51), 2);
        due("75", x.tries(75), 2);
        due("76", x.tries(76), 3);
        due("99", x.tries(99), 7);
        due("100", x.tries(100), -2);
        due("101", x.tries(101), -1);
        due("-1", x.tries(-1), -1);
        due("always snow", told("snow 100;").tries(1), -2);
        due("always snow, but 0", told("snow 100;").tries(0), 1);
        due("57: 8 days, 98.8", told("snow 57;").tries(98), 7);
        due("56 of 100 to the 8th", told("snow 56;").tries(99), 8);
        due("57 of 100 to the 8th", told("snow 57;").tries(99), -2);
        due("never snow", told("snow 0;").tries(100), 1);
    }

    // promise 26
    private static void clear() {
        PathsKept x = told("snow 50;");
        due("above", x.clear(6, 0), 1);
        due("below", x.clear(6, 1), 64);
        due("none", x.clear(0, 0), 1);
        due("none", x.clear(0, 1), 1);
        due("7", x.clear(7, 0), -1);
        due("-1", x.clear(-1, 0), -1);
        due("what 2", x.clear(1, 2), -1);
        due("what -1", x.clear(1, -1), -1);
        due("99", told("snow 1;").clear(6, 0), 941480149401L);
        due("99", told("snow 1;").clear(6, 1), 1000000000000L);
        due("40 of 100", told("snow 60;").clear(3, 0), 8);
        due("40 of 100", told("snow 60;").clear(3, 1), 125);
        due("never", told("snow 100;").clear(2, 0), 0);
        due("never", told("snow 100;").clear(2, 1), 1);
        due("none of none", told("snow 100;").clear(0, 0), 1);
        due("without snow", told("").clear(5, 0), 1);
    }

    // promises 27 and 28
    private static void seeing() {
        PathsKept x = told(VALLEY);
        due("0 days", x.see(0, ANN, HOME, true), -1);
        due("61 days", x.see(61, ANN, HOME, true), -1);
        due("nobody", x.see(1, NOBODY, HOME, true), -1);
        due("nobody", x.see(1, -1, HOME, true), -1);
        due("nowhere", x.see(1, ANN, NOWHERE, true), -1);
        due("nowhere", x.see(1, ANN, -1, true), -1);
        due("no such one", x.strike(0), -1);
        due("the first", x.see(1, ANN, HOME, true), 0);
        due("the second", x.see(60, BOB, WOOD, false), 1);
        due("a strike", x.strike(1), 2);
        due("a strike of a strike", x.strike(2), 3);
        due("no such one", x.strike(4), -1);
        due("no such one", x.strike(-1), -1);
        for (int i = 4; i < 24; i++) {
            due("and on", x.see(1, ANN, HOME, true), i);
        }
        due("25th", x.see(1, ANN, HOME, true), -1);
        due("25th", x.strike(0), -1);
        due("24", x.count(10), 24);
    }

    // promise 29
    private static void knowing() {
        PathsKept x = told(VALLEY);
        due("none yet", x.known(1), false);
        due("0", x.known(0), true);
        due("-1", x.known(-1), true);
        due("-2", x.known(-2), false);
        x.see(1, ANN, HOME, true);
        x.see(1, ANN, HOME, false);
        due("by all", x.count(11), 2);
        due("nothing fits", x.legs(ANN), 0);
        due("1", x.known(1), true);
        due("by 1", x.count(11), 1);
        due("3", x.known(3), false);
        due("it stays by 1", x.count(11), 1);
        due("at home with legs 0", x.legs(ANN), 1);
        x.strike(0);
        due("later ones aren't known", x.legs(ANN), 1);
        due("by 3", x.known(3), true);
        due("not at home", x.legs(ANN), 1022);
        x.strike(2);
        due("by 3 still", x.legs(ANN), 1022);
        x.known(-1);
        due("the strike is struck", x.legs(ANN), 0);
        x.strike(3);
        due("and that one too", x.legs(ANN), 1022);
        due("by all, also those to come", x.count(11), 5);
    }

    // promise 30
    private static void legs() {
        PathsKept x = told(VALLEY);
        due("nothing known", x.legs(ANN), 1023);
        due("nobody", x.legs(NOBODY), -1);
        due("nobody", x.legs(-1), -1);
        x.see(2, ANN, INN, true);
        due("over the stile of ford", x.legs(ANN), 0b1111100000);
        due("bob's legs don't bring ann there", x.legs(BOB), 0);
        x.known(0);
        x.go(3);
        x.carry(ANN, WOOD);
        x.known(-1);
        due("from the text on, nothing done by call", x.legs(ANN), 0b1111100000);
        x.see(1, ANN, MILL, false);
        due("but she was at the mill", x.legs(ANN), 0);
        x = told("place a;place b;path p a b 1 3 0;walker v a 5 9;walker w a 4 9;walk v p 0;walk w p 1;law may legs>=stile and gone=1 or legs>4 and gone=0;");
        x.see(2, 1, 1, true);
        due("w comes if v went", x.legs(0), 0b1111100000);
        due("and if he may", x.legs(1), 0b1111111000);
        x = told(snowy(60, 1));
        x.see(1, 0, 0, true);
        due("snow as it goes", x.legs(0), 1023);
    }

    // promise 31
    private static void sitting() {
        PathsKept x = told(VALLEY);
        due("home by one, mill by nine", x.sit(ANN, 1, 0), HOME);
        due("at worst", x.sit(ANN, 1, 1), 9);
        due("home 1, mill 4, inn 5", x.sit(ANN, 2, 0), INN);
        due("at worst", x.sit(ANN, 2, 1), 5);
        x.see(2, ANN, INN, false);
        due("home 1, mill 4", x.sit(ANN, 2, 0), HOME);
        due("at worst", x.sit(ANN, 2, 1), 4);
        x.see(2, ANN, WOOD, true);
        due("none are left", x.sit(ANN, 1, 0), HOME);
        due("none are left", x.sit(ANN, 1, 1), 0);
        due("0 days", x.sit(ANN, 0, 0), -1);
        due("61 days", x.sit(ANN, 61, 0), -1);
        due("60 days", x.sit(ANN, 60, 1), 0);
        due("nobody", x.sit(NOBODY, 1, 0), -1);
        due("no such what", x.sit(ANN, 1, 2), -1);
        due("no such what", x.sit(ANN, 1, -1), -1);
    }

    // promise 32
    private static void chance() {
        PathsKept x = told(VALLEY);
        due("gone on day 0", x.chance(1, 1, LANE, 1), 10);
        due("not at 0", x.chance(1, 1, LANE, 0), 0);
        due("hill", x.chance(1, 3, HILL, 7), 0);
        due("hill", x.chance(1, 3, HILL, 8), 10);
        due("seed below 0", x.chance(-1, 1, LANE, 1), -1);
        due("0 days", x.chance(1, 0, LANE, 1), -1);
        due("100 days", x.chance(1, 100, LANE, 1), -1);
        due("99 days, grass at 30", x.chance(Integer.MAX_VALUE, 99, LANE, 30), 10);
        due("no such path", x.chance(1, 1, NO_PATH, 1), -1);
        due("no such path", x.chance(1, 1, -1, 1), -1);
        due("age -1", x.chance(1, 1, LANE, -1), -1);
        due("age 1000", x.chance(1, 1, LANE, 1000), -1);
        due("age 999", x.chance(0, 1, LANE, 999), 10);
        due("nothing went by", x.count(5), 0);
        // of one day each: from seed 1 on 38, 58, 13, 15, 51, 27, 10, 19, 12, 86
        x = told("place a;place b;path p a b 1 0 5;walker w a 0 9;walk w p 0;snow 30;seed 1;");
        due("no snow in 38, 58, 51, 86", x.chance(1, 1, 0, 1), 4);
        x.go(1);
        due("the object's own numbers stay", x.count(7), 1);
    }

    // promise 33
    private static void tried() {
        PathsKept x = told("place a;place b;path p a b 4 5 8;walker v a 3 9;walker w a 9 9;walk v p 0;walk w p 0;bull p 0 0;year 10;snow 50;");
        due("snow and a bull", x.ahead(2, 0, 0), 0);
        due("no snow, but a bull", x.tried(0, 0, 2), 0);
        due("no bull, but snow", x.tried(1, 0, 2), 0);
        due("400", x.tried(4, 0, 391), 1);
        due("400", x.tried(4, 0, 392), 0);
        due("now", x.tried(0, 0, 0), 1);
        due("no such what", x.tried(5, 0, 1), -1);
        due("no such what", x.tried(-1, 0, 1), -1);
        due("401 days", x.tried(0, 0, 401), -1);
        due("-1 days", x.tried(0, 0, -1), -1);
        due("i of 0", x.tried(0, 1, 1), -1);
        due("i of 4", x.tried(4, 1, 1), -1);
        due("i of 2", x.tried(2, 1, 1), 1);
        due("nobody", x.tried(2, 2, 1), -1);
        due("nobody", x.tried(2, -1, 1), -1);
        String base = "place a;place b;path p a b 4 5 8;walker v a 3 9;walker w a 9 9;walk v p 0;year 10;";
        due("v can't", told(base).ahead(2, 0, 0), 0);
        due("by legs 9", told(base).tried(3, 0, 2), 1);
        due("no snow", told(base + "snow 50;walk w p 0;").tried(0, 0, 2), 1);
        due("no bulls", told(base + "bull p 0 0;walk w p 0;").tried(1, 0, 2), 1);
        due("w goes nowhere", told(base + "walk w p 0;").tried(2, 1, 2), 0);
        due("v goes nowhere", told(base + "walk w p 0;").tried(2, 0, 2), 1);
        due("term isn't asked", told(base + "law term 1;").tried(4, 0, 2), 1);
        due("term is asked", told(base + "law term 1;").tried(3, 0, 2), 0);
        x = told(base);
        x.tried(3, 0, 2);
        due("tried only", x.walker(0, 4), 0);
        due("tried only", x.ahead(2, 0, 0), 0);
    }

    // promise 34
    private static void undoing() {
        PathsKept x = told(VALLEY);
        due("none", x.undo(), -1);
        x.walk(ANN, LANE);
        x.mow(HILL);
        x.carry(BOB, WOOD);
        x.walk(ANN, DELL);
        x.mow(DELL);
        x.carry(BOB, WOOD);
        due("three", x.count(12), 3);
        due("go(0) is no day", x.go(0), 0);
        due("carried back", x.undo(), 2);
        due("bob", x.walker(BOB, 0), INN);
        due("unmown", x.undo(), 1);
        due("hill", x.path(HILL, 4), 5);
        due("unwalked", x.undo(), 0);
        due("lane", x.path(LANE, 4), 10);
        due("lane", x.path(LANE, 6), 0);
        due("ann", x.walker(ANN, 0), HOME);
        due("pace", x.walker(ANN, 3), 12);
        due("done", x.count(7), 0);
        due("none", x.undo(), -1);
        x.walk(ANN, LANE);
        due("go(401) is no day", x.go(401), -1);
        due("one", x.count(12), 1);
        x.go(1);
        due("a day went by", x.undo(), -1);
        x = told(VALLEY);
        for (int i = 0; i < 25; i++) {
            x.carry(ANN, 1 + i % 3);
        }
        due("20 at most", x.count(12), 20);
        for (int i = 19; i >= 0; i--) {
            due("undo", x.undo(), i);
        }
        due("no more", x.undo(), -1);
        due("the fifth carrying stands", x.walker(ANN, 0), 1 + 4 % 3);
        x = told(VALLEY);
        x.go(10);
        x.mow(FORD);
        x.undo();
        due("grass again", x.path(FORD, 5), 0);
        due("grass again", x.path(FORD, 4), 30);
    }

    // promises 35 and 36
    private static void images() {
        PathsKept x = told(snowy(39, 1));
        due("none", x.back(), -1);
        x.go(1);
        due("keep", x.keep(), 1);
        x.go(1);
        due("58: no snow", x.count(7), 1);
        x.see(1, 0, 0, true);
        x.known(0);
        x.mow(0);
        due("back", x.back(), 1);
        due("day", x.count(5), 1);
        due("done", x.count(7), 0);
        due("refused", x.count(8), 1);
        due("at", x.walker(0, 0), 0);
        due("seen stays", x.count(10), 1);
        due("known stays", x.count(11), 0);
        due("nothing to undo", x.undo(), -1);
        x.go(1);
        due("the numbers are as in the image", x.count(7), 1);
        due("back again", x.back(), 1);
        x.carry(0, 1);
        due("keep in place of it", x.keep(), 1);
        due("keeping leaves what can be undone", x.undo(), 0);
        due("undone", x.walker(0, 0), 0);
        due("back", x.back(), 1);
        due("carried", x.walker(0, 0), 1);
        x.walk(0, 0);
        due("left", x.walker(0, 3), 8);
        x.back();
        due("left as in the image", x.walker(0, 3), 9);
        x = told("place a;place b;path p a b 1 1 1;year 3;");
        x.keep();
        x.go(5);
        due("grass", x.path(0, 5), 0);
        x.back();
        due("kept again", x.path(0, 5), 1);
        due("age", x.path(0, 4), 1);
    }

    // promise 37
    private static void counting() {
        PathsKept x = told(VALLEY + "law cost length;");
        x.see(1, ANN, HOME, true);
        x.see(1, ANN, HOME, true);
        x.known(1);
        x.walk(BOB, DELL);
        long[] want = {4, 4, 2, 3, 1, 0, 4, 1, 0, 1, 2, 1, 1};
        for (int what = 0; what <= 12; what++) {
            due("count(" + what + ")", x.count(what), want[what]);
        }
        due("count(13)", x.count(13), -1);
        due("count(-1)", x.count(-1), -1);
        x.go(25);
        due("day", x.count(5), 25);
        due("kept", x.count(6), 2);
        due("two sets", x.count(9), 2);
        due("done", x.count(7), 3);
        due("refused", x.count(8), 1);
        x.go(30);
        due("four sets", x.count(9), 4);
        due("a place alone is a set", told("place a;place b;").count(9), 2);
    }
}
