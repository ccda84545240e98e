/** Each promise by itself, with answers reckoned by hand from the document: ordinary, at the edges, wrong inputs. */
public final class PromiseTest {
    private static int wrong = 0;
    private static int asked = 0;

    private static void due(String what, long got, long want) {
        asked++;
        if (got != want) {
            wrong++;
            System.out.println(what + " answered " + got + ", due is " + want);
        }
    }

    private static void due(String what, boolean got, boolean want) {
        due(what, got ? 1 : 0, want ? 1 : 0);
    }

    /** Feeds a text, filled up with blanks. */
    private static int tell(BlazedPath x, String text) {
        for (int i = 0; i < text.length(); i += 20) {
            int[] words = new int[5];
            for (int j = 0; j < 20; j++) {
                int sign = i + j < text.length() ? text.charAt(i + j) & 255 : ' ';
                words[j / 4] = words[j / 4] << 8 | sign;
            }
            x.feed(words[0], words[1], words[2], words[3], words[4]);
        }
        return text.length();
    }

    private static String bytes(int... all) {
        StringBuilder b = new StringBuilder();
        for (int one : all) {
            b.append((char) one);
        }
        return b.toString();
    }

    private static int forest(BlazedPath x, String text) {
        return x.forest(tell(x, text));
    }

    private static int law(BlazedPath x, String text) {
        return x.law(tell(x, text));
    }

    private static int orders(BlazedPath x, String text) {
        return x.orders(tell(x, text));
    }

    private static int tried(BlazedPath x, String text, int what) {
        return x.tried(tell(x, text), what);
    }

    private static int turn(BlazedPath x, String text, int what) {
        return x.turn(tell(x, text), what);
    }

    private static int paces(BlazedPath x, String text, int of, int what) {
        return x.paces(tell(x, text), of, what);
    }

    private static int sights(BlazedPath x, String text, int what) {
        return x.sights(tell(x, text), what);
    }

    private static int seek(BlazedPath x, int what, int... all) {
        tell(x, bytes(all));
        return x.seek(all.length / 2, what);
    }

    private static int blazes(BlazedPath x, int what, int... all) {
        tell(x, bytes(all));
        return x.blazes(all.length / 4, what);
    }

    private static int check(BlazedPath x, int... all) {
        tell(x, bytes(all));
        return x.check(all.length);
    }

    private static String rows(String... rows) {
        return String.join("/", rows);
    }

    private static String times(String text, int n) {
        return text.repeat(n);
    }

    private static final String JUNGLE = "j12" + "/=".repeat(11);
    private static final String OPEN = "o12" + "/=".repeat(11);

    /** A person with an arm of 5 is ahead, under a law. */
    private static BlazedPath party(String law) {
        BlazedPath x = new BlazedPath();
        x.person(0, 5);
        law(x, law);
        return x;
    }

    private static void newObject() {
        BlazedPath x = new BlazedPath();
        int[] counts = {0, 0, 1, 0, 0, -2, 0, 0, 1, 1, 600};
        for (int what = 0; what < counts.length; what++) {
            due("new count(" + what + ")", x.count(what), counts[what]);
        }
        for (int cell = 0; cell < 144; cell++) {
            due("new count(100 + " + cell + ")", x.count(100 + cell), 2);
        }
        int[] first = {0, 0, 1, 0, 0, 0, 0};
        for (int what = 0; what < first.length; what++) {
            due("new path(0, " + what + ")", x.path(0, what), first[what]);
        }
        due("new undo", x.undo(), false);
        for (int p = 0; p < 6; p++) {
            due("new personIs", x.personIs(p, 0), -1);
        }
        due("NONE", BlazedPath.NONE, -1);
    }

    private static void feedPromise() {
        BlazedPath x = new BlazedPath();
        for (int i = 1; i <= 13; i++) {
            due("feed " + i, x.feed(i, -1, 2, 3, 4), 20 * i);
        }
        due("feed above 260", x.feed(0, 0, 0, 0, 0), -1);
        due("tape stays", x.count(7), 260);
        // the highest byte of each int comes first
        BlazedPath y = new BlazedPath();
        y.feed(0x00000000, 0x05000000, 0, 0, 0);
        due("fifth byte is 5", y.check(20), 4);
        y.feed(0x000000FF, 0, 0, 0, 0);
        due("bytes are 0 to 255", y.check(20), 3);
        due("tape is empty", y.count(7), 0);
    }

    private static void forestPromise() {
        BlazedPath x = new BlazedPath();
        due("kinds", forest(x, rows("otjbrsp6", "=", "p11o", "j9b3", "=", "=", "=", "=", "=", "=", "=", "o12")),
            11 + 11 + 12 + 3 * 8 + 12);
        int[] kinds = {0, 1, 2, 3, 4, 5, 6, 6, 6, 6, 6, 6};
        for (int i = 0; i < 12; i++) {
            due("kind " + i, x.count(100 + i), kinds[i]);
            due("kind of the row as before " + i, x.count(112 + i), kinds[i]);
        }
        due("p11o", x.count(134), 6);
        due("p11o", x.count(135), 0);
        due("last row", x.count(243), 0);
        due("all jungle", forest(x, JUNGLE), 0);
        due("01 is a number", forest(x, "o01j11" + "/=".repeat(11)), 12);
        String[] faulty = {"=", "/", " ", "0", "j12/", "j12", "j11/", "j12/=/==", "j12/=j", "j6=", "j12 ", "j123", "j6j6=",
            JUNGLE + "/", JUNGLE + "=", JUNGLE + "j", "J12", "j12//", "j12/=" + (char) 200, "o1o1o1o1o1o1o1o1o1o1o1o/==",
            "j0", "j00", "j005", "j12j0", "j12/j0", "j13", "j99", "j12j", "j12j5", "j12/j6o7", "o1o1o1o1o1o1o1o1o1o1o1o1o",
            "jjjjjjjjjjjjj", "j12/=/=/=/=/=/=/=/=/=/=/j12j", "j6j60", "j6 ", "j6j7x"};
        int[] faults = {-1000, -1000, -1000, -1000, -1004, -1003, -1003, -1007, -1005, -1002, -1003, -1003, -1004,
            -1000 - JUNGLE.length(), -1000 - JUNGLE.length(), -1000 - JUNGLE.length(), -1000, -1004, -1005, -1025,
            -3001, -3001, -3001, -3004, -3005, -6000, -6000, -6003, -6003, -6006, -6024,
            -6012, -6027, -6002, -1002, -6002};
        for (int i = 0; i < faulty.length; i++) {
            due("forest " + faulty[i], forest(x, faulty[i]), faults[i]);
        }
        due("the one before stays", x.count(100), 0);
        tell(x, JUNGLE);
        due("n 0", x.forest(0), -1);
        due("n -1", x.forest(-1), -1);
        due("more than there are", x.forest(41), -1);
        due("the tape stays", x.count(7), 40);
        due("n 200 of 40", x.forest(200), -1);
        due("the tape still stays", x.forest(25), 0);
        due("and is empty then", x.count(7), 0);
        for (int i = 0; i < 13; i++) {
            x.feed(0x20202020, 0, 0, 0, 0);
        }
        due("n 201", x.forest(201), -1);
        due("n 200", x.forest(200), -1000);
        due("a fault empties the tape", x.count(7), 0);
        forestPath();
    }

    private static void forestPath() {
        BlazedPath x = party("c1(1=1);n9(1=1);g1(1=1)");
        x.start(50);
        x.days(3);
        orders(x, "3eobx");
        x.width(3);
        x.keep();
        due("a fault leaves the path", forest(x, "x"), -1000);
        due("path stays", x.count(2), 4);
        due("and what is kept", x.undo(), true);
        due("bamboo everywhere", forest(x, "b12" + "/=".repeat(11)), 144);
        due("path is new", x.count(2), 1);
        due("party is there", x.count(3), 0);
        due("first cell as before", x.path(0, 0), 50);
        due("whatever that is", x.count(150), 3);
        due("width as told now", x.path(0, 2), 3);
        due("nothing grown", x.path(0, 1), 0);
        due("the minute stays", x.count(1), 8);
        due("the day stays", x.count(0), 3);
        due("tired stays", x.personIs(0, 1), 27);
        due("nothing is kept", x.undo(), false);
    }

    private static void lawPromise() {
        BlazedPath x = party("c5(1=1)");
        due("clauses", x.count(6), 1);
        due("sixteen", law(x, "c1(1=1)" + times(";c1(1=1)", 15)), 16);
        due("clauses", x.count(6), 16);
        String[] faulty = {"x", "c", "c1", "c1(", "c1()", "c1(1", "c1(1=", "c1(1=1", "c1(1=1);", "c1(1=1)c", "(1=1)", "c(1=1)",
            "c-1(1=1)", "c1 (1=1)", "c1(1=1))", "c[1(1=1)", "c[](1=1)", "c1](1=1)", "c1(1)", "c1(1<>1)", "c1(1=1=1)",
            "c1(1=1&)", "c1(|1=1)", "c1(!)", "c1(!!)", "c1((1=1)", "c1([1=1])", "c1((1)=1)", "ck5(1=1)", "c5k(1=1)", "c1+(1=1)",
            "c1(1=1);z", "cc(1=1)", "c1(1=1);;", "c1(1=1)" + (char) 255,
            "c123456(1=1)", "c000000(1=1)", "c1(1=654321)", "c12345678(1=1)",
            "c1(1=1)" + times(";c1(1=1)", 16), "c1(1=1)" + times(";c1(1=1)", 15) + ";x", "c1(1=1)" + times(";c1(1=1)", 15) + ";",
            "c[[[[[[[1]]]]]]](1=1)", "c1(!!!!!!1=1)", "c1(((((((1=1)))))))", "c1([[[[[[1]]]]]]=1)", "c1(!(!(!(1=1))))",
            "c1(!!!!!(1=1))", "c1(!!!!![1]=1)", "c1(1=1&!!!!!!1=1)", "c1(!!!!!1=[1])", "c[[[[[[(", "c1(!!!!!&"};
        int[] faults = {-1000, -1001, -1002, -1003, -1003, -1004, -1005, -1006, -1008, -1007, -1000, -1001,
            -1001, -1002, -1007, -1003, -1002, -1002, -1004, -1005, -1006,
            -1007, -1003, -1004, -1005, -1008, -1005, -1005, -1002, -1002, -1003,
            -1008, -1001, -1008, -1007,
            -2006, -2006, -2010, -2006,
            -4128, -1128, -1128,
            -5007, -5008, -5008, -5008, -5008,
            -5008, -5008, -5012, -5010, -1007, -1008};
        for (int i = 0; i < faulty.length; i++) {
            due("law " + faulty[i], law(x, faulty[i]), faults[i]);
        }
        due("six open in one another", law(x, "c1(!(!(!1=1)));c1(!!!!!1=1);c[[[[[[1]]]]]](1=1);c1([[[[[1]]]]]=1)"), 4);
        due("and once more behind them", law(x, "c1(!!!!!1=1&!!!!!1=1&(((((1=1))))))"), 1);
        due("a fault leaves the law", law(x, "c1("), -1003);
        due("the law before", x.count(6), 1);
        tell(x, "c1(1=1)");
        due("n 0", x.law(0), -1);
        due("n 21", x.law(21), -1);
        due("the tape stays", x.count(7), 20);
        due("n 7", x.law(7), 1);
        due("empty then", x.count(7), 0);
        for (int i = 0; i < 13; i++) {
            x.feed(0x20202020, 0, 0, 0, 0);
        }
        due("n 241", x.law(241), -1);
        due("n 240", x.law(240), -1000);
        lawValues();
        lawLetters();
    }

    /** What c answers, seen by the minutes that a cell takes. */
    private static int cost(String law) {
        BlazedPath x = new BlazedPath();
        x.person(2, 7);
        x.light(999);
        if (law(x, law) < 1) {
            return -9;
        }
        return orders(x, "e");
    }

    private static void lawValues() {
        String[] laws = {"c7(1=1)", "c2+3*4(1=1)", "c20-5-3(1=1)", "c100/7/2(1=1)", "c17%5*3(1=1)", "c[2+3]*4(1=1)", "c99999(1=1)",
            "c3-9(1=1)", "c1/0(1=1)", "c5+1/0(1=1)", "c5+[1%0](1=1)", "c5(1=2)", "c5(1=2);c6(1=1)", "v9(1=1);c6(1=1)",
            "c5(1<2)", "c5(2>2)", "c5(!2>2)", "c5(1=2|1=1)", "c5(1=1&1=2)", "c5(1=2&1=2|1=1)", "c5(1=1|1=1&1=2)", "c5((1=1|1=1)&1=2)",
            "c5(1/0=0)", "c5(!1/0=0)", "c5(!(1/0=0))", "c5(1/0=0|1=1)", "c5((1/0=0)|1=1)", "c5(1=1|1/0=0)", "c5(1=2&1/0=0|1=1)",
            "c5(1=1&(1=1|1%0=0))", "c5(1/0=0);c6(1=1)", "c99999*99999/10000(1=1)", "c5(99999*99999<0)", "c5(99999*99999>0)",
            "c[0-7]/2+9(1=1)", "c[0-7]%4+9(1=1)", "c00012(1=1)", "c5(!!1=1)", "c5(!1=1|1=1)", "c5(!(1=1|1=1))", "c240(1=1)", "c241(1=1)"};
        int[] values = {7, 14, 12, 7, 6, 20, 240,
            0, 0, 0, 0, 0, 6, 6,
            5, 0, 5, 5, 0, 5, 5, 0,
            0, 0, 0, 0, 0, 5, 5,
            5, 6, 240, 0, 5,
            6, 6, 12, 5, 5, 0, 240, 240};
        for (int i = 0; i < laws.length; i++) {
            due("value of " + laws[i], cost(laws[i]), values[i]);
        }
    }

    private static void lawLetters() {
        BlazedPath x = new BlazedPath();
        x.person(3, 7);
        x.width(2);
        x.light(999);
        forest(x, rows("t12", "=", "=", "=", "=", "=", "=", "=", "=", "=", "=", "="));
        law(x, "ck*100+w*10+a+t+q*50+f*50+y*20(1=1);n3(1=1)");
        due("in c: k, w, a, t, y", orders(x, "e"), 127);
        due("t as it is then", orders(x, "e"), 130);
        x.days(1);
        due("y", orders(x, "e"), 147);
        BlazedPath n = new BlazedPath();
        n.person(3, 2);
        n.width(4);
        law(n, "nk*3+a+t+w*50+q*50+f*50+y*5(1=1)");
        orders(n, "e");
        due("in n: k, a, t, y", n.personIs(3, 1), 8);
        orders(n, "e");
        due("in n: t ahead of it", n.personIs(3, 1), 24);
        orders(n, "9e");
        due("n is 20 at most, tired 99", n.personIs(3, 1), 99);
        law(n, "ea*2+t/25+k*50+w*50+q*50+f*50+y(1=1)");
        orders(n, ".");
        due("in e: a, t, y", n.personIs(3, 1), 92);
        BlazedPath v = new BlazedPath();
        v.person(0, 9);
        v.width(3);
        law(v, "g4(1=1);vk*10+w*5+a*50+t*50+q+f*2+y*3(1=1);n1(1=1)");
        orders(v, "eo");
        v.width(1);
        orders(v, "w");
        due("in v: k, w of the cell (first one)", v.count(1), 2 + 25);
        due("in v: f going out", orders(v, "e"), 37);
        v.days(2);
        due("in v: q, y, no f coming back", orders(v, "w"), 39);
        due("in v: all going out", orders(v, "e"), 51);
        law(v, "v999(1=1)");
        due("v is 60 at most", orders(v, "w"), 60);
        BlazedPath g = new BlazedPath();
        g.person(0, 9);
        law(g, "gk+w*3+q/2+y*5+a*9+t*9+f*9(1=1)");
        due("in g: k, w", g.days(1), 5);
        due("in g: q, y", g.days(1), 5 + 2 + 5);
        law(g, "g99(1=1)");
        due("g is 20 at most", g.days(1), 20);
        BlazedPath d = party("c1(1=1);dk+w+q+y+a*5+t*5+f*5(1=1);g1(1=1);n9(1=1)");
        forest(d, OPEN);
        d.width(2);
        orders(d, "e");
        due("in d: k, w", d.safe(0), 4);
        d.days(2);
        due("in d: q, y", d.safe(0), 2);
        law(d, "d99(1=1)");
        due("d is 10 at most", d.safe(0), 0);
        due("nothing below one", d.safe(1), 1);
        law(d, "e99(1=1);n99(1=1)");
        orders(d, "e");
        due("n is 20 at most", d.personIs(0, 1), 20);
        orders(d, "e.");
        due("e is 20 at most", d.personIs(0, 1), 20);
    }

    private static void startPromise() {
        BlazedPath x = party("c3(1=1);n2(1=1)");
        forest(x, rows("j11b", "=", "=", "=", "=", "=", "=", "=", "=", "=", "=", "j12"));
        orders(x, "2e");
        x.keep();
        x.width(4);
        due("bamboo", x.start(11), false);
        due("start(-1)", x.start(-1), false);
        due("start(144)", x.start(144), false);
        due("nothing changed", x.count(2), 3);
        due("start(143)", x.start(143), true);
        due("one cell", x.count(2), 1);
        due("party there", x.count(3), 0);
        due("cell", x.path(0, 0), 143);
        due("width told then", x.path(0, 2), 4);
        due("minute stays", x.count(1), 6);
        due("tired stays", x.personIs(0, 1), 4);
        due("cells of the old path can be cut", x.start(0), true);
        due("again", orders(x, "e"), 3);
        due("kept stays", x.undo(), true);
        due("kept path", x.count(2), 3);
    }

    private static void peoplePromises() {
        BlazedPath x = new BlazedPath();
        due("arm 0", x.person(0, 0), false);
        due("arm 10", x.person(0, 10), false);
        due("person 6", x.person(6, 5), false);
        due("person -1", x.person(-1, 5), false);
        due("nobody is told", x.count(4), 0);
        due("ahead of nobody", x.ahead(0), false);
        due("person 5", x.person(5, 9), true);
        due("the first one is ahead", x.count(5), 5);
        due("person 0", x.person(0, 1), true);
        due("still", x.count(5), 5);
        due("bits", x.count(4), 33);
        due("ahead(0)", x.ahead(0), true);
        due("ahead(1)", x.ahead(1), false);
        due("ahead(6)", x.ahead(6), false);
        due("ahead(-2)", x.ahead(-2), false);
        due("who is ahead", x.count(5), 0);
        law(x, "n6(1=1)");
        orders(x, "e");
        due("tired", x.personIs(0, 1), 6);
        due("again with another arm", x.person(0, 4), true);
        due("in place of the one before", x.personIs(0, 0), 4);
        due("tired 0", x.personIs(0, 1), 0);
        due("still ahead", x.count(5), 0);
        due("arm of 5", x.personIs(5, 0), 9);
        due("not told", x.personIs(1, 0), -1);
        due("what 2", x.personIs(0, 2), -1);
        due("what -1", x.personIs(0, -1), -1);
        due("person 6", x.personIs(6, 0), -1);
        due("person -1", x.personIs(-1, 1), -1);
        // one who is told while nobody is ahead, though others are told
        BlazedPath y = new BlazedPath();
        y.keep();
        y.person(3, 3);
        y.undo();
        due("nobody is ahead", y.count(5), -2);
        due("but told", y.count(4), 8);
        due("tried 4", tried(y, "e", 4), -2);
        due("none cuts", tried(y, "e", 1), 0);
        due("no change", tried(y, "+", 4), -2);
        y.person(1, 3);
        due("who is told then", y.count(5), 1);
    }

    private static void widthAndLight() {
        BlazedPath x = party("c1(1=1)");
        due("width 0", x.width(0), false);
        due("width 5", x.width(5), false);
        due("width 1", x.width(1), true);
        due("width", x.count(9), 1);
        due("width 4", x.width(4), true);
        due("width", x.count(9), 4);
        orders(x, "e");
        due("of the first", x.path(0, 2), 1);
        due("of the second", x.path(1, 2), 4);
        due("light -1", x.light(-1), false);
        due("light 1000", x.light(1000), false);
        due("light", x.count(10), 600);
        due("light 999", x.light(999), true);
        due("light 0", x.light(0), true);
        due("light", x.count(10), 0);
    }

    private static void ordersPromise() {
        BlazedPath x = party("c5(1=1);v2(1=1);n4(1=1);e3(1=1)");
        x.start(66);
        String[] faulty = {"y", "1n", "0n", "22n", "2", "2)", ")", "(", "()", "(n", "n)", "(n))", "n n", "N", "nn2", "n" + (char) 200,
            "(((n)))", "2(2(2(n)))", "n((n)(n(", "n((n)((n", "9(9(2n))", "9(9n)9nn", "9(9n)2(5n)", "9n9n9n9n9n9n9n9n9n9n9n", "2(9(9n9n)x)",
            "9(9n)(9n9n)", "9(9n)9n(n)", "9(9(n)n)2n", "n9(9(n)nnn)", "2(9(5n)n)", "9(n9(n))2("};
        int[] faults = {-1000, -1000, -1000, -1001, -1001, -1001, -1000, -1001, -1001, -1002, -1001, -1003, -1001, -1000, -1003, -1001,
            -5002, -5005, -5007, -5006, -6000, -6007, -6005, -6020, -6002,
            -6008, -6008, -6008, -6001, -6000, -1010};
        for (int i = 0; i < faulty.length; i++) {
            due("orders " + faulty[i], orders(x, faulty[i]), faults[i]);
        }
        due("nothing is done by them", x.count(1), 0);
        due("nor cut", x.count(2), 1);
        due("ninety", tried(x, "9(9(n)n)", 2), 90);
        due("ninety", tried(x, "9(9n)9n", 2), 90);
        due("rounds in rounds", tried(x, "2(n2(eo).)b", 2), 13);
        tell(x, "e");
        due("n 0", x.orders(0), -1);
        due("n 21", x.orders(21), -1);
        due("n 81", x.orders(81), -1);
        due("the tape stays", x.count(7), 20);
        due("e", x.orders(1), 5);
        due("empty then", x.count(7), 0);
        due("cell e", x.path(1, 0), 67);
        due("n", orders(x, "n"), 5);
        due("cell n", x.path(2, 0), 79);
        due("w", orders(x, "w"), 5);
        due("cell w", x.path(3, 0), 78);
        due("s: on the path, nothing", orders(x, "s"), 0);
        due("still there", x.count(3), 3);
        due("tired by each", x.personIs(0, 1), 12);
        due("back", orders(x, "e"), 2);
        due("place", x.count(3), 2);
        due("not at the end: no cutting", orders(x, "n"), 0);
        due("two back", orders(x, "s"), 2);
        due("out again", orders(x, "nw"), 4);
        due("place", x.count(3), 3);
        due("a rest", orders(x, "."), 10);
        due("less tired", x.personIs(0, 1), 9);
        due("marks and stick", orders(x, "obxobx"), 5);
        due("marks", x.path(3, 3), 3);
        due("stick", x.path(3, 4), 1);
        due("the minute", x.count(1), 38);
        ordersBounds();
        ordersEdges();
        ordersDark();
    }

    private static void ordersBounds() {
        BlazedPath x = new BlazedPath();
        tell(x, times("x", 81));
        due("orders of 81 bytes", x.orders(81), -1);
        due("tried of 81 bytes", x.tried(81, 0), -1);
        due("turn of 81 bytes", x.turn(81, 0), -1);
        due("the tape stays", x.count(7), 100);
        due("tried of 80 bytes", x.tried(80, 2), 80);
        tell(x, times("x", 80));
        due("turn of 80 bytes", x.turn(80, 0), 80);
        tell(x, times("x", 80));
        due("orders of 80 bytes", x.orders(80), 1);
    }

    private static void ordersEdges() {
        BlazedPath x = new BlazedPath();
        due("outside", orders(x, "ws"), 0);
        due("nobody is ahead", orders(x, "en"), 0);
        due("a rest of nobody", orders(x, "."), 10);
        due("change of nobody", orders(x, "+"), 0);
        due("marks by nobody", orders(x, "ob"), 4);
        law(x, "c1(1=1)");
        x.person(4, 1);
        x.person(1, 2);
        x.person(2, 3);
        due("ahead", x.count(5), 4);
        orders(x, "+");
        due("the lowest", x.count(5), 1);
        orders(x, "+");
        due("the next higher", x.count(5), 2);
        orders(x, "2+");
        due("round", x.count(5), 1);
        forest(x, rows("jb10j", "j12", "=", "=", "=", "=", "=", "=", "=", "=", "=", "="));
        due("bamboo", orders(x, "e"), 0);
        due("bamboo", x.count(2), 1);
        // a path of a hundred cells
        forest(x, JUNGLE);
        String winding = "9e2en9w2wn";
        for (int i = 0; i < 4; i++) {
            orders(x, winding);
        }
        due("96 cells and the next row's first", x.count(2), 97);
        due("three more", orders(x, "9e"), 3);
        due("a hundred", x.count(2), 100);
        due("no more", orders(x, "e"), 0);
        due("place of the party", x.count(3), 99);
        due("path(99)", x.path(99, 0), 99);
        due("path(100)", x.path(100, 0), -1);
        // both faces seen on the way
        BlazedPath y = party("c1(1=1);v9-f*5(1=1)");
        orders(y, "eoeww");
        due("out onto the marked one", orders(y, "e"), 4);
        orders(y, "e");
        due("back onto it without face 2", orders(y, "w"), 9);
        orders(y, "be");
        due("back onto it with face 2", orders(y, "w"), 4);
    }

    private static void ordersDark() {
        BlazedPath x = party("c5(1=1);v1(1=1);n7(1=1)");
        x.light(12);
        due("two cells, then dark", orders(x, "3e"), 10);
        due("cells", x.count(2), 3);
        due("tired of two", x.personIs(0, 1), 14);
        due("dark stops all behind", orders(x, "ewx"), 0);
        due("not dark yet", orders(x, "wx"), 2);
        due("exactly at light", x.count(1), 12);
        due("nothing acts are not dark", tried(x, "xs9(s)", 5), 0);
        due("a change at light", tried(x, "+", 5), 0);
        x.light(11);
        due("a change above it", tried(x, "+", 5), 1);
        due("nothing is never dark", tried(x, "xs", 5), 0);
        due("a stick where there is one", tried(x, "x", 2), 1);
        law(x, "c0(1=1);v0(1=1)");
        due("0 minutes above light", tried(x, "e", 5), 1);
        due("not done", tried(x, "e", 2), 0);
    }

    private static void triedPromise() {
        BlazedPath x = party("c5(1=1);v2(1=1);n4(1=1);e3(1=1)");
        int[] wants = {40, 5, 10, 15, 17, 0};
        for (int what = 0; what < 6; what++) {
            due("tried " + what, tried(x, "2ex.o+enwe", what), wants[what]);
        }
        due("nothing is changed", x.count(1), 0);
        due("no cell", x.count(2), 1);
        due("no mark", x.path(0, 3), 0);
        due("not tired", x.personIs(0, 1), 0);
        x.light(11);
        due("dark", tried(x, "3e", 5), 1);
        due("done", tried(x, "3e", 2), 2);
        tell(x, "e");
        due("what 6", x.tried(1, 6), -1);
        due("what -1", x.tried(1, -1), -1);
        due("n 0", x.tried(0, 0), -1);
        due("n 21", x.tried(21, 0), -1);
        due("n 81", x.tried(81, 0), -1);
        due("the tape stays", x.count(7), 20);
        due("a fault", x.tried(2, 0), -1001);
        due("empty then", x.count(7), 0);
        BlazedPath y = new BlazedPath();
        due("nobody", tried(y, "e", 4), -2);
        due("nobody", tried(y, "e", 2), 1);
    }

    private static void daysPromise() {
        BlazedPath x = party("c5(1=1);n4(1=1);g3-w(k=2);g9(1=1)");
        forest(x, rows("j2t10", "=", "=", "=", "=", "=", "=", "=", "=", "=", "=", "="));
        x.width(2);
        orders(x, "2e");
        due("n 0", x.days(0), -1);
        due("n 61", x.days(61), -1);
        due("no day", x.count(0), 0);
        due("a day", x.days(1), 2 + 1 + 9);
        due("first", x.path(0, 1), 2);
        due("second", x.path(1, 1), 1);
        due("third", x.path(2, 1), 9);
        due("the minute", x.count(1), 0);
        due("tired", x.personIs(0, 1), 0);
        due("the day", x.count(0), 1);
        due("many: 99 at most", x.days(60), 97 + 60 + 90);
        due("first", x.path(0, 1), 99);
        due("second", x.path(1, 1), 61);
        BlazedPath y = new BlazedPath();
        law(y, "g1(y=9998)");
        for (int i = 0; i < 166; i++) {
            y.days(60);
        }
        due("the day", y.count(0), 9960);
        due("as many as can", y.days(60), 1);
        due("the last day", y.count(0), 9999);
        orders(y, ".");
        due("none goes by", y.days(5), 0);
        due("none", y.count(0), 9999);
        due("the minute stays", y.count(1), 10);
        // g is asked with what has grown by then
        BlazedPath z = new BlazedPath();
        law(z, "g1(q<3);g5(q=3)");
        due("q by then", z.days(6), 8);
    }

    /** A straight path over open land, each place but the first a fork. */
    private static BlazedPath openPath() {
        BlazedPath x = party("c5(1=1);v3-f(1=1);d2(1=1)");
        forest(x, OPEN);
        orders(x, "4e");
        return x;
    }

    private static void backPromise() {
        BlazedPath x = openPath();
        due("minutes", x.back(0), 12);
        due("forks", x.back(1), 4);
        due("blind", x.back(2), 4);
        due("first blind", x.back(3), 4);
        due("what 4", x.back(4), -1);
        due("what -1", x.back(-1), -1);
        orders(x, "x2wb2e");
        due("face 2 is seen", x.back(0), 11);
        due("forks", x.back(1), 4);
        due("a stick and a mark ahead", x.back(2), 2);
        due("first blind", x.back(3), 2);
        orders(x, "2w");
        due("from the middle", x.back(0), 6);
        due("forks", x.back(1), 2);
        orders(x, "o2w");
        due("at home", x.back(0), 0);
        due("no fork", x.back(1), 0);
        due("none", x.back(3), -2);
        // kinds that look like a way, and the path itself
        BlazedPath y = party("c1(1=1)");
        forest(y, rows("j12", "jtjrjsjpjbjo", "j12", "=", "=", "=", "=", "=", "=", "=", "=", "="));
        orders(y, "9e2e");
        int[] forks = {0, 0, 0, 1, 0, 1, 0, 1, 0, 0, 0, 1};
        for (int p = 0; p < 12; p++) {
            due("fork at " + p, y.path(p, 5), forks[p]);
        }
        BlazedPath corner = party("c1(1=1)");
        forest(corner, rows("oj11", "j12", "=", "=", "=", "=", "=", "=", "=", "=", "=", "="));
        corner.start(13);
        orders(corner, "wn");
        due("by cell 0", corner.path(1, 5), 1);
        due("one of two", corner.back(1), 1);
        BlazedPath z = party("c1(1=1)");
        orders(z, "2e");
        due("no fork", z.path(1, 5), 0);
        orders(z, "nw");
        due("by the path beside it", z.path(1, 5), 1);
        due("the corner is none", z.path(2, 5), 0);
        due("nor the next one", z.path(3, 5), 0);
        due("but the one beside", z.path(4, 5), 1);
    }

    private static void safePromise() {
        BlazedPath x = openPath();
        due("8/10 four times", x.safe(0), 256);
        due("below", x.safe(1), 625);
        due("what 2", x.safe(2), -1);
        due("what -1", x.safe(-1), -1);
        law(x, "d0(1=1)");
        due("sure", x.safe(0), 1);
        due("sure", x.safe(1), 1);
        law(x, "d10(1=1)");
        due("never", x.safe(0), 0);
        due("never", x.safe(1), 1);
        law(x, "d3(1=1)");
        due("7/10 four times", x.safe(0), 2401);
        due("below", x.safe(1), 10000);
        BlazedPath y = party("d1(1=1)");
        forest(y, OPEN);
        orders(y, "9e2en8w");
        due("blind", y.back(2), 19);
        due("more than 18", y.safe(0), -3);
        due("more than 18", y.safe(1), -3);
        due("what", y.safe(5), -1);
        orders(y, "x");
        due("18", y.back(2), 18);
        due("9 to the 18th", y.safe(0), 150094635296999121L);
        due("10 to the 18th", y.safe(1), 1000000000000000000L);
    }

    private static void homePromise() {
        BlazedPath x = openPath();
        due("the minute", x.count(1), 20);
        x.seed(12);
        // X: 53781, then (25173 * 53781 + 13849) mod 65536 and so on
        int drawn = 12;
        int minutes = 0;
        for (int p = 4; p > 0; p--) {
            drawn = (int) ((25173L * drawn + 13849) % 65536);
            minutes += drawn % 10 < 2 ? 33 : 3;
        }
        due("home", x.home(), minutes);
        due("X", x.count(8), drawn);
        due("place", x.count(3), 0);
        due("the minute", x.count(1), 20 + minutes);
        due("at home", x.home(), 0);
        due("no draw", x.count(8), drawn);
        // dark on the way: its draw is done
        BlazedPath y = openPath();
        y.light(24);
        y.seed(0);
        due("one step", y.home(), 3);
        due("place", y.count(3), 3);
        due("two draws", y.count(8), (int) ((25173L * 13849 + 13849) % 65536));
        // X is 39022: 2 is not below 2
        BlazedPath v = openPath();
        v.light(25);
        due("a draw like d is right", v.home(), 3);
        BlazedPath u = party("c5(1=1);v9-f*8(1=1)");
        orders(u, "ebee");
        due("each step onto the place ahead", u.home(), 9 + 1 + 9);
        // no draws where no fork is blind
        BlazedPath z = party("c5(1=1);v3(1=1);d10(1=1)");
        orders(z, "3e");
        due("home through jungle", z.home(), 9);
        due("no draw", z.count(8), 1);
        BlazedPath w = openPath();
        law(w, "v0(1=1);d0(1=1)");
        w.light(19);
        due("above light already", w.home(), 0);
        due("not done", w.count(3), 4);
        due("its draw is", w.count(8), 39022);
    }

    private static void pathPromise() {
        BlazedPath x = openPath();
        x.width(3);
        orders(x, "nob");
        x.days(1);
        int[] wants = {16, 0, 3, 3, 0, 1, 1};
        for (int what = 0; what < 7; what++) {
            due("path(5, " + what + ")", x.path(5, what), wants[what]);
        }
        due("what 7", x.path(5, 7), -1);
        due("what -1", x.path(5, -1), -1);
        due("place 6", x.path(6, 0), -1);
        due("place -1", x.path(-1, 0), -1);
        due("place -1", x.path(-1, 1), -1);
        due("place 100", x.path(100, 4), -1);
        due("first is no fork", x.path(0, 5), 0);
        due("first is not blind", x.path(0, 6), 0);
        orders(x, "sbxn");
        due("mark ahead of it", x.path(5, 6), 0);
        due("still a fork", x.path(5, 5), 1);
        due("stick", x.path(4, 4), 1);
        due("stick: not blind", x.path(4, 6), 0);
        law(x, "g7(1=1)");
        x.days(2);
        due("grown", x.path(5, 1), 14);
    }

    private static void turnPromise() {
        BlazedPath x = party("c5(1=1);v2(1=1)");
        x.light(30);
        due("acts", turn(x, "9e", 0), 4);
        due("minutes", turn(x, "9e", 1), 28);
        due("nothing is changed", x.count(2), 1);
        due("nothing acts, too", turn(x, "3ww9e", 0), 8);
        due("all", turn(x, "2e", 0), 2);
        due("all", turn(x, "2e", 1), 14);
        due("none", turn(x, "9(9.)", 0), 3);
        orders(x, "4e");
        due("behind what is done", turn(x, "e", 0), 0);
        due("back alone", turn(x, "e", 1), 8);
        x.light(27);
        due("not even none", turn(x, "e", 0), -2);
        due("not even none", turn(x, "e", 1), -2);
        tell(x, "e");
        due("what 2", x.turn(1, 2), -1);
        due("what -1", x.turn(1, -1), -1);
        due("n 0", x.turn(0, 0), -1);
        due("n 21", x.turn(21, 0), -1);
        due("the tape stays", x.count(7), 20);
        due("fault", x.turn(2, 0), -1001);
        due("empty then", x.count(7), 0);
        // walking back and out again on a path that is marked on one face
        BlazedPath y = party("c4(1=1);v9-f*8(1=1)");
        y.light(40);
        due("with marks the way back is short", turn(y, "b3(eb)", 0), 7);
        due("minutes", turn(y, "b3(eb)", 1), 8 + 12 + 3);
        due("walks", turn(y, "b3(eb)2w", 1), 8 + 12 + 3);
    }

    private static void soonestPromise() {
        BlazedPath x = new BlazedPath();
        due("nobody is ahead", x.soonest(0, 1, 0), -1);
        x.person(0, 5);
        law(x, "c10(k=2);c1(k=0);c2+w+a+t(k=1)");
        due("straight", x.soonest(0, 3, 0), 30);
        due("cells", x.soonest(0, 3, 1), 3);
        due("first", x.soonest(0, 3, 2), 1);
        due("n ahead of e", x.soonest(0, 13, 2), 0);
        due("e ahead of s", x.soonest(12, 1, 2), 1);
        due("s", x.soonest(13, 0, 2), 2);
        due("w", x.soonest(1, 0, 2), 3);
        forest(x, rows("j3o2j7", "oj3oj7", "o5j7", "b12", "j12", "=", "=", "=", "=", "=", "=", "="));
        due("round by the open", x.soonest(0, 4, 0), 8);
        due("cells", x.soonest(0, 4, 1), 8);
        due("first", x.soonest(0, 4, 2), 0);
        due("no way through bamboo", x.soonest(0, 50, 0), -2);
        due("no way", x.soonest(0, 50, 1), -2);
        due("no way", x.soonest(0, 50, 2), -2);
        due("it is there", x.soonest(5, 5, 0), 0);
        due("it is there", x.soonest(5, 5, 1), 0);
        due("it is there", x.soonest(5, 5, 2), -2);
        due("onto bamboo", x.soonest(0, 40, 0), -1);
        due("from bamboo", x.soonest(40, 0, 0), -1);
        due("bamboo itself", x.soonest(40, 40, 0), -1);
        due("no cell", x.soonest(-1, 0, 0), -1);
        due("no cell", x.soonest(0, 144, 0), -1);
        due("what", x.soonest(0, 1, 3), -1);
        due("what", x.soonest(0, 1, -1), -1);
        // of ways that take no minutes the one of the fewest cells
        law(x, "c0(1=1)");
        due("fewest cells", x.soonest(0, 4, 1), 4);
        due("of those the lowest step", x.soonest(0, 4, 2), 1);
        law(x, "cw*10+a(1=1)");
        x.width(3);
        due("width and arm as they are", x.soonest(0, 2, 0), 70);
    }

    private static void campPromise() {
        BlazedPath x = party("c1(1=1)");
        due("none", x.camp(0), -2);
        due("none", x.camp(1), -2);
        due("what", x.camp(2), -1);
        due("what", x.camp(-1), -1);
        forest(x, rows("j3s9", "j12", "sj11", "=", "j12", "=", "=", "=", "=", "=", "=", "="));
        due("nearest", x.camp(0), 24);
        due("steps", x.camp(1), 2);
        orders(x, "e");
        due("nearest", x.camp(0), 3);
        x.start(13);
        due("of like ones the lowest", x.camp(0), 24);
        x.start(14);
        due("of like ones the lowest", x.camp(0), 3);
        x.start(24);
        due("here", x.camp(0), 24);
        forest(x, rows("sj11", "j12", "=", "=", "=", "=", "=", "=", "=", "=", "=", "="));
        due("cell 0", x.camp(0), 0);
        forest(x, rows("j3s9", "j12", "sj11", "=", "j12", "=", "=", "=", "=", "=", "=", "="));
        due("here again", x.camp(0), 24);
        due("here", x.camp(1), 0);
        forest(x, rows("jbs10", "b12", "j12", "=", "=", "=", "=", "=", "=", "=", "=", "s12"));
        x.start(0);
        due("shut in", x.camp(0), -2);
        x.start(24);
        due("not through bamboo", x.camp(0), 132);
        due("steps", x.camp(1), 9);
        forest(x, rows("j12", "=", "b12", "s12", "=", "=", "=", "=", "=", "=", "=", "="));
        due("from bamboo one comes out", x.camp(0), 36);
    }

    private static void byTurnsPromise() {
        BlazedPath x = new BlazedPath();
        x.person(1, 5);
        x.person(4, 8);
        law(x, "n30(1=1);e10(1=1)");
        due("one turn", x.byTurns(1, 18, 10), 80);
        due("one turn", x.byTurns(1, 18, 0), 4);
        // 4, 4: 80 + 60; the bound of n is 20
        due("two turns", x.byTurns(2, 18, 10), 140);
        due("two turns", x.byTurns(2, 18, 1), 4);
        int[] arms = {0, 5, 0, 0, 8, 0};
        int[] best = null;
        for (int bits = 0; bits < 64; bits++) {
            int[] row = new int[6];
            for (int i = 0; i < 6; i++) {
                row[i] = (bits >> 5 - i & 1) == 0 ? 1 : 4;
            }
            if (best == null || yards(row, arms, 20, 10) > yards(best, arms, 20, 10)) {
                best = row;
            }
        }
        due("six turns", x.byTurns(6, 18, 10), yards(best, arms, 20, 10));
        for (int i = 0; i < 6; i++) {
            due("who in turn " + i, x.byTurns(6, 18, i), best[i]);
        }
        due("one of them", x.byTurns(3, 2, 10), 50 + 30 + 10);
        due("n 0", x.byTurns(0, 18, 10), -1);
        due("n 7", x.byTurns(7, 18, 10), -1);
        due("nobody", x.byTurns(1, 0, 10), -1);
        due("not told", x.byTurns(1, 1, 10), -1);
        due("not told, too", x.byTurns(1, 19, 10), -1);
        due("no such people", x.byTurns(1, 64 + 18, 10), -1);
        due("no such people", x.byTurns(1, -1, 10), -1);
        due("what 2 of two", x.byTurns(2, 18, 2), -1);
        due("what -1", x.byTurns(2, 18, -1), -1);
        due("what 11", x.byTurns(2, 18, 11), -1);
        for (int p = 0; p < 6; p++) {
            x.person(p, 3);
        }
        due("like ones: the least row", x.byTurns(3, 60, 0), 2);
        due("like ones: the least row", x.byTurns(3, 60, 1), 3);
        due("like ones: the least row", x.byTurns(3, 60, 2), 4);
        due("five are too many", x.byTurns(1, 62, 10), -1);
        due("four", x.byTurns(1, 30, 10), 30);
        law(x, "n20(1=1)");
        due("0 at least", x.byTurns(6, 1, 10), 30 + 10);
        law(x, "nk*9(1=1)");
        due("of jungle", x.byTurns(2, 1, 10), 30 + 12);
        // tired as they are, and nothing is changed
        law(x, "n20(1=1)");
        x.ahead(0);
        orders(x, "e");
        due("tired now", x.byTurns(1, 1, 10), 10);
        due("still", x.personIs(0, 1), 20);
    }

    private static int yards(int[] row, int[] arms, int more, int less) {
        int[] tired = new int[6];
        int sum = 0;
        for (int who : row) {
            sum += Math.max(0, 10 * arms[who] - tired[who]);
            for (int p = 0; p < 6; p++) {
                tired[p] = p == who ? Math.min(99, tired[p] + more) : Math.max(0, tired[p] - less);
            }
        }
        return sum;
    }

    private static void plannedPromise() {
        BlazedPath x = new BlazedPath();
        due("nobody is ahead", x.planned(2, 10, 0, 0), -1);
        x.person(0, 5);
        law(x, "c4*w(1=1);v12-f*9(1=1)");
        // each cell 4 + 2 + 3
        due("marks pay", x.planned(2, 10, 0, 0), 90);
        due("width", x.planned(2, 10, 0, 1), 1);
        due("each cell", x.planned(2, 10, 0, 2), 1);
        due("face", x.planned(2, 10, 0, 3), 2);
        law(x, "c4*w(1=1);v12-f*2(1=1)");
        due("of like ones with a mark", x.planned(2, 10, 0, 3), 2);
        due("on each cell", x.planned(2, 10, 0, 2), 1);
        due("minutes", x.planned(2, 10, 0, 0), 160);
        law(x, "c4*w(1=1);v12-f(1=1)");
        due("marks don't pay", x.planned(2, 10, 0, 3), 0);
        due("without one: 1", x.planned(2, 10, 0, 2), 1);
        due("minutes", x.planned(2, 10, 0, 0), 160);
        // seen is worse: the fewest marks would be of six cells, none is better
        law(x, "v2+f*9(1=1)");
        due("none", x.planned(2, 99, 0, 3), 0);
        // wide costs at cutting, narrow at growing
        law(x, "c2*w(1=1);g5-w(1=1);v1+q/2(1=1)");
        // width w: 2 w + 1 + 2 (5 - w) / 2 of 4 days: w 1: 2 + 9, w 2: 4 + 7, w 3: 6 + 5, w 4: 8 + 3
        due("of like ones the least width", x.planned(0, 7, 4, 1), 1);
        due("minutes", x.planned(0, 7, 4, 0), 77);
        due("30 days: wide pays", x.planned(0, 7, 30, 1), 4);
        due("8 + 1 + 15", x.planned(0, 7, 30, 0), 7 * 24);
        law(x, "v10-f*9(1=1)");
        due("one cell", x.planned(1, 1, 0, 0), 3);
        due("99 cells", x.planned(1, 99, 0, 0), 297);
        x.days(3);
        law(x, "cy(1=1);gy(1=1);vy+q(1=1)");
        // c 3; g 3, 4; v 5 + 7
        due("y as it goes", x.planned(1, 1, 2, 0), 3 + 12);
        due("bamboo", x.planned(3, 1, 0, 0), -1);
        due("kind -1", x.planned(-1, 1, 0, 0), -1);
        due("kind 7", x.planned(7, 1, 0, 0), -1);
        due("0 cells", x.planned(2, 0, 0, 0), -1);
        due("100 cells", x.planned(2, 100, 0, 0), -1);
        due("-1 days", x.planned(2, 1, -1, 0), -1);
        due("31 days", x.planned(2, 1, 31, 0), -1);
        due("what 4", x.planned(2, 1, 0, 4), -1);
        due("what -1", x.planned(2, 1, 0, -1), -1);
        law(x, "n7(1=1);ca+t*2+w(1=1)");
        orders(x, "e");
        due("arm and tired", x.planned(2, 2, 0, 0), 2 * (5 + 14 + 1));
    }

    private static void pacesPromise() {
        BlazedPath x = new BlazedPath();
        int[] wants = {10 - 1, 10 + 1, 25 - 5, 25 + 5, 3 * 11};
        for (int what = 0; what < 5; what++) {
            due("paces " + what, paces(x, "19r9l40f15b", 10, what), wants[what]);
        }
        due("one of one", paces(x, "5r", 1, 0), 0);
        due("one of one", paces(x, "5r", 1, 1), 10);
        due("one of 99", paces(x, "99b", 99, 2), -100);
        due("rounded down", paces(x, "9f9f9f", 10, 4), 1);
        due("left", paces(x, "07l", 99, 0), -7);
        String[] faulty = {"0r", "00r", "000", "r", "5", "5x", "123r", "1r1", "1r ", "1rr", "1r1r1r1r1r1r1r1r1", "1r1r1r1r1r1r1r1rx",
            "1r1r1r1r1r1r1r1r0r", "1r0", "50", "0"};
        int[] faults = {-3000, -3000, -3000, -1000, -1001, -1001, -1002, -1003, -1002, -1002, -4016, -1016,
            -4016, -3002, -1002, -3000};
        for (int i = 0; i < faulty.length; i++) {
            due("paces " + faulty[i], paces(x, faulty[i], 5, 0), faults[i]);
        }
        due("eight legs", paces(x, "1r1r1r1r1r1r1r1r", 5, 0), 8);
        tell(x, "1r");
        due("of 0", x.paces(2, 0, 0), -1);
        due("of 100", x.paces(2, 100, 0), -1);
        due("what 5", x.paces(2, 1, 5), -1);
        due("what -1", x.paces(2, 1, -1), -1);
        due("n 0", x.paces(0, 1, 0), -1);
        due("n 21", x.paces(21, 1, 0), -1);
        due("the tape stays", x.count(7), 20);
        tell(x, times(" ", 40));
        due("n 41", x.paces(41, 1, 0), -1);
        due("n 40", x.paces(40, 1, 0), -1002);
        due("empty then", x.count(7), 0);
    }

    private static void seekPromise() {
        BlazedPath x = new BlazedPath();
        x.start(36);
        due("sum", seek(x, 10, 38, 1, 60, 9), 9 * 2 + (2 + 4));
        due("first", seek(x, 0, 38, 1, 60, 9), 1);
        due("second", seek(x, 1, 38, 1, 60, 9), 0);
        due("of like ones the least row", seek(x, 0, 60, 3, 12, 3), 0);
        due("the same cell twice", seek(x, 0, 60, 3, 60, 3), 0);
        due("one cell", seek(x, 10, 36, 9), 0);
        due("in a row", seek(x, 10, 37, 1, 38, 1, 39, 1, 40, 1, 41, 1, 42, 1), 21);
        due("back to front", seek(x, 0, 42, 1, 41, 1, 40, 1, 39, 1, 38, 1, 37, 1), 5);
        due("cell 144", seek(x, 10, 144, 1), -2);
        due("cell 143", seek(x, 10, 143, 1), 8 + 11);
        due("weight 0", seek(x, 10, 5, 0), -2);
        due("weight 10", seek(x, 10, 5, 10), -2);
        due("no such place", seek(x, 1, 5, 1), -4);
        due("no such place", seek(x, -1, 5, 1), -4);
        due("no such place", seek(x, 11, 5, 1), -4);
        due("a byte out of bounds first", seek(x, 6, 200, 1), -2);
        due("empty then", x.count(7), 0);
        tell(x, bytes(5, 1, 6));
        due("n 0", x.seek(0, 10), -1);
        due("n 7", x.seek(7, 10), -1);
        due("n huge", x.seek(1 << 30, 10), -1);
        due("the tape stays", x.count(7), 20);
        due("n 1", x.seek(1, 10), 3 + 5);
        due("nothing on the tape", x.seek(1, 10), -1);
        BlazedPath y = party("c1(1=1)");
        orders(y, "3e");
        due("from the party", seek(y, 10, 3, 5), 0);
    }

    private static void blazesPromise() {
        BlazedPath x = new BlazedPath();
        law(x, "g4-w(k=2);g2(k=0)");
        due("first", blazes(x, 10, 2, 1, 6, 9), 2);
        due("last", blazes(x, 20, 2, 1, 6, 9), 3);
        due("none between", blazes(x, 10, 2, 1, 7, 8), -2);
        due("none between", blazes(x, 20, 2, 1, 7, 8), -2);
        due("can't have been cut", blazes(x, 0, 2, 1, 7, 8, 2, 1, 6, 9), -2);
        due("does not grow", blazes(x, 20, 2, 4, 0, 0), 60);
        due("does not grow", blazes(x, 10, 2, 4, 0, 99), 0);
        due("beyond 60", blazes(x, 10, 2, 3, 61, 61), -2);
        due("60", blazes(x, 10, 2, 3, 60, 99), 60);
        due("99 at most", blazes(x, 20, 2, 1, 99, 99), 60);
        due("99 at most", blazes(x, 10, 2, 1, 99, 99), 33);
        due("cutters", blazes(x, 0, 2, 1, 6, 9, 2, 1, 0, 0), 2);
        due("all on one day", blazes(x, 0, 2, 1, 6, 9, 2, 1, 0, 99, 2, 2, 6, 8), 1);
        // days 0 to 3, 3 to 5, 5 to 9, 4 to 4, by a growth of 3 a day
        due("two of three", blazes(x, 0, 2, 1, 0, 9, 2, 1, 9, 15, 2, 1, 15, 27), 2);
        due("three", blazes(x, 0, 2, 1, 0, 9, 2, 1, 12, 12, 2, 1, 15, 27), 3);
        due("second's first", blazes(x, 11, 2, 1, 0, 9, 2, 1, 12, 12), 4);
        due("second's last", blazes(x, 21, 2, 1, 0, 9, 2, 1, 9, 14), 4);
        due("eight", blazes(x, 27, 0, 1, 0, 0, 0, 1, 0, 0, 0, 1, 0, 0, 0, 1, 0, 0, 0, 1, 0, 0, 0, 1, 0, 0, 0, 1, 0, 0, 0, 1, 2, 5), 2);
        due("bamboo, too", blazes(x, 0, 3, 1, 0, 0), 1);
        int[][] bad = {{7, 1, 0, 0}, {2, 0, 0, 0}, {2, 5, 0, 0}, {2, 1, 0, 100}, {2, 1, 100, 100}, {2, 1, 5, 4}};
        for (int[] b : bad) {
            due("out of bounds", blazes(x, 0, b), -3);
        }
        due("out of bounds first", blazes(x, 5, 7, 1, 0, 0), -3);
        for (int what : new int[] {-1, 1, 9, 11, 19, 21, 30}) {
            due("no such what " + what, blazes(x, what, 2, 1, 0, 0), -4);
        }
        due("empty then", x.count(7), 0);
        tell(x, bytes(2, 1, 0, 0));
        due("n 0", x.blazes(0, 0), -1);
        due("n 9", x.blazes(9, 0), -1);
        due("n 6 of 20", x.blazes(6, 0), -1);
        due("n huge", x.blazes(1 << 30, 0), -1);
        due("the tape stays", x.count(7), 20);
        BlazedPath y = new BlazedPath();
        y.days(2);
        law(y, "gy(1=1)");
        due("y as now", blazes(y, 20, 0, 1, 8, 8), 4);
    }

    private static void sightsPromise() {
        BlazedPath x = openPath();
        // places 0 to 4: . f f f f, then a mark on 2 and on 0
        orders(x, "2wb2wb4e");
        due("m alone", sights(x, "m", 0), 1);
        due("m at the first", sights(x, "m", 1), 0);
        due("2", sights(x, "2", 1), 2);
        due("f", sights(x, "f", 0), 3);
        due("f lowest", sights(x, "f", 1), 1);
        due("m lowest and highest", sights(x, "m", 2), 0);
        due("f highest", sights(x, "f", 2), 4);
        due("row", sights(x, "ff2fm", 0), 1);
        due("row from", sights(x, "ff2fm", 1), 4);
        due("part", sights(x, "f2", 2), 3);
        due("none", sights(x, "mm", 0), 0);
        due("none", sights(x, "mm", 1), -2);
        due("none", sights(x, "mm", 2), -2);
        due("a dot", sights(x, ".", 0), 0);
        due("longer than the path", sights(x, "ff2fm.", 0), 0);
        due("out face is no mark", orders(x, "o"), 2);
        due("out face is no mark", sights(x, "f", 0), 3);
        BlazedPath y = party("c1(1=1)");
        orders(y, "beebe");
        due("lowest of two", sights(y, "m", 1), 0);
        due("highest of two", sights(y, "m", 2), 2);
        due("two", sights(y, "m", 0), 2);
        due("fault", sights(x, "fx", 0), -1001);
        due("fault", sights(x, " ", 2), -1000);
        due("fault", sights(x, "m1", 0), -1001);
        tell(x, "f");
        due("what 3", x.sights(1, 3), -1);
        due("what -1", x.sights(1, -1), -1);
        due("n 0", x.sights(0, 0), -1);
        due("n 21", x.sights(21, 0), -1);
        due("the tape stays", x.count(7), 20);
        tell(x, "f");
        due("n 21 of 40", x.sights(21, 0), -1);
        due("n 20", x.sights(20, 0), -1001);
        due("empty then", x.count(7), 0);
    }

    private static void seedPromise() {
        BlazedPath x = new BlazedPath();
        due("seed -1", x.seed(-1), false);
        due("seed 65536", x.seed(65536), false);
        due("X", x.count(8), 1);
        due("seed 65535", x.seed(65535), true);
        due("X", x.count(8), 65535);
        due("seed 0", x.seed(0), true);
        due("X", x.count(8), 0);
        BlazedPath y = openPath();
        y.seed(65535);
        y.light(0);
        y.home();
        due("the next of 65535", y.count(8), (int) ((25173L * 65535 + 13849) % 65536));
    }

    private static void keepAndUndo() {
        BlazedPath x = party("c5(1=1);v1(1=1);n4(1=1);g2(1=1);d5(1=1)");
        x.person(2, 3);
        due("nothing is kept", x.undo(), false);
        orders(x, "2eo");
        due("keep", x.keep(), 3);
        x.width(3);
        x.light(700);
        x.seed(77);
        x.ahead(2);
        orders(x, "nbx2w");
        x.days(4);
        x.person(0, 9);
        x.person(5, 6);
        orders(x, "e");
        due("undo", x.undo(), true);
        due("day", x.count(0), 0);
        due("minute", x.count(1), 12);
        due("cells", x.count(2), 3);
        due("place", x.count(3), 2);
        due("told stay", x.count(4), 37);
        due("ahead", x.count(5), 0);
        due("X", x.count(8), 1);
        due("width stays", x.count(9), 3);
        due("light stays", x.count(10), 700);
        due("tired", x.personIs(0, 1), 8);
        due("the arm stays", x.personIs(0, 0), 9);
        due("tired of one told since", x.personIs(5, 1), 0);
        due("grown", x.path(1, 1), 0);
        due("marks", x.path(2, 3), 1);
        due("the cell can be cut again", orders(x, "n"), 5);
        due("undo again", x.undo(), true);
        due("cells", x.count(2), 3);
        x.start(100);
        due("keep another", x.keep(), 1);
        orders(x, "e");
        due("undo", x.undo(), true);
        due("as kept last", x.path(0, 0), 100);
        due("one", x.count(2), 1);
        forest(x, JUNGLE);
        due("a forest ends it", x.undo(), false);
    }

    private static void checkPromise() {
        BlazedPath x = party("c5(1=1);g3(1=1)");
        x.days(1);
        orders(x, "e");
        x.days(2);
        orders(x, "e");
        due("right", check(x, 9, 6, 0), -1);
        due("first", check(x, 8, 6, 0), 0);
        due("second", check(x, 9, 7, 1), 1);
        due("third", check(x, 9, 6, 1), 2);
        due("fewer", check(x, 9), -1);
        due("more are 0", check(x, 9, 6, 0, 0, 0), -1);
        due("more are not 0", check(x, 9, 6, 0, 0, 1), 4);
        due("n 0", x.check(0), -1);
        x.feed(0x09060000, 0, 0, 0, 0);
        due("n -1", x.check(-1), -2);
        due("n 21", x.check(21), -2);
        due("the tape stays", x.count(7), 20);
        due("n 0 empties it", x.check(0), -1);
        due("empty", x.count(7), 0);
        for (int i = 0; i < 6; i++) {
            x.feed(i == 0 ? 0x09060000 : 0, 0, 0, 0, 0);
        }
        due("n 101", x.check(101), -2);
        due("n 100", x.check(100), -1);
    }

    private static void countPromise() {
        BlazedPath x = party("c5(1=1);v1(1=1)");
        x.days(2);
        orders(x, "3ew");
        x.feed(1, 2, 3, 4, 5);
        int[] wants = {2, 16, 4, 2, 1, 0, 2, 20, 1, 1, 600};
        for (int what = 0; what < wants.length; what++) {
            due("count(" + what + ")", x.count(what), wants[what]);
        }
        for (int what : new int[] {-1, 11, 50, 99, 244, 1000, Integer.MIN_VALUE, Integer.MAX_VALUE}) {
            due("count(" + what + ")", x.count(what), -1);
        }
    }

    public static void main(String[] args) {
        newObject();
        feedPromise();
        forestPromise();
        lawPromise();
        startPromise();
        peoplePromises();
        widthAndLight();
        ordersPromise();
        triedPromise();
        daysPromise();
        backPromise();
        safePromise();
        homePromise();
        pathPromise();
        turnPromise();
        soonestPromise();
        campPromise();
        byTurnsPromise();
        plannedPromise();
        pacesPromise();
        seekPromise();
        blazesPromise();
        sightsPromise();
        seedPromise();
        keepAndUndo();
        checkPromise();
        countPromise();
        System.out.println(wrong == 0 ? "all " + asked + " answers are as due" : wrong + " answers are not as due");
        if (wrong != 0) {
            System.exit(1);
        }
    }
}
