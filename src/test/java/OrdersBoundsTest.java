/** The boundaries of promises 10, 11 and 17: the text of ORDERS, what each ACT does and does not, when it is DARK, TURN. */
public final class OrdersBoundsTest extends Probe {
    /** How many ACTS a text tells, on an object where each is done; or its fault. */
    private static int acts(String text) {
        return tried(new BlazedPath(), text, 2);
    }

    private static void lengths() {
        sentence("Promise 10: the first n bytes of the tape (1 to 80; empty then)");
        for (int n : new int[] {1, 2, 19, 20, 21, 79, 80}) {
            BlazedPath x = new BlazedPath();
            tell(x, times("s", n));
            due("orders(" + n + ")", x.orders(n), 0);
            due("empty then", x.count(7), 0);
            tell(x, times("s", n));
            due("tried(" + n + ", 2)", x.tried(n, 2), n);
            due("empty then", x.count(7), 0);
            tell(x, times("s", n));
            due("turn(" + n + ", 0)", x.turn(n, 0), n);
            due("empty then", x.count(7), 0);
        }
        BlazedPath x = new BlazedPath();
        tell(x, times("x", 90));
        due("orders(81)", x.orders(81), -1);
        due("tried(81, 0)", x.tried(81, 0), -1);
        due("turn(81, 0)", x.turn(81, 0), -1);
        due("orders(0)", x.orders(0), -1);
        due("the tape stays", x.count(7), 100);
        due("no STICK", x.path(0, 4), 0);
        due("orders(80)", x.orders(80), 1);
        due("empty then", x.count(7), 0);
        sentence("Promise 10: the first n bytes alone");
        BlazedPath y = new BlazedPath();
        tell(y, "xob");
        due("orders(1)", y.orders(1), 1);
        due("no MARK", y.path(0, 3), 0);
        due("empty then", y.count(7), 0);
        due("orders(1) of none", y.orders(1), -1);
        sentence("Promise 10: it has not so many");
        tell(y, "o");
        due("orders(21) of 20", y.orders(21), -1);
        due("orders(20) of 20: a blank", y.orders(20), -1001);
        due("nothing is done", y.path(0, 3), 0);
    }

    /** For each byte behind a beginning: a whole text, or the fault at it, or behind it. */
    private static void bytesBehind(String begin, String whole, String fit) {
        for (int sign = 0; sign < 256; sign++) {
            int got = acts(begin + bytes(sign));
            String told = "byte " + sign + " behind " + begin;
            if (whole.indexOf(sign) >= 0) {
                due(told, one(got > 0), 1);
            } else {
                due(told, got, -1000 - begin.length() - (fit.indexOf(sign) >= 0 ? 1 : 0));
            }
        }
    }

    private static void whatCanStand() {
        sentence("Promise 10, Terms: ORDERS, FAULT 1: what can't stand there (the end, too), no blanks");
        String acts = "nesw.+obx";
        String digits = "23456789";
        bytesBehind("", acts, digits + "(");
        bytesBehind("n", acts, digits + "(");
        bytesBehind("2", acts, "(");
        bytesBehind("n9", acts, "(");
        bytesBehind("(", "", acts + digits + "(");
        bytesBehind("(n", ")", acts + digits + "(");
        bytesBehind("(2", "", acts + "(");
        bytesBehind("(n)", acts, digits + "(");
        bytesBehind("2(n)", acts, digits + "(");
        bytesBehind("((n)", ")", acts + digits + "(");
        sentence("Promise 10, Terms: a digit 2 to 9 (so many times)");
        for (int n = 2; n <= 9; n++) {
            due(n + "x", acts(n + "x"), n);
            due(n + "(x)", acts(n + "(x)"), n);
            due(n + "(xx)", acts(n + "(xx)"), 2 * n);
            due(n + "(" + n + "x)", acts(n + "(" + n + "x)"), n * n);
        }
        due("0x", acts("0x"), -1000);
        due("1x", acts("1x"), -1000);
        due("(1x)", acts("(1x)"), -1001);
        due("two digits", acts("22x"), -1001);
        due("a digit ahead of )", acts("(x2)"), -1003);
        due("a digit at the end", acts("x2"), -1002);
        sentence("Promise 10, Terms: (ACTS): one at least");
        due("()", acts("()"), -1001);
        due("2()", acts("2()"), -1002);
        due("(())", acts("(())"), -1002);
        due("(x)", acts("(x)"), 1);
        due("( that is not closed", acts("(x"), -1002);
        due("( at the end", acts("x("), -1002);
        due(") that was not opened", acts("x)"), -1001);
        due("closed twice", acts("(x))"), -1003);
        due("( ) one behind the other", acts("(x)(x)2(x)"), 4);
    }

    private static void openAndMany() {
        sentence("Promise 10, Terms: FAULT 5: a third ( that is open in another one, at it");
        due("two", acts("((x))"), 1);
        due("three", acts("(((x)))"), -5002);
        due("three with digits", acts("2(2(2(x)))"), -5005);
        due("three with digits, at its (", acts("2(2(3(x)))"), -5005);
        due("behind others", acts("x(x(xx(x)))"), -5006);
        due("two behind two", acts("((x)(x))((x)(x))"), 4);
        due("a third behind two that are closed", acts("((x)(x(x)))"), -5006);
        due("a third and nothing behind", acts("((("), -5002);
        due("a third can't stand behind two digits", acts("((22(x)))"), -1003);
        sentence("Promise 10, Terms: 90 in all at most");
        due("90 of nine times ten", acts("9(9xx)"), 90);
        due("90 by digits", acts("9x9x9x9x9x9x9x9x9x9x"), 90);
        due("90 in ( ) in ( )", acts("9(x9(x))"), 90);
        due("90 of 5 times 9 times 2", acts("5(9(xx))"), 90);
        due("90 by 76 bytes", acts(times("x", 70) + "9x9x2x"), 90);
        due("91 by 77 bytes", acts(times("x", 70) + "9x9x2xx"), -6076);
        due("89 and one", acts("9(9x)8xx"), 90);
        sentence("Promise 10, Terms: FAULT 6: more than 90, at the first byte of the ACT (or its digit) by which they are");
        due("91st", acts("9(9x)9xx"), -6007);
        due("91st by a digit", acts("9(9x)8x2x"), -6007);
        due("a row of digits", acts("9x9x9x9x9x9x9x9x9x9xx"), -6020);
        due("a row of digits", acts("9x9x9x9x9x9x9x9x9x9x9x"), -6020);
        due("by a ( )", acts("9(9x)2(5x)"), -6005);
        due("by a ( ) without a digit", acts("9(9x)9x2x"), -6007);
        due("9 times 11", acts("9(9xxx)"), -6000);
        due("behind an ACT", acts("x9(9xx)"), -6001);
        due("twice 46", acts("2(9(5x)x)"), -6000);
        due("9 times 9 times 9", acts("9(9(9x))"), -6000);
        sentence("Promise 10, Terms: FAULT 6 is asked when it ends; of an inner one first");
        due("an inner one", acts("2(9(9x9x)x)"), -6002);
        due("an inner one behind an ACT", acts("(xx9(9x9x))"), -6003);
        due("what can't stand inside comes first", acts("9(9(9x)!)"), -1007);
        due("not closed comes first", acts("9(9(9x)"), -1007);
        due("a third ( comes first", acts("9(9(9x)(("), -5008);
        due("what can't stand behind comes later", acts("9(9(9x))!"), -6000);
        due("1 ahead of 6", acts("!9(9(9x))"), -1000);
        sentence("Promise 10: a FAULT (nothing is done)");
        BlazedPath x = party("c5(1=1)");
        for (String text : new String[] {"eox.!", "eox.(((", "eox.9(9e)9e9e", "e2", "(e"}) {
            due(text, one(orders(x, text) < -999), 1);
            due("THE MINUTE", x.count(1), 0);
            due("CELLS", x.count(2), 1);
            due("MARK", x.path(0, 3), 0);
        }
    }

    private static void ways() {
        sentence("Promise 10, Terms: n (y + 1), e (x + 1), s (y - 1), w (x - 1); no CELL outside, and no wrap-around at a side");
        int[] starts = {0, 11, 132, 143, 12, 23, 5, 137, 66};
        for (int cell : starts) {
            int x = cell % 12;
            int y = cell / 12;
            int[] wants = {y < 11 ? cell + 12 : -1, x < 11 ? cell + 1 : -1, y > 0 ? cell - 12 : -1, x > 0 ? cell - 1 : -1};
            for (int way = 0; way < 4; way++) {
                BlazedPath b = party("c5(1=1);n1(1=1)");
                b.start(cell);
                String act = "nesw".substring(way, way + 1);
                due(act + " from " + cell, orders(b, act), wants[way] < 0 ? 0 : 5);
                due("CELL", b.path(1, 0), wants[way]);
                due("place", b.count(3), wants[way] < 0 ? 0 : 1);
                due("TIRED", b.personIs(0, 1), wants[way] < 0 ? 0 : 1);
            }
        }
        sentence("Promise 10, Terms: to the next CELL of THE PATH, or to the one ahead of this: v MINUTES; else nothing in its middle");
        BlazedPath x = party("c5(1=1);v3(1=1);n1(1=1)");
        x.start(66);
        orders(x, "enw");
        due("onto THE PATH, not next to it in its order", orders(x, "s"), 0);
        due("place", x.count(3), 3);
        due("to the one ahead", orders(x, "e"), 3);
        due("place", x.count(3), 2);
        due("no cutting in the middle", orders(x, "n"), 0);
        due("nor there", orders(x, "e"), 0);
        due("place", x.count(3), 2);
        due("to the first", orders(x, "sw"), 6);
        due("place", x.count(3), 0);
        due("none ahead of the first", orders(x, "w"), 0);
        due("not across", orders(x, "n"), 0);
        due("to the end", orders(x, "enw"), 9);
        due("place", x.count(3), 3);
        due("TIRED by cutting alone", x.personIs(0, 1), 3);
        sentence("Promise 10, Terms: there is a CELL that is no bamboo");
        BlazedPath b = party("c5(1=1)", forestOf("jb11", "ob11", "b12"));
        due("bamboo", orders(b, "e"), 0);
        due("open", orders(b, "n"), 5);
        due("bamboo", orders(b, "ne"), 0);
        due("CELLS", b.count(2), 2);
        sentence("Promise 10, Terms: somebody is AHEAD");
        BlazedPath nobody = new BlazedPath();
        due("nobody cuts", orders(nobody, "en"), 0);
        due("CELLS", nobody.count(2), 1);
        due("ACTS that are nothing are done", tried(nobody, "en", 2), 2);
        sentence("Promise 10, Terms: THE PATH has less than 100");
        BlazedPath hundred = party("c1(1=1);v1(1=1)");
        for (int i = 0; i < 4; i++) {
            orders(hundred, "9e2en9w2wn");
        }
        due("97", hundred.count(2), 97);
        due("98", orders(hundred, "e"), 1);
        due("99", orders(hundred, "e"), 1);
        due("99", hundred.count(2), 99);
        due("100", orders(hundred, "e"), 1);
        due("100", hundred.count(2), 100);
        due("none more", orders(hundred, "e"), 0);
        due("none more", orders(hundred, "n"), 0);
        due("100", hundred.count(2), 100);
        due("place 99", hundred.count(3), 99);
        due("back from there", orders(hundred, "w"), 1);
        due("out again", orders(hundred, "e"), 1);
    }

    private static void tiring() {
        sentence("Promise 10, Terms: the one AHEAD is more TIRED by n (99 at most; both asked ahead of that)");
        BlazedPath x = party("ct+1(1=1);n20(1=1)");
        int[] minutes = {1, 21, 41, 61, 81, 100, 100};
        int[] tired = {20, 40, 60, 80, 99, 99, 99};
        for (int i = 0; i < 7; i++) {
            due("c with t of before", orders(x, "e"), minutes[i]);
            due("TIRED", x.personIs(0, 1), tired[i]);
        }
        BlazedPath y = party("n1+t(1=1)");
        orders(y, "3e");
        due("n with t of before: 1, 3, 7", y.personIs(0, 1), 7);
        sentence("Promise 10, Terms: A rest: each told one is less TIRED by e (0 at least)");
        BlazedPath z = new BlazedPath();
        z.person(2, 1);
        z.person(5, 1);
        law(z, "n7(1=1);e6(1=1)");
        orders(z, "e+2e");
        orders(z, ".");
        due("7 less 6", z.personIs(2, 1), 1);
        due("14 less 6", z.personIs(5, 1), 8);
        orders(z, ".");
        due("0 at least", z.personIs(2, 1), 0);
        due("8 less 6", z.personIs(5, 1), 2);
        orders(z, "2.");
        due("0 at least", z.personIs(5, 1), 0);
        due("10 MINUTES each", z.count(1), 40);
        due("a rest of nobody", orders(new BlazedPath(), "."), 10);
        sentence("Promise 10, Terms: A change: AHEAD is the next higher told one, or the lowest (no MINUTES; nothing if nobody is AHEAD)");
        BlazedPath c = new BlazedPath();
        due("nobody", orders(c, "+"), 0);
        due("AHEAD", c.count(5), -2);
        c.person(3, 1);
        due("one alone", orders(c, "+"), 0);
        due("stays", c.count(5), 3);
        c.person(0, 1);
        c.person(5, 1);
        int[] wants = {5, 0, 3, 5};
        for (int want : wants) {
            due("no MINUTES", orders(c, "+"), 0);
            due("AHEAD", c.count(5), want);
        }
        due("nine times", orders(c, "9+"), 0);
        due("AHEAD", c.count(5), 5);
    }

    private static void marks() {
        sentence("Promise 10, Terms: A MARK (2 MINUTES), a STICK (1 MINUTE) at the place where THE PARTY is; nothing if it is there");
        BlazedPath x = party("c5(1=1);v3(1=1)");
        due("face 1", orders(x, "o"), 2);
        due("bits", x.path(0, 3), 1);
        due("again", orders(x, "o"), 0);
        due("face 2", orders(x, "b"), 2);
        due("bits", x.path(0, 3), 3);
        due("again", orders(x, "2(ob)"), 0);
        due("STICK", orders(x, "x"), 1);
        due("again", orders(x, "9x"), 0);
        due("bits", x.path(0, 3), 3);
        due("STICK", x.path(0, 4), 1);
        orders(x, "eb");
        due("at another place", x.path(1, 3), 2);
        due("no STICK", x.path(1, 4), 0);
        sentence("Promise 10, Terms: f: 1 if its MARK has the face that is seen so");
        for (int bits = 0; bits < 4; bits++) {
            BlazedPath y = party("c1(1=1);v9-f*5(1=1)");
            orders(y, "e" + ((bits & 1) != 0 ? "o" : "") + ((bits & 2) != 0 ? "b" : "") + "ww");
            due("going out onto MARK " + bits, orders(y, "e"), (bits & 1) != 0 ? 4 : 9);
            orders(y, "e");
            due("coming back onto MARK " + bits, orders(y, "w"), (bits & 2) != 0 ? 4 : 9);
        }
    }

    private static void eachWalk() {
        sentence("Promise 10, Terms: v MINUTES (of that CELL): its KIND, its WIDTH, what has GROWN on it, the face that is seen so");
        BlazedPath x = party("c1(1=1);g3(1=1)", forestOf("tjotrjspjtoj", "b12"));
        String[] marks = {"b", "", "o", "ob", "b", "o", "", "ob", "b", "o", "", "ob"};
        orders(x, marks[0]);
        for (int p = 1; p < 12; p++) {
            x.days(1);
            x.width(p % 4 + 1);
            orders(x, "e" + marks[p]);
        }
        x.width(1);
        law(x, "vk*4+w*3+q/2-f*2(1=1)");
        x.light(999);
        for (int p = 10; p >= 0; p--) {
            due("back onto " + p, orders(x, "w"), walk(x, p, 2));
        }
        for (int p = 1; p < 12; p++) {
            due("out onto " + p, orders(x, "e"), walk(x, p, 1));
        }
        due("out and back", tried(x, "2w2e", 0), walk(x, 10, 2) + walk(x, 9, 2) + walk(x, 10, 1) + walk(x, 11, 1));
    }

    private static int walk(BlazedPath x, int p, int face) {
        int kind = x.count(100 + x.path(p, 0));
        int seen = (x.path(p, 3) & face) != 0 ? 1 : 0;
        return kind * 4 + x.path(p, 2) * 3 + x.path(p, 1) / 2 - seen * 2;
    }

    private static void dark() {
        String[] acts = {"e", "w", ".", "o", "b", "x"};
        int[] minutes = {5, 3, 10, 2, 2, 1};
        sentence("Promise 10, Terms: An ACT whose MINUTES would take THE MINUTE above LIGHT is not done: it is DARK");
        for (int i = 0; i < acts.length; i++) {
            for (int more = -1; more <= 1; more++) {
                BlazedPath x = party("c5(1=1);v3(1=1);n4(1=1);e1(1=1)");
                orders(x, "3e");
                x.light(15 + minutes[i] + more);
                boolean isDone = more >= 0;
                String told = acts[i] + " with LIGHT " + more + " behind it";
                due(told + " is DARK", tried(x, acts[i], 5), one(!isDone));
                due(told + " ACTS done", tried(x, acts[i], 2), one(isDone));
                due(told + " MINUTES tried", tried(x, acts[i], 0), isDone ? minutes[i] : 0);
                due(told, orders(x, acts[i]), isDone ? minutes[i] : 0);
                due("THE MINUTE", x.count(1), isDone ? 15 + minutes[i] : 15);
                due("CELLS", x.count(2), isDone && i == 0 ? 5 : 4);
                due("place", x.count(3), !isDone ? 3 : i == 0 ? 4 : i == 1 ? 2 : 3);
                due("TIRED", x.personIs(0, 1), !isDone ? 12 : i == 0 ? 16 : i == 2 ? 11 : 12);
                due("MARK", x.path(3, 3), !isDone ? 0 : i == 3 ? 1 : i == 4 ? 2 : 0);
                due("STICK", x.path(3, 4), isDone && i == 5 ? 1 : 0);
            }
        }
        sentence("Promise 10, Terms: nor any behind it");
        BlazedPath x = party("c5(1=1);v3(1=1)");
        x.light(12);
        due("two of three", orders(x, "3e"), 10);
        due("what would have time is not done behind it", orders(x, "exob"), 0);
        due("no STICK", x.path(2, 4), 0);
        due("ACTS done", tried(x, "se+xe", 2), 1);
        due("a new text begins anew", orders(x, "x"), 1);
        sentence("Promise 10, Terms: one of 0 MINUTES, too, if THE MINUTE is above LIGHT already");
        BlazedPath y = party("c0(1=1);v0(1=1)");
        y.person(3, 3);
        orders(y, "ee.w");
        for (String act : new String[] {"e", "w", "+"}) {
            y.light(10);
            due(act + " at LIGHT", tried(y, act, 5), 0);
            due(act + " is done", tried(y, act, 2), 1);
            y.light(9);
            due(act + " above LIGHT", tried(y, act, 5), 1);
            due(act + " is not done", tried(y, act, 2), 0);
        }
        y.light(10);
        orders(y, "e");
        due("cutting in 0 at LIGHT", tried(y, "e", 1), 1);
        y.light(9);
        due("cutting in 0 above LIGHT", tried(y, "e", 1), 0);
        due("is DARK", tried(y, "e", 5), 1);
        sentence("Promise 10, Terms: not one by which nothing is done");
        y.light(10);
        orders(y, "wweew");
        y.light(600);
        orders(y, "obx");
        y.light(0);
        for (String act : new String[] {"s", "n", "o", "b", "x", "9(snobx)"}) {
            due(act + " is nothing", tried(y, act, 5), 0);
            due(act + " takes none", tried(y, act, 0), 0);
        }
        due("all are counted", tried(y, "9(snobx)", 2), 45);
        BlazedPath nobody = new BlazedPath();
        orders(nobody, ".");
        nobody.light(0);
        due("a change of nobody", tried(nobody, "+en", 5), 0);
        due("a change of nobody", tried(nobody, "+en", 2), 3);
        due("what is nothing ahead of DARK", tried(nobody, "+en.s", 2), 3);
    }

    private static void tried() {
        sentence("Promise 11: what 0 to 5");
        BlazedPath x = party("c5(1=1);v3(1=1);n4(1=1);e3(1=1)");
        x.person(3, 9);
        int[] wants = {5 + 5 + 3 + 10, 2, 7, 1, 0, 0};
        for (int what = 0; what < 6; what++) {
            due("what " + what, tried(x, "2ew.s+n", what), wants[what]);
        }
        due("TIRED of the one AHEAD then", tried(x, "2e", 4), 8);
        due("with a rest", tried(x, "2e.", 4), 5);
        due("behind a change and back", tried(x, "2e++", 4), 8);
        due("the most TIRED", tried(x, "9(9e)", 4), 44);
        sentence("Promise 11: 4: -2: nobody is told");
        BlazedPath nobody = new BlazedPath();
        int[] none = {0, 0, 3, 0, -2, 0};
        for (int what = 0; what < 6; what++) {
            due("what " + what, tried(nobody, "e+n", what), none[what]);
        }
        sentence("Promise 11: 3 CELL where THE PARTY is then: from where it is");
        x.start(143);
        due("there", tried(x, "n", 3), 143);
        due("s", tried(x, "s", 3), 131);
        due("w", tried(x, "sw", 3), 130);
        sentence("Promise 11: 1 CELLS cut: none, and as many as THE PATH takes");
        due("none", tried(x, "ne", 1), 0);
        BlazedPath y = party("v1(1=1)");
        cutHundred(y);
        due("a full PATH", tried(y, "9e", 1), 0);
        due("ACTS", tried(y, "9e", 2), 9);
        BlazedPath z = party("v1(1=1)");
        due("83 ACTS", tried(z, "3(9e2en9w2wn)9e2e", 1), 83);
        orders(z, "3(9e2en9w2wn)");
        due("27 more", tried(z, "3(9e2en9w2wn)", 1), 27);
        due("at the hundredth", tried(z, "3(9e2en9w2wn)9e", 3), 99);
        sentence("Promise 11: TRIED on THE PATH as it is: WIDTHS, MARKS, STICKS, what has GROWN");
        BlazedPath w = party("vw*10+q-f(1=1);g5(1=1)");
        w.width(4);
        w.start(0);
        orders(w, "2obxeobx");
        w.days(2);
        w.width(1);
        due("walking", tried(w, "w", 0), 40 + 10 - 1);
        due("MARKS and a STICK are there", tried(w, "obxw", 0), 40 + 10 - 1);
        orders(w, "e");
        due("marking, walking", tried(w, "obxw", 0), 5 + 40 + 10 - 1);
        due("nothing is changed", w.path(2, 3) + w.path(2, 4), 0);
    }

    private static void turn() {
        sentence("Promise 17: the most ACTS behind which BACK takes THE MINUTE not above LIGHT; MINUTES of both");
        int[] lights = {0, 6, 7, 13, 14, 20, 21, 62, 63, 999};
        int[] acts = {0, 0, 1, 1, 2, 2, 3, 8, 9, 9};
        for (int i = 0; i < lights.length; i++) {
            BlazedPath x = party("c5(1=1);v2(1=1)");
            x.light(lights[i]);
            due("ACTS by LIGHT " + lights[i], turn(x, "9e", 0), acts[i]);
            due("MINUTES by LIGHT " + lights[i], turn(x, "9e", 1), 7 * acts[i]);
        }
        sentence("Promise 17: -2: not even none can be done");
        BlazedPath x = party("c5(1=1);v2(1=1)");
        orders(x, "3e");
        x.light(21);
        due("none can", turn(x, "e", 0), 0);
        due("BACK alone", turn(x, "e", 1), 6);
        x.light(20);
        due("not even none", turn(x, "e", 0), -2);
        due("not even none", turn(x, "e", 1), -2);
        due("not even by ACTS that are nothing", turn(x, "n9s", 0), -2);
        x.light(0);
        orders(x, "3w");
        due("above LIGHT already", turn(x, "s", 0), -2);
        BlazedPath home = party("c5(1=1)");
        orders(home, ".");
        home.light(10);
        due("at LIGHT, at the first place", turn(home, "x", 0), 0);
        due("MINUTES", turn(home, "x", 1), 0);
        home.light(9);
        due("above it", turn(home, "x", 0), -2);
        sentence("Promise 17: ACTS that are nothing count; DARK ones, and those behind, are not done");
        BlazedPath y = party("c5(1=1);v2(1=1)");
        y.light(8);
        due("nothing, cutting, nothing", turn(y, "ssess", 0), 5);
        due("MINUTES", turn(y, "ssess", 1), 7);
        due("a DARK one stops", turn(y, "e.s", 0), 1);
        due("and what stands behind it", turn(y, "e.w", 0), 1);
        due("back within LIGHT", turn(y, "ewx", 0), 3);
        due("MINUTES", turn(y, "ewx", 1), 8);
        due("none of them", turn(y, ".", 0), 0);
        due("none of them", turn(y, ".", 1), 0);
        due("90", turn(y, "9(9s)9s", 0), 90);
        turnByLight();
    }

    private static BlazedPath marked(int light) {
        BlazedPath x = party("c5+k(1=1);v2+k-f(1=1)", forestOf("jtotrjsp5", "j12"));
        orders(x, "2eb");
        x.light(light);
        return x;
    }

    private static void turnByLight() {
        sentence("Promise 17: BACK as THE PATH is behind each of the ACTS: MARKS, CELLS walked and cut");
        String acts = "wbeeobe.w2s9w9eenbwwbe.";
        String singles = "wbeeobe.wsswwwwwwwwweeeeeeeeeenbwwbe.";
        for (int light = 10; light <= 150; light++) {
            int want = -2;
            int minutes = -2;
            for (int n = 0; n <= singles.length(); n++) {
                BlazedPath x = marked(light);
                int before = x.count(1);
                String first = singles.substring(0, n);
                boolean isDark = n > 0 && tried(x, first, 5) == 1;
                if (n > 0) {
                    orders(x, first);
                }
                if (!isDark && x.count(1) + x.back(0) <= light) {
                    want = n;
                    minutes = x.count(1) - before + x.back(0);
                }
            }
            due("ACTS by LIGHT " + light, turn(marked(light), acts, 0), want);
            due("MINUTES by LIGHT " + light, turn(marked(light), acts, 1), minutes);
        }
    }

    public static void main(String[] args) {
        lengths();
        whatCanStand();
        openAndMany();
        ways();
        tiring();
        marks();
        eachWalk();
        dark();
        tried();
        turn();
        finish();
    }
}
