/** The boundaries of promise 4 and of the words about THE LAW: its text, its faults, what it reckons. */
public final class LawBoundsTest extends Probe {
    private static int law(String text) {
        return law(new BlazedPath(), text);
    }

    private static void lengths() {
        sentence("Promise 4: the first n bytes of the tape (1 to 240; empty then)");
        for (int n = 235; n <= 240; n++) {
            BlazedPath x = party("c1(1=1)");
            String text = "c" + "1+".repeat((n - 7) / 2) + (n % 2 == 0 ? "10" : "1") + "(1=1)";
            due("text of " + n, text.length(), n);
            due("law(" + n + ")", law(x, text), 1);
            due("empty then", x.count(7), 0);
            due("all of it is reckoned", orders(x, "e"), (n - 7) / 2 + (n % 2 == 0 ? 10 : 1));
        }
        BlazedPath x = party("c7(1=1)");
        tell(x, "c" + "1+".repeat(117) + "1(1=1)" + times(" ", 13));
        due("law(241)", x.law(241), -1);
        due("the tape stays", x.count(7), 260);
        due("law(240): the end too soon", x.law(240), -1240);
        due("empty then", x.count(7), 0);
        due("the law before", orders(x, "e"), 7);
        BlazedPath y = new BlazedPath();
        tell(y, "c");
        due("law(1)", y.law(1), -1001);
        due("empty then", y.count(7), 0);
        sentence("Promise 4: the first n bytes alone");
        tell(y, "c1(1=1);c2(1=1);x");
        due("law(7)", y.law(7), 1);
        due("empty then", y.count(7), 0);
        due("law(1) of none", y.law(1), -1);
        sentence("Promise 4: in place of the one before: how many CLAUSES");
        BlazedPath z = party("c5(1=1);v6(1=1);n2(1=1)");
        due("CLAUSES", z.count(6), 3);
        due("another", law(z, "v7(1=1)"), 1);
        due("CLAUSES", z.count(6), 1);
        due("no c any more", orders(z, "e"), 0);
        due("no n any more", z.personIs(0, 1), 0);
        due("the new v", orders(z, "w"), 7);
        again();
    }

    private static void again() {
        sentence("Promise 4: in place of the one before: none of its CLAUSES is asked any more");
        BlazedPath x = party("c5(1=2);c9(1=1);c8(1=1)");
        due("one CLAUSE of another letter", law(x, "v7(1=1)"), 1);
        due("no c any more", tried(x, "e", 0), 0);
        due("three again", law(x, "c5(1=2);c9(1=1);c8(1=1)"), 3);
        due("the second", tried(x, "e", 0), 9);
        due("one that does not hold", law(x, "c5(1=2)"), 1);
        due("none: 0", tried(x, "e", 0), 0);
        due("a long C", law(x, "c5(1=2&1=1&1=1&1=1|1=1);c6(1=1)"), 2);
        due("the first", tried(x, "e", 0), 5);
        due("a short C", law(x, "c4(1=2)"), 1);
        due("none: 0", tried(x, "e", 0), 0);
        sentence("Promise 4: 240 bytes again and again, with FAULTS between");
        x = party("c1(1=1)");
        for (int i = 0; i < 16; i++) {
            String sum = "1+".repeat(116) + (10 + i);
            due("240 bytes", ("cw" + sum.substring(1) + "(k=2)").length(), 240);
            due("a LAW of 240 bytes", law(x, "cw" + sum.substring(1) + "(k=2)"), 1);
            due("all of it is reckoned", tried(x, "e", 0), 116 + 10 + i);
            due("a FAULT at its end", law(x, "c9" + sum.substring(1) + "(k=2"), -1239);
            due("the LAW before", tried(x, "e", 0), 116 + 10 + i);
        }
    }

    /** For each byte behind a beginning: the fault is at it, or behind it if it can stand there. */
    private static void bytesBehind(String begin, String fit, int whole) {
        for (int sign = 0; sign < 256; sign++) {
            boolean fits = fit.indexOf(sign) >= 0;
            int want = -1000 - begin.length() - (fits ? 1 : 0);
            if (sign == whole) {
                want = 1;
            }
            due("byte " + sign + " behind " + begin, law(begin + bytes(sign)), want);
        }
    }

    private static void whatCanStand() {
        sentence("Promise 4, Terms: LAW, FAULT 1: what can't stand there (the end, too), no blanks");
        String digits = "0123456789";
        String letters = "kwatqfy";
        String signs = "+-*/%";
        bytesBehind("", "cvgned", -1);
        bytesBehind("c", digits + letters + "[", -1);
        bytesBehind("c1", digits + signs + "(", -1);
        bytesBehind("c1234", digits + signs + "(", -1);
        bytesBehind("ck", signs + "(", -1);
        bytesBehind("c1+", digits + letters + "[", -1);
        bytesBehind("c1%", digits + letters + "[", -1);
        bytesBehind("c[", digits + letters + "[", -1);
        bytesBehind("c[1", digits + signs + "]", -1);
        bytesBehind("c[k]", signs + "(", -1);
        bytesBehind("c1(", digits + letters + "[(!", -1);
        bytesBehind("c1(!", digits + letters + "[(!", -1);
        bytesBehind("c1((", digits + letters + "[(!", -1);
        bytesBehind("c1(k", signs + "<>=", -1);
        bytesBehind("c1(1", digits + signs + "<>=", -1);
        bytesBehind("c1(k=", digits + letters + "[", -1);
        bytesBehind("c1(k=k", signs + "&|", ')');
        bytesBehind("c1((k=k", signs + "&|)", -1);
        bytesBehind("c1((k=k)", "&|", ')');
        bytesBehind("c1(k=k&", digits + letters + "[(!", -1);
        bytesBehind("c1(k=k|", digits + letters + "[(!", -1);
        bytesBehind("c1(1=1)", ";", -1);
        bytesBehind("c1(1=1);", "cvgned", -1);
        sentence("Promise 4, Terms: each letter of a CLAUSE, and each letter of a FACTOR, in each CLAUSE");
        for (char clause : "cvgned".toCharArray()) {
            for (char factor : letters.toCharArray()) {
                due("" + clause + factor, law(clause + "" + factor + "(" + factor + "=" + factor + ")"), 1);
            }
        }
        sentence("Promise 4, Terms: FAULT 2: a sixth digit, at it");
        due("five digits", law("c99999(1=99999)"), 1);
        due("five noughts", law("c00000(1=00000)"), 1);
        due("six", law("c999999(1=1)"), -2006);
        due("six noughts", law("c000000(1=1)"), -2006);
        due("six at the end", law("c123456"), -2006);
        due("seven", law("c1234567(1=1)"), -2006);
        due("six in a C", law("c1(1=123456)"), -2010);
        due("six in [ ]", law("c[123456](1=1)"), -2007);
        due("in a second number", law("c12345+123456(1=1)"), -2012);
        due("six behind what can't stand there", law("c1)123456"), -1002);
        due("a letter behind five", law("c12345k(1=1)"), -1006);
    }

    private static void clauses() {
        sentence("Promise 4, Terms: CLAUSES (16 at most) with a ; between two");
        for (int n = 1; n <= 16; n++) {
            BlazedPath x = new BlazedPath();
            due(n + " CLAUSES", law(x, "c1(1=1)" + ";c1(1=1)".repeat(n - 1)), n);
            due("count(6)", x.count(6), n);
        }
        sentence("Promise 4, Terms: FAULT 4: a 17th CLAUSE, at its letter (if that can stand there)");
        String sixteen = "c1(1=1)" + ";c1(1=1)".repeat(15);
        for (char letter : "cvgned".toCharArray()) {
            due("a 17th by " + letter, law(sixteen + ";" + letter), -4128);
        }
        due("what is no letter of one", law(sixteen + ";k1(1=1)"), -1128);
        due("the end", law(sixteen + ";"), -1128);
        due("two ;", law(sixteen + ";;"), -1128);
        due("no ;", law(sixteen + "c"), -1127);
        due("faults inside of a 17th don't matter", law(sixteen + ";c999999"), -4128);
        due("a fault in the 16th comes first", law("c1(1=1)" + ";c1(1=1)".repeat(14) + ";c1(1=);c1(1=1)"), -1125);
        sentence("Promise 4: a FAULT: the LAW before stays");
        BlazedPath x = party("c9(1=1);v3(1=1)");
        due("a 17th", law(x, sixteen + ";c1(1=1)"), -4128);
        due("CLAUSES", x.count(6), 2);
        due("c as before", orders(x, "e"), 9);
        due("v as before", orders(x, "w"), 3);
    }

    private static void open() {
        sentence("Promise 4, Terms: FAULT 5: a seventh of ( [ ! that are open in one another, at it (the ( of the CLAUSE counts)");
        for (int bits = 0; bits < 64; bits++) {
            for (int square = 0; square <= 6; square++) {
                StringBuilder b = new StringBuilder("c1(");
                for (int i = 0; i < 6; i++) {
                    b.append(i >= 6 - square ? '[' : (bits >> i & 1) == 0 ? '(' : '!');
                }
                due(b.toString(), law(b.toString()), -5008);
                due(b.substring(0, 8), law(b.substring(0, 8)), -1008);
            }
        }
        sentence("Promise 4, Terms: the E of a CLAUSE stands ahead of its (");
        due("six [", law("c[[[[[[1]]]]]](1=1)"), 1);
        due("seven [", law("c[[[[[[[1]]]]]]](1=1)"), -5007);
        due("six in the E, five more in the C", law("c[[[[[[1]]]]]](((((([1=1"), -5020);
        due("six in the E, then the C", law("c[[[[[[1]]]]]]((((((1=1))))))"), 1);
        due("six open and closed, then six", law("c[[[[[[1]]]]]]+[[[[[[1]]]]]](1=1)"), 1);
        due("and a seventh", law("c[[[[[[1]]]]]]+[[[[[[[1"), -5021);
        sentence("Promise 4, Terms: a ! is open till its TEST ends");
        due("five ! and five !", law("c1(!!!!!1=1&!!!!!1=1|!!!!!1=1)"), 1);
        due("a sixth !", law("c1(!!!!!!1=1)"), -5008);
        due("a sixth behind five that have ended", law("c1(!!!!!1=1&!!!!!!1=1)"), -5017);
        due("five ! and [ on the left", law("c1(!!!!![1]=1)"), -5008);
        due("five ! and [ on the right", law("c1(!!!!!1=[1])"), -5010);
        due("four ! and [ on both", law("c1(!!!![1]=[1])"), 1);
        due("! and ( in turn", law("c1(!(!(!1=1&!1=1)|!1=1))"), 1);
        due("a ! too many in them", law("c1(!(!(!1=1&!!1=1)))"), -5013);
        due("the TEST of a ! is its ( ), behind it all is closed", law("c1(!(1=1)&!!!!!1=1)"), 1);
        sentence("Promise 4, Terms: what closes is open no more");
        due("( ) one behind the other", law("c1((((((1=1)))))&(((((1=1))))))"), 1);
        due("[ ] in a C", law("c1([[[[[1]]]]]=[[[[[1]]]]])"), 1);
        due("a sixth [ in a C", law("c1([[[[[1]]]]]=[[[[[[1"), -5020);
        due("a CLAUSE more begins anew", law("c1((((((1=1))))));c1((((((1=1))))))"), 2);
        sentence("Promise 4, Terms: FAULTS, the first from the left");
        due("1 ahead of 5", law("c1(!!!!)!!!"), -1007);
        due("5 ahead of 1", law("c1(!!!!!!)"), -5008);
        due("2 ahead of 5", law("c123456[[[[[[["), -2006);
        due("one of [ that can't stand there", law("c1(!!!!!1["), -1009);
        due("one of ! that can't stand there", law("c1(!!!!!1!"), -1009);
    }

    /** What a CLAUSE of a letter with an E answers, by what comes of it. */
    private static int value(char letter, String e) {
        BlazedPath x = new BlazedPath();
        x.person(0, 9);
        x.light(999);
        forest(x, OPEN);
        law(x, "n20(1=1)");
        // so TIRED that a rest by more than its bound would be seen
        orders(x, letter == 'e' ? "3e" : "e");
        due("law of " + letter + e, law(x, letter + e + "(1=1)"), 1);
        switch (letter) {
            case 'c':
                return orders(x, "e");
            case 'v':
                return orders(x, "w");
            case 'g':
                return x.days(1) / 2;
            case 'n':
                orders(x, "e");
                return x.personIs(0, 1) - 20;
            case 'e':
                orders(x, ".");
                return 60 - x.personIs(0, 1);
            default:
                return (int) (10 - 10 * x.safe(0) / x.safe(1));
        }
    }

    private static void bounds() {
        String letters = "cvgned";
        int[] mosts = {240, 60, 20, 20, 20, 10};
        for (int i = 0; i < 6; i++) {
            char letter = letters.charAt(i);
            int most = mosts[i];
            sentence("Promise 4, Terms: " + letter + " (0 to " + most + "): beyond its bounds the bound");
            due("-1", value(letter, "0-1"), 0);
            due("0", value(letter, "0"), 0);
            due("1", value(letter, "1"), 1);
            due("the most less 1", value(letter, "" + (most - 1)), most - 1);
            due("the most", value(letter, "" + most), most);
            due("the most and 1", value(letter, "" + (most + 1)), most);
            due("99999", value(letter, "99999"), most);
            due("-99999", value(letter, "0-99999"), 0);
            due("the highest int", value(letter, "65536*32768-1"), most);
            due("one above it is the lowest", value(letter, "65536*32768"), 0);
            sentence("Promise 4, Terms: " + letter + ": none: 0");
            String other = letter == 'c' ? "v" : "c";
            BlazedPath x = party(other + "9(1=1);" + letter + "9(1=2)");
            forest(x, OPEN);
            due("cutting and walking", orders(x, letter == 'c' ? "e" : letter == 'v' ? "ew" : "e"), letter == 'c' ? 0 : 9);
            due("growing", x.days(1), 0);
            due("tired", x.personIs(0, 1), 0);
        }
        sentence("Promise 4, Terms: what is divided by 0 is REFUSED: an E is 0");
        for (String e : new String[] {"5/0", "5%0", "5+1/0", "1/0+5", "5-1%0", "5*[1/0]", "[5+[1%0]]+5", "5/[3-3]", "0/0", "0%0", "5/q"}) {
            due(e, value('c', e), 0);
        }
        due("0 is divided", value('c', "0/5+7"), 7);
        due("0 is divided", value('c', "0%5+7"), 7);
        due("divided by -1", value('c', "[0-7]/[0-1]"), 7);
    }

    private static boolean holds(String c) {
        BlazedPath x = party("c3(" + c + ")");
        due("law of " + c, x.count(6), 1);
        return orders(x, "e") == 3;
    }

    private static void thirtyTwoBits() {
        sentence("Promise 4, Terms: All is reckoned with 32 bits, as the machine does");
        String least = "[65536*32768]";
        due("2147483647 + 1", holds("65536*32768-1+1<0"), true);
        due("-2147483648 - 1", holds(least + "-1>0"), true);
        due("46341 * 46341", holds("46341*46341=0-99999*21474-99999-490"), true);
        due("46340 * 46340", holds("46340*46340>0"), true);
        due("65536 * 65536", holds("65536*65536=0"), true);
        due("99999 * 99999", holds("99999*99999=99999*14098+79507"), true);
        due("the lowest by -1", holds(least + "/[0-1]=" + least), true);
        due("the lowest by -1, the rest", holds(least + "%[0-1]=0"), true);
        due("the lowest is below", holds(least + "<0"), true);
        due("the lowest times -1", holds(least + "*[0-1]<0"), true);
        due("the lowest and the lowest", holds(least + "+" + least + "=0"), true);
        due("0 less the lowest", holds("0-" + least + "<0"), true);
        sentence("Promise 4, Terms: / towards 0, % with the sign of what is divided");
        due("-7 / 2", holds("[0-7]/2=0-3"), true);
        due("7 / -2", holds("7/[0-2]=0-3"), true);
        due("-7 / -2", holds("[0-7]/[0-2]=3"), true);
        due("-7 % 4", holds("[0-7]%4=0-3"), true);
        due("7 % -4", holds("7%[0-4]=3"), true);
        due("-8 % 4", holds("[0-8]%4=0"), true);
        sentence("Promise 4, Terms: TERMS, FACTORS from the left on");
        due("9 - 4 - 3", holds("9-4-3=2"), true);
        due("9 - 4 + 3", holds("9-4+3=8"), true);
        due("100 / 7 * 7", holds("100/7*7=98"), true);
        due("100 * 7 / 7", holds("100*7/7=100"), true);
        due("100 % 7 * 3", holds("100%7*3=6"), true);
        due("2 + 3 * 4", holds("2+3*4=14"), true);
        due("2 * 3 + 4", holds("2*3+4=10"), true);
        due("[2 + 3] * 4", holds("[2+3]*4=20"), true);
        due("20 - 2 * 3 - 1", holds("20-2*3-1=13"), true);
    }

    private static void tests() {
        sentence("Promise 4, Terms: one of < > =");
        due("1 < 1", holds("1<1"), false);
        due("0 < 1", holds("0<1"), true);
        due("1 > 1", holds("1>1"), false);
        due("2 > 1", holds("2>1"), true);
        due("1 = 1", holds("1=1"), true);
        due("1 = 2", holds("1=2"), false);
        sentence("Promise 4, Terms: PARTS with a | (one must hold), TESTS with an & (all must), !TEST, (C)");
        String[] cs = {"1=2|1=2", "1=2|1=1", "1=1|1=2", "1=1&1=1", "1=1&1=2", "1=2&1=1", "1=1|1=1&1=2", "1=2&1=1|1=1", "(1=1|1=1)&1=2",
            "!1=1", "!1=2", "!!1=1", "!!!1=1", "!1=2&1=2", "!(1=2&1=2)", "!(1=1|1=2)", "((1=1))", "1=2|1=2|1=1", "1=1&1=1&1=2", "!1=1|1=1"};
        boolean[] wants = {false, true, true, true, false, false, true, true, false,
            false, true, true, false, false, true, false, true, true, false, true};
        for (int i = 0; i < cs.length; i++) {
            due(cs[i], holds(cs[i]), wants[i]);
        }
        sentence("Promise 4, Terms: what is divided by 0 is REFUSED: then a C does not hold");
        for (String c : new String[] {"1/0=0", "0=1/0", "1%0=0", "!1/0=1", "!(1/0=1)", "1/0=0|1=1", "(1/0=0)|1=1", "1=1&1/0=0", "1=2|1/0=0",
            "1=2|1/0=0|1=1", "(1=1&1/0=0)|1=1", "!!1/0=0", "[1/0]=0", "1/[1/2]=1", "1=1&!1%0=5"}) {
            due(c, holds(c), false);
        }
        sentence("Promise 4, Terms: Of a C as much is asked, from the left, as matters");
        for (String c : new String[] {"1=1|1/0=0", "1=2&1/0=0|1=1", "!(1=2&1/0=0)", "(1=1|1/0=0)&1=1", "1=1|1=1&1/0=0",
            "1=1&(1=1|1%0=0)", "!1=2|1/0=0", "1=2&1/0=0&1/0=0|1=1"}) {
            due(c, holds(c), true);
        }
        sentence("Promise 4, Terms: of the first CLAUSE of a letter whose C holds the E");
        due("the first", orders(party("c3(1=1);c4(1=1)"), "e"), 3);
        due("the second", orders(party("c3(1=2);c4(1=1)"), "e"), 4);
        due("a REFUSED one is passed over", orders(party("c3(1/0=0);c4(1=1)"), "e"), 4);
        due("a REFUSED E is 0, the next is not asked", orders(party("c3/0(1=1);c4(1=1)"), "e"), 0);
        due("of its letter", orders(party("v3(1=1);g4(1=1);c5(1=1)"), "e"), 5);
        due("the 16th", orders(party("c3(1=2)" + ";c3(1=2)".repeat(14) + ";c4(1=1)"), "e"), 4);
    }

    /** Kind 1, width 2 (4 is told now), arm 3, tired 20, grown 5, marks on both faces, day 6; a blind fork. */
    private static BlazedPath allLetters() {
        BlazedPath x = new BlazedPath();
        x.person(0, 3);
        forest(x, forestOf("t12", "o12", "t12"));
        x.width(2);
        x.start(0);
        law(x, "g5(1=1)");
        orders(x, "e");
        x.days(1);
        law(x, "n20(1=1)");
        x.days(5);
        orders(x, "obew");
        x.width(4);
        return x;
    }

    private static int letterIn(char clause, String e) {
        BlazedPath x = allLetters();
        orders(x, clause == 'v' ? "w" : "s");
        law(x, clause + e + "(1=1)");
        switch (clause) {
            case 'c':
                return orders(x, "2e");
            case 'v':
                return orders(x, "e");
            case 'g':
                x.days(1);
                return x.path(1, 1) - 5;
            case 'n':
                orders(x, "2e");
                return x.personIs(0, 1) - 20;
            case 'e':
                orders(x, ".");
                return 20 - x.personIs(0, 1);
            default:
                return (int) (10 - 10 * x.safe(0) / x.safe(1));
        }
    }

    private static void letters() {
        String clauses = "cvgned";
        String factors = "kwatqfy";
        int[] mosts = {240, 60, 20, 20, 20, 10};
        int[][] wants = {
            {1, 4, 3, 20, 0, 0, 6},
            {1, 2, 0, 0, 5, 1, 6},
            {1, 2, 0, 0, 5, 0, 6},
            {1, 0, 3, 20, 0, 0, 6},
            {0, 0, 3, 20, 0, 0, 6},
            {1, 2, 0, 0, 5, 0, 6}};
        for (int i = 0; i < clauses.length(); i++) {
            sentence("Promise 4, Terms: letters in " + clauses.charAt(i) + " (where they are not told they are 0)");
            for (int j = 0; j < factors.length(); j++) {
                String factor = factors.substring(j, j + 1);
                due(factor, letterIn(clauses.charAt(i), factor), wants[i][j]);
                due("2+" + factor, letterIn(clauses.charAt(i), "2+" + factor), Math.min(mosts[i], 2 + wants[i][j]));
                due("2-" + factor, letterIn(clauses.charAt(i), "2-" + factor), Math.max(0, 2 - wants[i][j]));
            }
        }
        sentence("Promise 4, Terms: a, t in e of the one that rests");
        BlazedPath x = new BlazedPath();
        x.person(1, 2);
        x.person(3, 7);
        law(x, "n20(1=1)");
        orders(x, "e+2e");
        law(x, "ea+t/10(1=1)");
        orders(x, ".");
        due("of 1", x.personIs(1, 1), 20 - 2 - 2);
        due("of 3", x.personIs(3, 1), 40 - 7 - 4);
        sentence("Promise 4, Terms: a, t in c, n of the one AHEAD");
        BlazedPath y = new BlazedPath();
        y.person(1, 2);
        y.person(3, 7);
        law(y, "ca*10+t(1=1);na+t(1=1)");
        due("of 1", orders(y, "e"), 20);
        due("of 1, tired", orders(y, "e"), 22);
        y.ahead(3);
        due("of 3", orders(y, "e"), 70);
        due("TIRED of 1", y.personIs(1, 1), 2 + 4);
        due("TIRED of 3", y.personIs(3, 1), 7);
    }

    public static void main(String[] args) {
        lengths();
        whatCanStand();
        clauses();
        open();
        bounds();
        thirtyTwoBits();
        tests();
        letters();
        finish();
    }
}
