/** The boundaries of promises 22 to 25: paces, a lost mark, blazes, what was seen. */
public final class SeenBoundsTest extends Probe {
    private static int paces(String text) {
        return paces(new BlazedPath(), text, 1, 0);
    }

    private static void pacesText() {
        sentence("Promise 22: the first n bytes of the tape (1 to 40; empty then)");
        for (int n : new int[] {1, 2, 39, 40, 41, 0, -1}) {
            BlazedPath x = new BlazedPath();
            tell(x, "99r99l99f99b99r99l99f99b" + times("!", 36));
            boolean fits = n >= 1 && n <= 40;
            int want = n == 1 ? -1001 : n == 2 ? -1002 : -1024;
            due("paces(" + n + ", 1, 0)", x.paces(n, 1, 0), fits ? want : -1);
            due("bytes", x.count(7), fits ? 0 : 60);
        }
        BlazedPath whole = new BlazedPath();
        tell(whole, "99r99l99f99b99r99l99f99b");
        due("the longest text, 24 bytes", whole.paces(24, 1, 4), (2 * 396 + 1) * (2 * 396 + 1));
        due("empty then", whole.count(7), 0);
        sentence("Promise 22, Terms: PACES, FAULT 1: what can't stand there (the end, too)");
        for (int sign = 0; sign < 256; sign++) {
            boolean isDigit = sign >= '0' && sign <= '9';
            boolean isLetter = "lrfb".indexOf(sign) >= 0;
            due("byte " + sign + " first", paces(bytes(sign)), sign == '0' ? -3000 : isDigit ? -1001 : -1000);
            int behindOne = paces("5" + bytes(sign));
            due("byte " + sign + " behind 5", isLetter ? one(behindOne > -1000) : behindOne, isLetter ? 1 : isDigit ? -1002 : -1001);
            int behindTwo = paces("55" + bytes(sign));
            due("byte " + sign + " behind 55", isLetter ? one(behindTwo > -1000) : behindTwo, isLetter ? 1 : -1002);
            due("byte " + sign + " behind a LEG", paces("5r" + bytes(sign)), sign == '0' ? -3002 : isDigit ? -1003 : -1002);
        }
        sentence("Promise 22, Terms: a number (one or two digits); FAULT 3: a number 0, at its first digit");
        due("1", paces(new BlazedPath(), "1r", 99, 0), 1);
        due("01", paces(new BlazedPath(), "01r", 99, 0), 1);
        due("9", paces(new BlazedPath(), "9r", 99, 0), 9);
        due("10", paces(new BlazedPath(), "10r", 99, 0), 10);
        due("98", paces(new BlazedPath(), "98r", 99, 0), 98);
        due("99", paces(new BlazedPath(), "99r", 99, 0), 98);
        due("three digits", paces("100r"), -1002);
        due("0", paces("0r"), -3000);
        due("00", paces("00r"), -3000);
        due("000", paces("000r"), -3000);
        due("0 and the end", paces("0"), -3000);
        due("00 and what can't stand there", paces("00!"), -3000);
        due("in a later LEG", paces("1r10l0f"), -3005);
        sentence("Promise 22, Terms: LEGS (8 at most); FAULT 4: a ninth LEG, at its first digit (if that can stand there)");
        due("one", paces("1r"), 0);
        due("seven", paces(new BlazedPath(), times("1r", 7), 99, 0), 7);
        due("eight", paces(new BlazedPath(), times("1r", 8), 99, 0), 8);
        due("nine", paces(times("1r", 9)), -4016);
        due("a ninth of two digits", paces(times("1r", 8) + "12r"), -4016);
        due("a ninth number 0", paces(times("1r", 8) + "0r"), -4016);
        due("a ninth digit alone", paces(times("1r", 8) + "5"), -4016);
        due("what is no digit", paces(times("1r", 8) + "r"), -1016);
        due("a blank", paces(times("1r", 8) + " "), -1016);
        due("twenty", paces(times("1r", 20)), -4016);
        due("a fault in the eighth comes first", paces(times("1r", 7) + "1x1r"), -1015);
    }

    private static void pacesEnds() {
        sentence("Promise 22: one of so many (1 to 99) miscounted (rounded down for each LEG)");
        int[] ofs = {-1, 0, 1, 2, 49, 50, 51, 98, 99, 100, 101, LEAST, MOST};
        for (int of : ofs) {
            boolean fits = of >= 1 && of <= 99;
            BlazedPath x = new BlazedPath();
            due("the least, of " + of, paces(x, "99r", of, 0), fits ? 99 - 99 / of : -1);
            x.check(0);
            due("the most, of " + of, paces(x, "99r", of, 1), fits ? 99 + 99 / of : -1);
            x.check(0);
            due("ends, of " + of, paces(x, "99r", of, 4), fits ? 2 * (99 / of) + 1 : -1);
        }
        due("just below", paces(new BlazedPath(), "49f49f", 50, 4), 1);
        due("just at", paces(new BlazedPath(), "50f49f", 50, 4), 3);
        due("each LEG by itself", paces(new BlazedPath(), "50f50b", 50, 4), 5);
        sentence("Promise 22: what 0, 1 the least, the most to the right, 2, 3 forward, 4 how many ends");
        int[] wants = {5 - 20 - 2, 5 - 20 + 2, 30 - 7 - 3, 30 - 7 + 3, 5 * 7};
        for (int what = -2; what <= 7; what++) {
            boolean fits = what >= 0 && what <= 4;
            due("what " + what, paces(new BlazedPath(), "5r20l30f7b", 10, what), fits ? wants[what] : -1);
        }
        sentence("Promise 22, Terms: the widest and the narrowest");
        String right = times("99r", 8);
        due("the least", paces(new BlazedPath(), right, 1, 0), 0);
        due("the most", paces(new BlazedPath(), right, 1, 1), 1584);
        due("ends", paces(new BlazedPath(), right, 1, 4), 1585);
        due("not forward", paces(new BlazedPath(), right, 1, 2), 0);
        due("to the left", paces(new BlazedPath(), times("99l", 8), 1, 0), -1584);
        due("back", paces(new BlazedPath(), times("99b", 8), 1, 2), -1584);
        due("back", paces(new BlazedPath(), times("99b", 8), 1, 3), 0);
        due("one pace", paces(new BlazedPath(), "1f", 2, 4), 1);
        due("one pace", paces(new BlazedPath(), "1f", 1, 4), 3);
        sentence("Promise 22: each text by itself, whatever was told before");
        BlazedPath again = new BlazedPath();
        for (int i = 0; i < 3; i++) {
            for (int what = 0; what <= 4; what++) {
                due("what " + what, paces(again, "5r20l30f7b", 10, what), wants[what]);
                due("a FAULT", paces(again, "99f99r99l99b9", 1, what), -1013);
            }
        }
    }

    private static void seek() {
        sentence("Promise 23: n 1 to 6: 2 n bytes, empty then");
        for (int n = -1; n <= 8; n++) {
            BlazedPath x = new BlazedPath();
            tell(x, bytes(1, 1, 2, 1, 3, 1, 4, 1, 5, 1, 6, 1, 7, 1, 8, 1));
            boolean fits = n >= 1 && n <= 6;
            due("seek(" + n + ", 10)", x.seek(n, 10), fits ? n * (n + 1) / 2 : -1);
            due("bytes", x.count(7), fits ? 0 : 20);
        }
        sentence("Promise 23: -2: a byte out of bounds: a CELL (0 to 143), its WEIGHT (1 to 9)");
        for (int b = 0; b < 256; b++) {
            due("CELL " + b, seek(new BlazedPath(), 10, b, 1), b < 144 ? b % 12 + b / 12 : -2);
            due("WEIGHT " + b, seek(new BlazedPath(), 10, 1, b), b >= 1 && b <= 9 ? b : -2);
        }
        for (int at = 0; at < 12; at++) {
            int[] all = {1, 1, 2, 2, 3, 3, 4, 4, 5, 5, 6, 6};
            all[at] = at % 2 == 0 ? 144 : 10;
            BlazedPath x = new BlazedPath();
            due("byte " + at, seek(x, 10, all), -2);
            due("empty then", x.count(7), 0);
        }
        BlazedPath behind = new BlazedPath();
        tell(behind, bytes(1, 1, 255, 255));
        due("the bytes behind don't matter", behind.seek(1, 10), 1);
        sentence("Promise 23: what 10 the sum, else which of them (0 on) is at place what; -4: no such place");
        for (int n = 1; n <= 6; n++) {
            for (int what = -2; what <= 12; what++) {
                int[] all = new int[2 * n];
                for (int i = 0; i < n; i++) {
                    all[2 * i] = n - i;
                    all[2 * i + 1] = 1;
                }
                boolean isPlace = what >= 0 && what < n;
                BlazedPath x = new BlazedPath();
                due("what " + what + " of " + n, seek(x, what, all), what == 10 ? n * (n + 1) / 2 : isPlace ? n - 1 - what : -4);
                due("empty then", x.count(7), 0);
            }
        }
        due("the lowest int", seek(new BlazedPath(), LEAST, 1, 1), -4);
        due("the highest int", seek(new BlazedPath(), MOST, 1, 1), -4);
        due("both: the byte", seek(new BlazedPath(), 1, 144, 1), -2);
        sentence("Promise 23: it has not so many");
        due("none", new BlazedPath().seek(1, 10), -1);
        seekSums();
    }

    private static void seekSums() {
        sentence("Promise 23, Terms: from THE PARTY through all of them (x and y steps); the sum of WEIGHT times STEPS till there");
        due("where THE PARTY is", seek(new BlazedPath(), 10, 0, 9), 0);
        due("the same CELL six times", seek(new BlazedPath(), 10, 13, 9, 13, 9, 13, 9, 13, 9, 13, 9, 13, 9), 6 * 9 * 2);
        due("the farthest", seek(new BlazedPath(), 10, 143, 9), 22 * 9);
        due("corners: 11, 33, 44 steps", seek(new BlazedPath(), 10, 0, 1, 11, 1, 132, 1, 143, 1), 11 + 22 + 33);
        due("a heavy one first", seek(new BlazedPath(), 0, 1, 1, 14, 9), 0);
        BlazedPath mid = new BlazedPath();
        mid.start(5);
        due("4 to the left at 1, 5 to the right at 9", seek(mid, 0, 1, 1, 10, 9), 1);
        due("sum", seek(mid, 10, 1, 1, 10, 9), 45 + 14);
        due("4 to the left at 9, 5 to the right at 1", seek(mid, 0, 10, 1, 1, 9), 1);
        sentence("Promise 23, Terms: of like ones the least row");
        due("left or right", seek(mid, 0, 8, 5, 2, 5), 0);
        due("right or left", seek(mid, 0, 2, 5, 8, 5), 0);
        int[] same = {13, 9, 13, 9, 13, 9, 13, 9, 13, 9, 13, 9};
        for (int i = 0; i < 6; i++) {
            due("all alike, place " + i, seek(new BlazedPath(), i, same), i);
        }
        sentence("Promise 23, Terms: from THE PARTY, not from the first place; bamboo does not matter");
        BlazedPath gone = party("c1(1=1)", forestOf("j4b8", "b12"));
        orders(gone, "3e");
        due("3 steps on", seek(gone, 10, 6, 2), 6);
        sentence("Promise 23: each of n by itself, whatever was told before");
        BlazedPath again = new BlazedPath();
        for (int round = 0; round < 2; round++) {
            due("six", seek(again, 10, 6, 9, 5, 9, 4, 9, 3, 9, 2, 9, 1, 9), 9 * 21);
            due("one", seek(again, 10, 100, 1), 8 + 4);
            due("which", seek(again, 0, 100, 1), 0);
            due("a byte out of bounds", seek(again, 10, 6, 9, 5, 9, 4, 9, 144, 9), -2);
            due("two", seek(again, 10, 11, 2, 1, 3), 3 + 22);
            due("which", seek(again, 0, 11, 2, 1, 3), 1);
            due("no such place", seek(again, 2, 11, 2, 1, 3), -4);
        }
    }

    private static void blazesBytes() {
        sentence("Promise 24: n 1 to 8: 4 n bytes, empty then");
        for (int n = -1; n <= 10; n++) {
            BlazedPath x = new BlazedPath();
            tell(x, bytes(2, 1, 0, 0).repeat(10));
            boolean fits = n >= 1 && n <= 8;
            due("blazes(" + n + ", 0)", x.blazes(n, 0), fits ? 1 : -1);
            due("bytes", x.count(7), fits ? 0 : 40);
        }
        sentence("Promise 24: it has not so many (the tape stays)");
        BlazedPath twenty = new BlazedPath();
        tell(twenty, bytes(2, 1, 0, 0).repeat(5));
        due("6 of 20 bytes", twenty.blazes(6, 0), -1);
        due("8 of 20 bytes", twenty.blazes(8, 0), -1);
        due("the tape stays", twenty.count(7), 20);
        due("5 of 20 bytes", twenty.blazes(5, 0), 1);
        due("empty then", twenty.count(7), 0);
        due("1 of none", twenty.blazes(1, 0), -1);
        sentence("Promise 24: -3: a byte out of bounds: KIND 0 to 6, WIDTH 1 to 4, from, to 0 to 99 (from above to, too)");
        for (int b = 0; b < 256; b++) {
            due("KIND " + b, blazes(new BlazedPath(), 0, b, 1, 0, 0), b <= 6 ? 1 : -3);
            due("WIDTH " + b, blazes(new BlazedPath(), 0, 2, b, 0, 0), b >= 1 && b <= 4 ? 1 : -3);
            due("from " + b, blazes(new BlazedPath(), 0, 2, 1, b, 99), b > 99 ? -3 : b == 0 ? 1 : -2);
            due("to " + b, blazes(new BlazedPath(), 0, 2, 1, 0, b), b > 99 ? -3 : 1);
            due("from " + b + " to 50", blazes(new BlazedPath(), 10, 2, 1, b, 50), b > 50 ? -3 : b == 0 ? 0 : -2);
        }
        for (int at = 0; at < 32; at++) {
            int[] all = new int[32];
            for (int i = 0; i < 8; i++) {
                all[4 * i] = 2;
                all[4 * i + 1] = 1;
            }
            all[at] = 100;
            BlazedPath x = new BlazedPath();
            due("byte " + at, blazes(x, 0, all), -3);
            due("empty then", x.count(7), 0);
        }
        BlazedPath behind = new BlazedPath();
        tell(behind, bytes(2, 1, 0, 0, 255, 255, 255, 255));
        due("the bytes behind don't matter", behind.blazes(1, 0), 1);
        sentence("Promise 24: what 0, 10 + k, 20 + k; -4: no such what");
        for (int n = 1; n <= 8; n++) {
            for (int what = -2; what <= 40; what++) {
                BlazedPath x = new BlazedPath();
                tell(x, bytes(2, 1, 0, 0).repeat(n));
                int want = what == 0 ? 1 : what >= 10 && what < 10 + n ? 0 : what >= 20 && what < 20 + n ? 60 : -4;
                due("what " + what + " of " + n, x.blazes(n, what), want);
                due("empty then", x.count(7), 0);
            }
        }
        due("the lowest int", blazes(new BlazedPath(), LEAST, 2, 1, 0, 0), -4);
        due("the highest int", blazes(new BlazedPath(), MOST, 2, 1, 0, 0), -4);
        due("both: the byte", blazes(new BlazedPath(), 1, 7, 1, 0, 0), -3);
    }

    private static void blazesDays() {
        sentence("Promise 24, Terms: DAYS (0 to 60) behind which it may be so (each DAY g, from 0 on)");
        BlazedPath x = new BlazedPath();
        law(x, "g1(1=1)");
        int[] grown = {0, 1, 59, 60, 61, 99};
        for (int g : grown) {
            due("first of " + g, blazes(x, 10, 2, 1, g, g), g <= 60 ? g : -2);
            due("last of " + g, blazes(x, 20, 2, 1, g, g), g <= 60 ? g : -2);
            due("CUTTERS of " + g, blazes(x, 0, 2, 1, g, g), g <= 60 ? 1 : -2);
            due("first from " + g, blazes(x, 10, 2, 1, g, 99), g <= 60 ? g : -2);
            due("last from " + g, blazes(x, 20, 2, 1, g, 99), g <= 60 ? 60 : -2);
            due("last to " + g, blazes(x, 20, 2, 1, 0, g), Math.min(60, g));
        }
        law(x, "g20(1=1)");
        due("80: first", blazes(x, 10, 2, 1, 80, 98), 4);
        due("80: last", blazes(x, 20, 2, 1, 80, 98), 4);
        due("99 at most: first", blazes(x, 10, 2, 1, 99, 99), 5);
        due("99 at most: last", blazes(x, 20, 2, 1, 99, 99), 60);
        due("between", blazes(x, 10, 2, 1, 81, 98), -2);
        law(x, "gk*2+w+q(1=1)");
        due("by KIND, WIDTH and what has GROWN: 0, 3, 9", blazes(x, 10, 1, 1, 9, 9), 2);
        law(x, "gk+w*3(1=1)");
        for (int kind = 0; kind < 7; kind++) {
            for (int wide = 1; wide <= 4; wide++) {
                int each = kind + 3 * wide;
                due("5 DAYS on KIND " + kind + " at WIDTH " + wide, blazes(x, 10, kind, wide, 5 * each, 5 * each), 5 * each > 99 ? -3 : 5);
                due("the last below 50", blazes(x, 20, kind, wide, 0, 49), 49 / each);
            }
        }
        law(x, "g3+w+q/9(1=1)");
        due("3 + 2 and a ninth: 0, 5, 10, 16, 22, 29", blazes(x, 10, 2, 2, 29, 29), 5);
        sentence("Promise 24, Terms: y as now");
        BlazedPath y = new BlazedPath();
        y.days(3);
        law(y, "gy(1=1)");
        due("3 each DAY", blazes(y, 10, 2, 1, 30, 30), 10);
        due("THE DAY stays", y.count(0), 3);
        sentence("Promise 24: -2 (of 0): one can't have been cut");
        law(x, "g2(1=1)");
        due("the first", blazes(x, 0, 2, 1, 1, 1, 2, 1, 0, 0), -2);
        due("the last", blazes(x, 0, 2, 1, 0, 0, 2, 1, 1, 1), -2);
        due("the other one may", blazes(x, 11, 2, 1, 1, 1, 2, 1, 0, 0), 0);
        due("that one not", blazes(x, 10, 2, 1, 1, 1, 2, 1, 0, 0), -2);
        due("that one not", blazes(x, 20, 2, 1, 1, 1, 2, 1, 0, 0), -2);
        sentence("Promise 24, Terms: CUTTERS: the fewest DAYS: 1 to 8");
        law(x, "g1(1=1)");
        for (int n = 1; n <= 8; n++) {
            int[] apart = new int[4 * n];
            int[] nested = new int[4 * n];
            for (int i = 0; i < n; i++) {
                apart[4 * i] = 2;
                apart[4 * i + 1] = 1;
                apart[4 * i + 2] = 7 * i;
                apart[4 * i + 3] = 7 * i + 6;
                nested[4 * i] = 2;
                nested[4 * i + 1] = 1;
                nested[4 * i + 2] = i;
                nested[4 * i + 3] = 40 - i;
            }
            due(n + " apart", blazes(x, 0, apart), n);
            due(n + " one in the other", blazes(x, 0, nested), 1);
        }
        due("they touch", blazes(x, 0, 2, 1, 0, 5, 2, 1, 5, 9), 1);
        due("they don't", blazes(x, 0, 2, 1, 0, 5, 2, 1, 6, 9), 2);
        due("a chain", blazes(x, 0, 2, 1, 0, 5, 2, 1, 4, 9, 2, 1, 8, 12, 2, 1, 11, 15), 2);
        sentence("Promise 24: each of n by itself, whatever was told before");
        for (int round = 0; round < 2; round++) {
            due("four apart", blazes(x, 0, 2, 1, 0, 5, 2, 1, 10, 15, 2, 1, 20, 25, 2, 1, 30, 35), 4);
            due("one", blazes(x, 0, 2, 1, 40, 45), 1);
            due("the first DAY", blazes(x, 10, 2, 1, 40, 45), 40);
            due("no BLAZE 1", blazes(x, 11, 2, 1, 40, 45), -4);
            due("a byte out of bounds", blazes(x, 0, 2, 1, 0, 5, 2, 5, 10, 15), -3);
            due("one that can't", blazes(x, 0, 2, 1, 61, 99), -2);
            due("two that touch", blazes(x, 0, 2, 1, 30, 40, 2, 1, 20, 30), 1);
        }
    }

    private static void sightsText() {
        sentence("Promise 25: the first n bytes of the tape (1 to 20; empty then)");
        for (int n = -1; n <= 23; n++) {
            BlazedPath x = party("c1(1=1)");
            orders(x, "9e2en9w2w");
            tell(x, times(".", 24));
            boolean fits = n >= 1 && n <= 20;
            due("sights(" + n + ", 0)", x.sights(n, 0), fits ? plainPlaces(n) : -1);
            due("bytes", x.count(7), fits ? 0 : 40);
        }
        sentence("Promise 25, Terms: SIGHTS, FAULT 1: what can't stand there");
        for (int sign = 0; sign < 256; sign++) {
            boolean fits = sign == 'm' || sign == 'f' || sign == '2' || sign == '.';
            due("byte " + sign, sights(new BlazedPath(), bytes(sign), 0), !fits ? -1000 : sign == '.' ? 1 : 0);
            due("byte " + sign + " behind others", sights(new BlazedPath(), "mf2." + bytes(sign), 0), fits ? 0 : -1004);
        }
        due("the first one", sights(new BlazedPath(), "m!f!", 0), -1001);
        due("the twentieth", sights(new BlazedPath(), times("m", 19) + "!", 2), -1019);
        sentence("Promise 25: what 0 how many PLACES, 1 the lowest, 2 the highest (-2: none)");
        BlazedPath x = new BlazedPath();
        for (int what = -2; what <= 4; what++) {
            boolean fits = what >= 0 && what <= 2;
            x.check(0);
            due("what " + what, sights(x, ".", what), !fits ? -1 : what == 0 ? 1 : 0);
            x.check(0);
            due("none, what " + what, sights(x, "m", what), !fits ? -1 : what == 0 ? 0 : -2);
        }
    }

    /** On a path of two rows all are forks but 0 and the corner, 11 and 12. */
    private static int plainPlaces(int n) {
        return n == 1 ? 3 : n == 2 ? 1 : 0;
    }

    private static void sightsPlaces() {
        sentence("Promise 25, Terms: m (a MARK with face 2, no FORK), f (a FORK, no such MARK), 2 (both), a dot (neither)");
        for (int bits = 0; bits < 4; bits++) {
            String marks = ((bits & 1) != 0 ? "o" : "") + ((bits & 2) != 0 ? "b" : "");
            BlazedPath x = party("c1(1=1)", forestOf("j12", "j2oj9", "j12"));
            orders(x, "e" + marks + "e" + marks + "x");
            due("no FORK with MARK " + bits, sights(x, (bits & 2) != 0 ? "m" : ".", 2), 1);
            due("a FORK with MARK " + bits, sights(x, (bits & 2) != 0 ? "2" : "f", 1), 2);
            due("both, coming back", sights(x, (bits & 2) != 0 ? "2m." : "f..", 1), 2);
        }
        sentence("Promise 25, Terms: the first place is never a FORK; it may be the last that was seen");
        BlazedPath open = party("c1(1=1)", OPEN);
        orders(open, "3e");
        due("fff.", sights(open, "fff.", 0), 1);
        due("from the last place", sights(open, "fff.", 1), 3);
        due("more than there are", sights(open, "fff..", 0), 0);
        due("more than there are", sights(open, "fff..", 1), -2);
        due("f: the lowest", sights(open, "f", 1), 1);
        due("f: the highest", sights(open, "f", 2), 3);
        due("ff: the lowest", sights(open, "ff", 1), 2);
        due("the others on the places ahead of it, not behind", sights(open, ".f", 0), 0);
        due("f.", sights(open, "f.", 1), 1);
        sentence("Promise 25, Terms: PLACES of THE PATH, wherever THE PARTY is");
        orders(open, "3w");
        due("at the first place", sights(open, "fff.", 1), 3);
        sentence("Promise 25, Terms: of a hundred: the highest; 20 signs");
        BlazedPath y = party("c1(1=1)");
        cutHundred(y);
        due("the last", sights(y, "f", 2), 99);
        due("the first", sights(y, ".", 1), 0);
        // no forks are 0, 11, and the corners 84 and 96, above which nothing is cut
        due("plain ones", sights(y, ".", 0), 4);
        due("20 signs that lead to the last", sights(y, "fff." + times("f", 11) + ".ffff", 0), 1);
        due("the place", sights(y, "fff." + times("f", 11) + ".ffff", 2), 99);
        due("20 FORKS in a row", sights(y, times("f", 20), 0), 83 - 31 + 1);
        due("the lowest", sights(y, times("f", 20), 1), 31);
        due("the highest", sights(y, times("f", 20), 2), 83);
    }

    public static void main(String[] args) {
        pacesText();
        pacesEnds();
        seek();
        blazesBytes();
        blazesDays();
        sightsText();
        sightsPlaces();
        finish();
    }
}
