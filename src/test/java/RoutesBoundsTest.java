/** The boundaries of promises 18 to 21: the soonest way, camp, who is ahead when, what is planned. */
public final class RoutesBoundsTest extends Probe {
    /** Rows of jungle with bamboo between them, open at one end in turn. */
    private static final String WINDING = rows("j12", "b11j", "j12", "jb11", "j12", "b11j", "j12", "jb11", "j12", "b11j", "j12", "jb10s");

    private static void soonest() {
        sentence("Promise 18: from a CELL to another one: 0 to 143 both");
        BlazedPath x = party("c3(1=1)");
        int[] corners = {0, 11, 132, 143};
        for (int from : corners) {
            for (int to : corners) {
                int steps = Math.abs(from % 12 - to % 12) + Math.abs(from / 12 - to / 12);
                due("MINUTES from " + from + " to " + to, x.soonest(from, to, 0), 3 * steps);
                due("CELLS from " + from + " to " + to, x.soonest(from, to, 1), steps);
            }
            due("no CELL -1", x.soonest(from, -1, 0), -1);
            due("no CELL 144", x.soonest(from, 144, 0), -1);
            due("no CELL -1", x.soonest(-1, from, 0), -1);
            due("no CELL 144", x.soonest(144, from, 0), -1);
        }
        sentence("Promise 18: what 0 MINUTES, 1 CELLS, 2 the first step (-2: it is there)");
        for (int cell : new int[] {0, 66, 143}) {
            due("MINUTES", x.soonest(cell, cell, 0), 0);
            due("CELLS", x.soonest(cell, cell, 1), 0);
            due("it is there", x.soonest(cell, cell, 2), -2);
            due("no such what", x.soonest(cell, cell, 3), -1);
            due("no such what", x.soonest(cell, cell, -1), -1);
        }
        sentence("Promise 18, Terms: the first step (n 0, e 1, s 2, w 3; the lowest of those)");
        int[] tos = {78, 67, 54, 65, 79, 77, 55, 53, 143, 0};
        int[] steps = {0, 1, 2, 3, 0, 0, 1, 2, 0, 2};
        for (int i = 0; i < tos.length; i++) {
            due("from 66 to " + tos[i], x.soonest(66, tos[i], 2), steps[i]);
        }
        due("no wrap-around at a side", x.soonest(11, 12, 1), 12);
        sentence("Promise 18: NONE: nobody is AHEAD");
        BlazedPath nobody = new BlazedPath();
        due("nobody", nobody.soonest(0, 1, 0), -1);
        nobody.person(5, 1);
        due("somebody", nobody.soonest(0, 1, 0), 0);
        sentence("Promise 18: no bamboo both");
        BlazedPath b = party("c3(1=1)", forestOf("jb11", "jb10j", "b12"));
        due("to bamboo", b.soonest(0, 1, 0), -1);
        due("from bamboo", b.soonest(1, 0, 0), -1);
        due("bamboo itself", b.soonest(1, 1, 0), -1);
        due("round no bamboo", b.soonest(0, 12, 0), 3);
        sentence("Promise 18: -2: there is no way");
        for (int what = 0; what < 3; what++) {
            due("what " + what, b.soonest(0, 23, what), -2);
            due("what " + what, b.soonest(23, 0, what), -2);
        }
        due("there is one to itself", b.soonest(23, 23, 0), 0);
        soonestMinutes();
    }

    private static void soonestMinutes() {
        sentence("Promise 18, Terms: SOONEST: c of each CELL that is come onto (the last one, not the first)");
        BlazedPath x = party("ck*10+1(1=1)", forestOf("rtosjpj6", "b12"));
        due("1 to 2", x.soonest(1, 2, 0), 1);
        due("2 to 1", x.soonest(2, 1, 0), 11);
        due("0 to 5", x.soonest(0, 5, 0), 11 + 1 + 51 + 21 + 61);
        due("5 to 0", x.soonest(5, 0, 0), 21 + 51 + 1 + 11 + 41);
        sentence("Promise 18, Terms: the longest way, at c 0, 240 and above");
        BlazedPath y = party("c240(1=1)", WINDING);
        due("MINUTES", y.soonest(0, 132, 0), 77 * 240);
        due("CELLS", y.soonest(0, 132, 1), 77);
        due("the first step", y.soonest(0, 132, 2), 1);
        due("back", y.soonest(132, 0, 0), 77 * 240);
        due("the first step back", y.soonest(132, 0, 2), 2);
        law(y, "c999(1=1)");
        due("c's bound", y.soonest(0, 132, 0), 77 * 240);
        law(y, "v9(1=1)");
        due("c 0", y.soonest(0, 132, 0), 0);
        due("CELLS", y.soonest(0, 132, 1), 77);
        sentence("Promise 18, Terms: fewest MINUTES first, then the fewest CELLS of such ways");
        BlazedPath z = party("c9(k=2);c1(k=0)", forestOf("j12", "oj2oj8", "o4j8", "j12"));
        due("round: 1 + 1 + 1 + 1 + 1 + 1 + 9", z.soonest(0, 3, 0), 15);
        due("CELLS", z.soonest(0, 3, 1), 7);
        due("the first step", z.soonest(0, 3, 2), 0);
        law(z, "c0(1=1)");
        due("all like: CELLS", z.soonest(0, 3, 1), 3);
        due("the first step of those", z.soonest(0, 3, 2), 1);
        law(z, "c5(k=2);c1(k=0)");
        due("like MINUTES", z.soonest(0, 3, 0), 11);
        law(z, "c5(k=2);c1(k=0);c2(1=1)");
        due("15 straight, 11 round", z.soonest(0, 3, 1), 7);
        law(z, "c3(k=2);c1(k=0)");
        due("9 straight, 9 round: MINUTES", z.soonest(0, 3, 0), 9);
        due("9 straight, 9 round: CELLS", z.soonest(0, 3, 1), 3);
        due("9 straight, 9 round: the first step", z.soonest(0, 3, 2), 1);
        sentence("Promise 18, Terms: WIDTH, ARM, TIRED of the one AHEAD as they are now; THE PATH does not matter");
        BlazedPath w = party("cw*50+a*5+t+y(1=1);n20(1=1);v60(1=1)");
        due("WIDTH 1, ARM 5", w.soonest(0, 1, 0), 75);
        w.width(4);
        due("WIDTH 4", w.soonest(0, 1, 0), 225);
        w.width(1);
        orders(w, "e");
        due("TIRED, onto a CELL that is cut", w.soonest(0, 1, 0), 95);
        w.person(3, 1);
        w.ahead(3);
        due("another one AHEAD", w.soonest(0, 1, 0), 55);
        w.days(7);
        due("THE DAY", w.soonest(0, 1, 0), 62);
        orders(w, "n");
        law(w, "ct(1=1)");
        due("t", w.soonest(0, 1, 0), 20);
        law(w, "cy(1=1)");
        due("y", w.soonest(0, 1, 0), 7);
        law(w, "ca(1=1)");
        due("a", w.soonest(0, 1, 0), 1);
        law(w, "cw(1=1)");
        w.width(3);
        due("w", w.soonest(0, 1, 0), 3);
        law(w, "c5+q+f(1=1)");
        due("q, f are 0", w.soonest(0, 1, 0), 5);
    }

    private static void camp() {
        sentence("Promise 19: -2: there is none");
        BlazedPath x = new BlazedPath();
        due("no stream", x.camp(0), -2);
        due("no stream", x.camp(1), -2);
        forest(x, forestOf("jbs10", "b12", "s12"));
        due("shut off", x.camp(0), -2);
        due("shut off", x.camp(1), -2);
        sentence("Promise 19: CAMP where THE PARTY is: 0 steps");
        x.start(2);
        due("CELL", x.camp(0), 2);
        due("steps", x.camp(1), 0);
        forest(x, "s12" + "/=".repeat(11));
        x.start(0);
        due("CELL 0", x.camp(0), 0);
        due("steps", x.camp(1), 0);
        x.start(143);
        due("CELL 143", x.camp(0), 143);
        sentence("Promise 19: the farthest: over the whole forest, and the longest way");
        forest(x, "j12" + "/=".repeat(10) + "/j11s");
        x.start(0);
        due("CELL", x.camp(0), 143);
        due("steps", x.camp(1), 22);
        forest(x, rows("j12", "b11j", "j12", "jb11", "j12", "b11j", "j12", "jb11", "j12", "b11j", "j12", "sb11"));
        due("CELL", x.camp(0), 132);
        due("steps", x.camp(1), 77);
        sentence("Promise 19, Terms: no bamboo; a stream behind it is none");
        forest(x, WINDING);
        due("by the row ahead of it", x.camp(0), 143);
        due("steps", x.camp(1), 66);
        forest(x, forestOf("j12", "b12", "s12"));
        due("shut off", x.camp(0), -2);
        sentence("Promise 19, Terms: of like ones the lowest CELL");
        forest(x, forestOf("j12", "jsj10", "sjsj9", "jsj10", "j12"));
        x.start(25);
        due("four round it", x.camp(0), 13);
        due("steps", x.camp(1), 1);
        forest(x, forestOf("j12", "j12", "sjsj9", "jsj10", "j12"));
        x.start(25);
        due("three", x.camp(0), 24);
        forest(x, forestOf("j12", "j12", "j2sj9", "jsj10", "j12"));
        x.start(25);
        due("two", x.camp(0), 26);
        sentence("Promise 19, Terms: from THE PARTY, not from the first place");
        BlazedPath y = party("c1(1=1)", forestOf("sj10s", "j12"));
        orders(y, "6e");
        due("nearer to the last", y.camp(0), 11);
        due("steps", y.camp(1), 5);
        orders(y, "w");
        due("nearer to the first", y.camp(0), 0);
        due("steps", y.camp(1), 5);
        sentence("Promise 19: from bamboo, where the first CELL may be: out of it");
        BlazedPath b = new BlazedPath();
        forest(b, forestOf("bsj10", "j12"));
        due("CELL", b.camp(0), 1);
        due("steps", b.camp(1), 1);
    }

    private static void byTurns() {
        sentence("Promise 20: n turns (1 to 6), what 10 yards, else who in turn what (0 on)");
        for (int n = -1; n <= 8; n++) {
            BlazedPath x = party("v1(1=1)");
            for (int what = -2; what <= 12; what++) {
                boolean fits = n >= 1 && n <= 6 && (what == 10 || what >= 0 && what < n);
                due("byTurns(" + n + ", 1, " + what + ")", x.byTurns(n, 1, what), !fits ? -1 : what == 10 ? 50 * n : 0);
            }
        }
        sentence("Promise 20: PEOPLE (as bits, 1 to 4 told ones)");
        BlazedPath all = new BlazedPath();
        for (int p = 0; p < 6; p++) {
            all.person(p, 1 + p);
        }
        for (int bits = 0; bits < 64; bits++) {
            int many = Integer.bitCount(bits);
            int best = 32 - Integer.numberOfLeadingZeros(bits);
            due("people " + bits, all.byTurns(1, bits, 10), many >= 1 && many <= 4 ? 10 * best : -1);
            due("who of " + bits, all.byTurns(1, bits, 0), many >= 1 && many <= 4 ? best - 1 : -1);
        }
        for (int bits : new int[] {64, 65, 128, 256 + 1, -1, -64, LEAST, LEAST + 1, MOST, 1 << 16, 1 << 30}) {
            due("people " + bits, all.byTurns(1, bits, 10), -1);
        }
        BlazedPath some = new BlazedPath();
        some.person(1, 2);
        some.person(4, 3);
        int[] fits = {2, 16, 18};
        for (int bits = 0; bits < 64; bits++) {
            boolean told = bits == fits[0] || bits == fits[1] || bits == fits[2];
            due("told ones " + bits, some.byTurns(1, bits, 10), !told ? -1 : bits == 2 ? 20 : 30);
        }
        sentence("Promise 20, Terms: yards ten times its ARM less TIRED (0 at least)");
        BlazedPath tired = new BlazedPath();
        tired.person(2, 1);
        law(tired, "n9(1=1)");
        due("10, 1, 0, 0", tired.byTurns(4, 4, 10), 11);
        orders(tired, "e");
        due("TIRED 9", tired.byTurns(1, 4, 10), 1);
        law(tired, "n1(1=1)");
        orders(tired, "e");
        due("TIRED 10", tired.byTurns(1, 4, 10), 0);
        law(tired, "n20(1=1)");
        orders(tired, "5e");
        due("TIRED 99", tired.personIs(2, 1), 99);
        due("0 at least", tired.byTurns(6, 4, 10), 0);
        due("of like ones the least row", tired.byTurns(6, 4, 5), 2);
        turnsTire();
    }

    private static void turnsTire() {
        sentence("Promise 20, Terms: then it is more TIRED by n (KIND 2; asked then), the others of them less by e (asked then; 0 to 99)");
        BlazedPath x = new BlazedPath();
        x.person(0, 9);
        law(x, "nk*5+t/5(1=1)");
        // tired 0, 10, 22, 36, 53, 73: more by 10, 12, 14, 17, 20
        due("six turns of one", x.byTurns(6, 1, 10), 90 + 80 + 68 + 54 + 37 + 17);
        law(x, "n20(1=1)");
        due("99 at most", x.byTurns(6, 1, 10), 90 + 70 + 50 + 30 + 10 + 0);
        BlazedPath y = new BlazedPath();
        y.person(0, 9);
        y.person(1, 9);
        law(y, "n20(1=1);e20(1=1)");
        due("in turn", y.byTurns(6, 3, 10), 540);
        for (int i = 0; i < 6; i++) {
            due("who in turn " + i, y.byTurns(6, 3, i), i % 2);
        }
        law(y, "n20(1=1);e5(1=1)");
        due("0, 1: 90 + 90; then 75, 55, ..", y.byTurns(2, 3, 10), 180);
        due("three: TIRED 15 and 20", y.byTurns(3, 3, 10), 180 + 75);
        due("the least row", y.byTurns(3, 3, 0), 0);
        due("the least row", y.byTurns(3, 3, 1), 1);
        due("the least row", y.byTurns(3, 3, 2), 0);
        law(y, "n20(1=1);ea-8+t(1=1)");
        due("e with a, t of the one that rests", y.byTurns(4, 3, 10), 360);
        sentence("Promise 20, Terms: the others of them: who is not among them neither tires nor rests; nothing is changed");
        BlazedPath z = new BlazedPath();
        z.person(0, 3);
        z.person(5, 3);
        law(z, "n20(1=1);e20(1=1)");
        orders(z, "e");
        due("0 alone is TIRED", z.byTurns(1, 1, 10), 10);
        due("5 alone", z.byTurns(2, 32, 10), 30 + 10);
        due("both", z.byTurns(2, 33, 10), 30 + 30);
        due("who first", z.byTurns(2, 33, 0), 5);
        due("who then", z.byTurns(2, 33, 1), 0);
        due("TIRED stays", z.personIs(0, 1), 20);
        due("AHEAD stays", z.count(5), 0);
        sentence("Promise 20, Terms: of like ones the least row: by numbers, of four PEOPLE and six turns");
        BlazedPath four = new BlazedPath();
        for (int p = 2; p < 6; p++) {
            four.person(p, 4);
        }
        due("no LAW: yards", four.byTurns(6, 60, 10), 240);
        for (int i = 0; i < 6; i++) {
            due("always the lowest", four.byTurns(6, 60, i), 2);
        }
        law(four, "n20(1=1)");
        int[] row = {2, 2, 3, 3, 4, 5};
        due("four fresh turns and two of TIRED 20", four.byTurns(6, 60, 10), 4 * 40 + 2 * 20);
        for (int i = 0; i < 6; i++) {
            due("the least row", four.byTurns(6, 60, i), row[i]);
        }
        turnsOfAll();
    }

    /** Most yards of so many turns, by trying all; n is 1 + t / 9 (KIND 2), e is t / 5 less what a takes. */
    private static int mostYards(int[] arms, int[] tired, int turns) {
        int most = 0;
        for (int ahead = 0; ahead < arms.length && turns > 0; ahead++) {
            int[] then = tired.clone();
            for (int i = 0; i < arms.length; i++) {
                int more = i == ahead ? Math.min(20, 1 + tired[i] / 9) : -Math.max(0, Math.min(20, tired[i] / 5 - arms[i] / 4));
                then[i] = Math.max(0, Math.min(99, tired[i] + more));
            }
            most = Math.max(most, Math.max(0, 10 * arms[ahead] - tired[ahead]) + mostYards(arms, then, turns - 1));
        }
        return most;
    }

    private static void turnsOfAll() {
        sentence("Promise 20, Terms: so that most yards are cut: TIRED from 0 to 99 side by side");
        int[][] all = {{0, 99, 0, 99}, {99, 0, 99, 0}, {99, 99, 0, 0}, {98, 0, 1, 97}, {20, 40, 60, 80}, {99, 99, 99, 99}, {0, 0, 0, 0}};
        int[][] arms = {{9, 9, 9, 9}, {1, 3, 6, 9}, {9, 8, 9, 8}};
        for (int[] tired : all) {
            for (int[] arm : arms) {
                BlazedPath x = new BlazedPath();
                for (int p = 0; p < 4; p++) {
                    x.person(p, arm[p]);
                    tire(x, p, tired[p]);
                    due("TIRED", x.personIs(p, 1), tired[p]);
                }
                law(x, "nk/2+t/9(1=1);et/5-a/4(1=1)");
                for (int n = 1; n <= 6; n++) {
                    due(n + " turns", x.byTurns(n, 15, 10), mostYards(arm, tired, n));
                }
                due("of two", x.byTurns(6, 3, 10), mostYards(new int[] {arm[0], arm[1]}, new int[] {tired[0], tired[1]}, 6));
            }
        }
        sentence("Promise 20, Terms: most yards by one yard more");
        BlazedPath x = new BlazedPath();
        x.person(0, 9);
        x.person(1, 9);
        law(x, "n1(1=1)");
        due("90 and 90, not 90 and 89", x.byTurns(2, 3, 10), 180);
        due("who then", x.byTurns(2, 3, 1), 1);
        due("six: three each", x.byTurns(6, 3, 10), 2 * (90 + 89 + 88));
        sentence("Promise 20, Terms: y THE DAY, in n and in e");
        BlazedPath y = new BlazedPath();
        y.person(0, 9);
        y.person(1, 9);
        law(y, "ny(1=1)");
        due("DAY 0", y.byTurns(2, 1, 10), 180);
        y.days(7);
        due("DAY 7", y.byTurns(2, 1, 10), 90 + 83);
        y.days(5);
        due("DAY 12", y.byTurns(2, 1, 10), 90 + 78);
        law(y, "n20(1=1);ey(1=1)");
        due("DAY 12, less by 12", y.byTurns(3, 3, 10), 90 + 90 + 82);
        sentence("Promise 20, Terms: a the ARM, in n of the one ahead, in e of the one that rests");
        BlazedPath a = new BlazedPath();
        a.person(1, 9);
        a.person(2, 8);
        law(a, "na(1=1)");
        due("9, 9, 9", a.byTurns(3, 2, 10), 90 + 81 + 72);
        due("8, 8, 8", a.byTurns(3, 4, 10), 80 + 72 + 64);
        law(a, "n20(1=1);ea-1(1=1)");
        due("90, 80, 90 less 20 and 8 more", a.byTurns(3, 6, 10), 90 + 80 + 78);
        sentence("Promise 20, Terms: of like ones the least row: of no yards at all, too");
        BlazedPath none = new BlazedPath();
        none.person(3, 1);
        none.person(5, 2);
        due("5 is better", none.byTurns(1, 40, 0), 5);
        due("5 is better", none.byTurns(2, 40, 1), 5);
        tire(none, 3, 99);
        tire(none, 5, 99);
        law(none, "v1(1=1)");
        due("none", none.byTurns(2, 40, 10), 0);
        due("the least", none.byTurns(2, 40, 0), 3);
        due("the least", none.byTurns(2, 40, 1), 3);
    }

    /** A person is so TIRED, by cutting from a new START on. */
    private static void tire(BlazedPath x, int p, int tired) {
        x.ahead(p);
        for (int left = tired; left > 0; left -= 20) {
            law(x, "n" + Math.min(20, left) + "(1=1)");
            x.start(0);
            orders(x, "e");
        }
    }

    private static void planned() {
        sentence("Promise 21: 1 to 99 CELLS of a KIND (no bamboo), DAYS (0 to 30), what 0 to 3");
        BlazedPath x = party("ck+1(1=1)");
        for (int kind = -1; kind <= 7; kind++) {
            boolean fits = kind >= 0 && kind <= 6 && kind != 3;
            due("KIND " + kind, x.planned(kind, 2, 0, 0), fits ? 2 * (kind + 1) : -1);
        }
        for (int cells = -1; cells <= 101; cells++) {
            due("CELLS " + cells, x.planned(2, cells, 0, 0), cells >= 1 && cells <= 99 ? 3 * cells : -1);
        }
        for (int days = -2; days <= 32; days++) {
            due("DAYS " + days, x.planned(2, 1, days, 0), days >= 0 && days <= 30 ? 3 : -1);
        }
        int[] wants = {3, 1, 1, 0};
        for (int what = -2; what <= 5; what++) {
            due("what " + what, x.planned(2, 1, 0, what), what >= 0 && what <= 3 ? wants[what] : -1);
        }
        sentence("Promise 21: NONE: nobody is AHEAD");
        BlazedPath nobody = new BlazedPath();
        due("nobody", nobody.planned(2, 1, 0, 0), -1);
        nobody.person(5, 1);
        due("somebody", nobody.planned(2, 1, 0, 0), 0);
        sentence("Promise 21, Terms: fewest MINUTES in all: the bounds of c and v");
        BlazedPath most = party("c240(1=1);v60(1=1)");
        due("the most", most.planned(2, 99, 30, 0), 99 * 300);
        law(most, "c240(1=1);v60-f*60(1=1)");
        due("each with a MARK", most.planned(2, 99, 30, 0), 99 * 242);
        due("the face", most.planned(2, 99, 30, 3), 2);
        due("on each CELL", most.planned(2, 99, 30, 2), 1);
        sentence("Promise 21, Terms: of like ones the least WIDTH, then the fewest CELLS for a MARK, then with a MARK");
        int[] saves = {1, 2, 3};
        int[] faces = {0, 2, 2};
        int[] minutes = {10, 10, 9};
        for (int i = 0; i < 3; i++) {
            BlazedPath y = party("v10-f*" + saves[i] + "(1=1)");
            due("MINUTES if a MARK saves " + saves[i], y.planned(2, 1, 0, 0), minutes[i]);
            due("the face", y.planned(2, 1, 0, 3), faces[i]);
            due("CELLS for a MARK", y.planned(2, 1, 0, 2), 1);
            due("WIDTH", y.planned(2, 1, 0, 1), 1);
            due("seven CELLS", y.planned(2, 7, 0, 0), 7 * minutes[i]);
            due("the face", y.planned(2, 7, 0, 3), faces[i]);
            due("CELLS for a MARK", y.planned(2, 7, 0, 2), 1);
        }
        for (int w = 1; w <= 4; w++) {
            BlazedPath y = party("c5(w<" + w + ");c4(1=1)");
            due("WIDTH from " + w + " on is better", y.planned(2, 3, 0, 1), w);
        }
        plannedGrows();
    }

    private static void plannedGrows() {
        sentence("Promise 21, Terms: v of each CELL, as it has grown by then (99 at most)");
        BlazedPath x = party("vq(1=1);g2(1=1)");
        due("no DAY", x.planned(2, 1, 0, 0), 0);
        due("one", x.planned(2, 1, 1, 0), 2);
        due("30", x.planned(2, 1, 30, 0), 60);
        law(x, "vq-60(1=1);g20(1=1)");
        due("80", x.planned(2, 1, 4, 0), 20);
        due("99", x.planned(2, 1, 5, 0), 39);
        due("99 at most", x.planned(2, 1, 30, 0), 39);
        law(x, "vq(1=1);gq+1(1=1)");
        due("g with q: 1, 3, 7", x.planned(2, 1, 3, 0), 7);
        sentence("Promise 21, Terms: by the one AHEAD (as TIRED as it is, all along)");
        BlazedPath t = party("ca+t(1=1);n20(1=1)");
        orders(t, "e");
        due("ARM 5, TIRED 20", t.planned(2, 10, 0, 0), 250);
        t.person(1, 9);
        due("another one is told", t.planned(2, 10, 0, 0), 250);
        t.ahead(1);
        due("ARM 9, TIRED 0", t.planned(2, 10, 0, 0), 90);
        t.ahead(0);
        law(t, "ca(1=1)");
        due("a", t.planned(2, 10, 0, 0), 50);
        law(t, "ct(1=1)");
        due("t", t.planned(2, 10, 0, 0), 200);
        t.ahead(1);
        due("TIRED stays", t.personIs(1, 1), 0);
        sentence("Promise 21, Terms: y: THE DAY in c, each DAY as it goes on in g, that of BACK in v");
        BlazedPath y = party("cy(1=1)");
        y.days(10);
        due("in c", y.planned(2, 1, 30, 0), 10);
        law(y, "vy(1=1)");
        due("in v", y.planned(2, 1, 30, 0), 40);
        law(y, "vq(1=1);g1(y=10);g2(y=12)");
        due("in g: the first DAY", y.planned(2, 1, 1, 0), 1);
        due("the second", y.planned(2, 1, 2, 0), 1);
        due("the third", y.planned(2, 1, 3, 0), 3);
        due("THE DAY stays", y.count(0), 10);
        sentence("Promise 21, Terms: w in c, g, v of the WIDTH that is planned, not of the one that is told");
        BlazedPath w = party("c5-w(1=1)");
        w.width(1);
        due("WIDTH 4", w.planned(2, 1, 0, 1), 4);
        due("MINUTES", w.planned(2, 1, 0, 0), 1);
        law(w, "v20-w*4(1=1)");
        due("v: WIDTH 4", w.planned(2, 3, 0, 1), 4);
        due("MINUTES", w.planned(2, 3, 0, 0), 12);
        due("no MARK", w.planned(2, 3, 0, 3), 0);
        law(w, "vq(1=1);g9-w*2(1=1)");
        due("g: WIDTH 4", w.planned(2, 3, 5, 1), 4);
        due("MINUTES", w.planned(2, 3, 5, 0), 15);
        due("WIDTH stays", w.count(9), 1);
        eachPlan();
    }

    private static int within(int value, int most) {
        return Math.max(0, Math.min(most, value));
    }

    /** MINUTES of a plan, CELL by CELL, under the law of eachPlan. */
    private static int minutesOf(int kind, int cells, int days, int wide, int spacing, int face) {
        int grown = 0;
        for (int i = 0; i < days; i++) {
            grown = Math.min(99, grown + within(kind + 5 - wide, 20));
        }
        int sum = 0;
        for (int i = 0; i < cells; i++) {
            boolean isMarked = face != 0 && i % spacing == 0;
            sum += within(2 * wide + kind, 240) + (isMarked ? 2 : 0);
            sum += within(kind * 2 + 9 - wide + grown / 3 - (isMarked ? kind + wide - 2 : 0), 60);
        }
        return sum;
    }

    private static void eachPlan() {
        sentence("Promise 21: each KIND, CELLS from 1 to 99, DAYS from 0 to 30: the best of all WIDTHS, CELLS for a MARK and faces");
        int[] widths = new int[5];
        for (int kind = 0; kind < 7; kind++) {
            BlazedPath x = party("cw*2+k(1=1);vk*2+9-w+q/3-f*[k+w-2](1=1);gk+5-w(1=1)");
            x.width(3);
            for (int cells : new int[] {1, 2, 6, 7, 99}) {
                for (int days : new int[] {0, 1, 9, 30}) {
                    int[] best = {Integer.MAX_VALUE, 0, 0, 0};
                    for (int plan = 0; plan < 48; plan++) {
                        int[] one = {0, 1 + plan / 12, 1 + plan / 2 % 6, plan % 2 == 0 ? 2 : 0};
                        one[0] = minutesOf(kind, cells, days, one[1], one[2], one[3]);
                        best = one[0] < best[0] ? one : best;
                    }
                    widths[best[1]] += best[3];
                    for (int what = 0; what < 4; what++) {
                        due("planned(" + kind + ", " + cells + ", " + days + ", " + what + ")",
                            x.planned(kind, cells, days, what), kind == 3 ? -1 : best[what]);
                    }
                }
            }
        }
        due("with a MARK at WIDTH 1, too", one(widths[1] > 0), 1);
        due("with a MARK at more than WIDTH 1, too", one(widths[2] + widths[3] + widths[4] > 0), 1);
    }

    public static void main(String[] args) {
        soonest();
        camp();
        byTurns();
        planned();
        finish();
    }
}
