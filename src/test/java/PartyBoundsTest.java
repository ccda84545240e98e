/** The boundaries of promises 5 to 9, 26 and 27: where one starts, who goes, how wide, till when, the seed. */
public final class PartyBoundsTest extends Probe {
    private static void start() {
        sentence("Promise 5: THE PATH is a CELL alone: true (0 to 143)");
        for (int cell = 0; cell < 144; cell++) {
            BlazedPath x = new BlazedPath();
            due("start(" + cell + ")", x.start(cell), true);
            due("its CELL", x.path(0, 0), cell);
            due("alone", x.count(2), 1);
            due("THE PARTY is there", x.count(3), 0);
        }
        sentence("Promise 5: no bamboo; each other KIND");
        BlazedPath x = new BlazedPath();
        forest(x, forestOf("otjbrspj5", "b12"));
        for (int cell = 0; cell < 12; cell++) {
            due("start(" + cell + ")", x.start(cell), cell != 3);
        }
        for (int cell = 12; cell < 144; cell++) {
            due("start(" + cell + ")", x.start(cell), false);
        }
        due("where it was", x.path(0, 0), 11);
        sentence("Promise 5: START where THE PATH is already, and from a PATH of 100");
        BlazedPath y = party("c1(1=1);n1(1=1);g4(1=1)");
        y.days(2);
        y.seed(12);
        cutHundred(y);
        orders(y, "obx");
        y.keep();
        y.width(4);
        due("start(0)", y.start(0), true);
        due("CELLS", y.count(2), 1);
        due("GROWN (0 at first)", y.path(0, 1), 0);
        due("WIDTH as it is told then", y.path(0, 2), 4);
        due("MARK", y.path(0, 3), 0);
        due("STICK", y.path(0, 4), 0);
        due("no place 1", y.path(1, 0), -1);
        sentence("Promise 5, Terms: START: THE MINUTE, THE DAY, TIRED stay");
        due("THE MINUTE", y.count(1), 104);
        due("THE DAY", y.count(0), 2);
        due("TIRED", y.personIs(0, 1), 99);
        due("AHEAD", y.count(5), 0);
        due("X", y.count(8), 12);
        sentence("Promise 5: alone: nothing of THE PATH before is on CELLS that are cut anew");
        BlazedPath w = party("c1(1=1);g5(1=1)");
        w.width(3);
        orders(w, "obxeobxeobx");
        w.days(1);
        w.width(2);
        due("start", w.start(1), true);
        orders(w, "2w");
        due("not onto a CELL outside", w.count(2), 2);
        for (int p = 0; p < 2; p++) {
            int[] wants = {1 - p, 0, 2, 0, 0};
            for (int what = 0; what < 5; what++) {
                due("path(" + p + ", " + what + ")", w.path(p, what), wants[what]);
            }
        }
        sentence("Promise 5: what is KEPT stays");
        due("what is KEPT stays", y.undo(), true);
        due("so", y.count(2), 100);
    }

    private static void person() {
        sentence("Promise 6: PEOPLE 0 to 5, an ARM (1 to 9): true");
        for (int p = 0; p < 6; p++) {
            for (int arm = 1; arm <= 9; arm++) {
                BlazedPath x = new BlazedPath();
                due("person(" + p + ", " + arm + ")", x.person(p, arm), true);
                due("ARM", x.personIs(p, 0), arm);
                due("TIRED (0 at first)", x.personIs(p, 1), 0);
                due("told", x.count(4), 1 << p);
                due("AHEAD", x.count(5), p);
            }
        }
        sentence("Promise 6: false: no such ones, just outside");
        BlazedPath x = new BlazedPath();
        int[][] none = {{-1, 1}, {6, 1}, {0, 0}, {0, 10}, {5, 0}, {5, 10}, {-1, 0}, {6, 10}, {LEAST, 5}, {MOST, 5}, {0, LEAST}, {0, MOST}};
        for (int[] one : none) {
            due("person(" + one[0] + ", " + one[1] + ")", x.person(one[0], one[1]), false);
        }
        due("nobody is told", x.count(4), 0);
        due("nobody is AHEAD", x.count(5), -2);
        sentence("Promise 6: in place of the one before; TIRED 0");
        BlazedPath y = party("n20(1=1)");
        orders(y, "5e");
        due("TIRED (99 at most)", y.personIs(0, 1), 99);
        due("again, refused", y.person(0, 10), false);
        due("TIRED", y.personIs(0, 1), 99);
        due("again", y.person(0, 5), true);
        due("TIRED", y.personIs(0, 1), 0);
        due("with another ARM", y.person(0, 9), true);
        due("ARM", y.personIs(0, 0), 9);
        due("told once", y.count(4), 1);
        sentence("Promise 6, Terms: AHEAD: who is told while nobody is AHEAD is (so the first one), till another one is");
        BlazedPath z = new BlazedPath();
        for (int p = 5; p >= 0; p--) {
            due("person", z.person(p, 1 + p), true);
            due("AHEAD", z.count(5), 5);
        }
        due("all are told", z.count(4), 63);
        due("told again", z.person(5, 9), true);
        due("still AHEAD", z.count(5), 5);
        due("another one", z.ahead(2), true);
        due("AHEAD", z.count(5), 2);
        due("told again", z.person(5, 9), true);
        due("AHEAD stays", z.count(5), 2);
    }

    private static void ahead() {
        sentence("Promise 7: AHEAD is a told PERSON: true; false: no such one");
        for (int p = 0; p < 6; p++) {
            BlazedPath x = new BlazedPath();
            x.person(p, 3);
            for (int other = -1; other < 7; other++) {
                due("ahead(" + other + ") of " + p, x.ahead(other), other == p);
                due("AHEAD", x.count(5), p);
            }
        }
        BlazedPath x = new BlazedPath();
        x.person(0, 1);
        x.person(5, 1);
        due("ahead(5)", x.ahead(5), true);
        due("AHEAD", x.count(5), 5);
        due("ahead(5) again", x.ahead(5), true);
        due("ahead(0)", x.ahead(0), true);
        due("AHEAD", x.count(5), 0);
        due("-2 is nobody", x.ahead(-2), false);
        due("AHEAD", x.count(5), 0);
        due("a bit is no number", x.ahead(32), false);
        due("the lowest int", x.ahead(LEAST), false);
        due("the highest int", x.ahead(MOST), false);
        due("AHEAD", x.count(5), 0);
    }

    private static void widthAndLight() {
        sentence("Promise 8: The WIDTH (1 to 4)");
        for (int w = -2; w < 8; w++) {
            BlazedPath x = party("c1(1=1)");
            due("width(" + w + ")", x.width(w), w >= 1 && w <= 4);
            due("WIDTH", x.count(9), w >= 1 && w <= 4 ? w : 1);
            orders(x, "e");
            due("of the first one: as it was told then", x.path(0, 2), 1);
            due("of one that is cut: as it is told", x.path(1, 2), w >= 1 && w <= 4 ? w : 1);
        }
        sentence("Promise 8: the CELLS keep the WIDTH at which they were cut");
        BlazedPath x = party("c1(1=1)");
        for (int w = 4; w >= 1; w--) {
            x.width(w);
            orders(x, "e");
        }
        for (int p = 1; p <= 4; p++) {
            due("WIDTH at " + p, x.path(p, 2), 5 - p);
        }
        sentence("Promise 9: LIGHT (0 to 999)");
        for (int minute : new int[] {-2, -1, 0, 1, 599, 600, 998, 999, 1000, 1001, LEAST, MOST}) {
            BlazedPath y = new BlazedPath();
            due("light(" + minute + ")", y.light(minute), minute >= 0 && minute <= 999);
            due("LIGHT", y.count(10), minute >= 0 && minute <= 999 ? minute : 600);
        }
        sentence("Promise 9: LIGHT 0 and 999 bound the ACTS");
        BlazedPath z = party("c1(1=1)");
        z.light(0);
        due("at 0 nothing that takes MINUTES", orders(z, "e"), 0);
        due("not cut", z.count(2), 1);
        law(z, "c0(1=1)");
        due("but what takes 0", orders(z, "e"), 0);
        due("cut", z.count(2), 2);
        z.light(999);
        due("90 rests", orders(z, "9(9.)9."), 900);
        due("9 more", orders(z, "9."), 90);
        due("not above 999", orders(z, "."), 0);
        law(z, "c9(1=1)");
        due("to 999 itself", orders(z, "e"), 9);
        due("THE MINUTE", z.count(1), 999);
    }

    private static void seedAndPersonIs() {
        sentence("Promise 27: THE SEED (0 to 65535; X, too)");
        BlazedPath x = new BlazedPath();
        for (int seed : new int[] {0, 1, 2, 32767, 32768, 65534, 65535}) {
            due("seed(" + seed + ")", x.seed(seed), true);
            due("X", x.count(8), seed);
        }
        x.seed(77);
        for (int seed : new int[] {LEAST, -65536, -1, 65536, 65537, MOST}) {
            due("seed(" + seed + ")", x.seed(seed), false);
            due("X", x.count(8), 77);
        }
        sentence("Promise 15, Terms: DRAWS: X = (25173 X + 13849) modulo 65536");
        for (int seed : new int[] {0, 1, 32768, 65535, 51687}) {
            BlazedPath y = party("d1(1=1)", OPEN);
            orders(y, "e");
            y.seed(seed);
            y.home();
            due("X behind " + seed, y.count(8), (25173L * seed + 13849) % 65536);
        }
        sentence("Promise 26: Of a told PERSON, what 0 ARM, 1 TIRED; NONE for others");
        BlazedPath y = new BlazedPath();
        y.person(0, 1);
        y.person(5, 9);
        law(y, "n20(1=1)");
        orders(y, "e");
        for (int p = -1; p < 7; p++) {
            due("ARM of " + p, y.personIs(p, 0), p == 0 ? 1 : p == 5 ? 9 : -1);
            due("TIRED of " + p, y.personIs(p, 1), p == 0 ? 20 : p == 5 ? 0 : -1);
            due("what -1 of " + p, y.personIs(p, -1), -1);
            due("what 2 of " + p, y.personIs(p, 2), -1);
        }
        due("both ends of int", y.personIs(LEAST, LEAST), -1);
        due("both ends of int", y.personIs(MOST, MOST), -1);
        due("both ends of int", y.personIs(0, MOST), -1);
        due("both ends of int", y.personIs(0, LEAST), -1);
    }

    public static void main(String[] args) {
        start();
        person();
        ahead();
        widthAndLight();
        seedAndPersonIs();
        finish();
    }
}
