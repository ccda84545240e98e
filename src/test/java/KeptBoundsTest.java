/** The boundaries of promises 28 to 31: kept, undone, checked, counted. */
public final class KeptBoundsTest extends Probe {
    private static void keep() {
        sentence("Promise 28: KEPT: how many CELLS THE PATH has (1 to 100)");
        due("a new object", new BlazedPath().keep(), 1);
        BlazedPath x = party("c1(1=1)");
        for (int cells = 2; cells <= 12; cells++) {
            orders(x, "e");
            due("keep", x.keep(), cells);
        }
        BlazedPath hundred = party("c1(1=1)");
        cutHundred(hundred);
        due("a hundred", hundred.keep(), 100);
        due("start", hundred.start(50), true);
        due("one", hundred.count(2), 1);
        due("undo", hundred.undo(), true);
        due("a hundred", hundred.count(2), 100);
        due("the last", hundred.path(99, 0), 99);
        due("no more", orders(hundred, "n"), 0);
        sentence("Promise 28: KEPT anywhere on THE PATH: all of its CELLS");
        orders(hundred, "3w");
        due("keep", hundred.keep(), 100);
        due("place", hundred.count(3), 96);
    }

    private static void undo() {
        sentence("Promise 29: false: none is KEPT");
        BlazedPath x = party("c5(1=1)");
        orders(x, "2e");
        due("undo", x.undo(), false);
        due("nothing is changed", x.count(2) + x.count(1), 13);
        sentence("Promise 29: UNDONE as they were KEPT last, again and again");
        due("keep", x.keep(), 3);
        orders(x, "e");
        due("undo", x.undo(), true);
        due("CELLS", x.count(2), 3);
        due("at once again", x.undo(), true);
        due("CELLS", x.count(2), 3);
        orders(x, "2e");
        due("once more", x.undo(), true);
        due("CELLS", x.count(2), 3);
        orders(x, "4e");
        due("keep another", x.keep(), 7);
        orders(x, "e");
        due("undo", x.undo(), true);
        due("the last KEPT", x.count(2), 7);
        sentence("Promise 29, Terms: KEPT: PEOPLE's TIRED, AHEAD, THE PATH, where THE PARTY is, THE MINUTE, THE DAY, X");
        BlazedPath y = party("c5(1=1);v1(1=1);n4(1=1);g3(1=1);d9(1=1)");
        y.person(4, 4);
        orders(y, "e");
        y.days(2);
        orders(y, "2eoxw+n");
        y.seed(500);
        due("keep", y.keep(), 4);
        y.ahead(0);
        orders(y, "eobxe");
        y.days(5);
        y.width(2);
        orders(y, "3e2w");
        y.seed(9);
        due("undo", y.undo(), true);
        int[] counts = {2, 14, 4, 2, 17, 4, 5, 0, 500, 2, 600};
        for (int what = 0; what <= 10; what++) {
            due("count(" + what + ")", y.count(what), counts[what]);
        }
        due("TIRED of 0", y.personIs(0, 1), 8);
        due("TIRED of 4", y.personIs(4, 1), 0);
        int[][] places = {{0, 6, 1, 0, 0}, {1, 6, 1, 0, 0}, {2, 0, 1, 0, 0}, {3, 0, 1, 1, 1}};
        for (int p = 0; p < 4; p++) {
            for (int what = 0; what < 5; what++) {
                due("path(" + p + ", " + what + ")", y.path(p, what), places[p][what]);
            }
        }
        due("no place 4", y.path(4, 0), -1);
        wholePath();
        notKept();
    }

    private static void wholePath() {
        sentence("Promise 29, Terms: THE PATH with its CELLS, WIDTHS, MARKS, STICKS and what has GROWN, whatever came since");
        BlazedPath x = party("c1(1=1);g5(1=1);vw*10+q-f(1=1)");
        x.width(3);
        x.start(60);
        orders(x, "obeob");
        x.days(1);
        x.width(2);
        orders(x, "ex");
        due("keep", x.keep(), 3);
        x.width(4);
        x.start(0);
        orders(x, "xnxnobxnobx");
        x.days(3);
        due("v by the new WIDTHS", tried(x, "s", 0), 40 + 15 - 1);
        due("undo", x.undo(), true);
        int[][] wants = {{60, 5, 3, 3, 0}, {61, 5, 3, 3, 0}, {62, 0, 2, 0, 1}};
        for (int p = 0; p < 3; p++) {
            for (int what = 0; what < 5; what++) {
                due("path(" + p + ", " + what + ")", x.path(p, what), wants[p][what]);
            }
        }
        due("no place 3", x.path(3, 0), -1);
        due("v by the old ones", tried(x, "w", 0), 30 + 5 - 1);
        due("CELLS of the other one can be cut", tried(x, "s", 1), 1);
        due("its own not", tried(x, "w", 1), 0);
        due("BACK", x.back(0), 2 * (30 + 5 - 1));
        due("HOME", x.home(), 2 * (30 + 5 - 1));
        due("undo", x.undo(), true);
        due("place", x.count(3), 2);
    }

    private static void notKept() {
        sentence("Promise 29, Terms: what is not KEPT stays: WIDTH, LIGHT, THE LAW, ARMS, who is told, the tape");
        BlazedPath x = party("c5(1=1);n4(1=1)");
        orders(x, "e");
        x.keep();
        x.width(3);
        x.light(77);
        law(x, "c9(1=1)");
        x.person(0, 8);
        x.person(3, 2);
        x.feed(1, 2, 3, 4, 5);
        due("undo", x.undo(), true);
        due("WIDTH", x.count(9), 3);
        due("LIGHT", x.count(10), 77);
        due("CLAUSES", x.count(6), 1);
        due("ARM", x.personIs(0, 0), 8);
        due("TIRED as it was KEPT", x.personIs(0, 1), 4);
        due("told", x.count(4), 9);
        due("one told since: TIRED", x.personIs(3, 1), 0);
        due("AHEAD", x.count(5), 0);
        due("bytes", x.count(7), 20);
        x.check(0);
        due("the new c", orders(x, "e"), 9);
        due("the new WIDTH", x.path(2, 2), 3);
        sentence("Promise 29, Terms: AHEAD as it was KEPT: nobody; then who is told is AHEAD");
        BlazedPath y = new BlazedPath();
        y.keep();
        y.person(3, 3);
        due("AHEAD", y.count(5), 3);
        due("undo", y.undo(), true);
        due("nobody", y.count(5), -2);
        due("no cutting", orders(y, "e"), 0);
        due("soonest", y.soonest(0, 1, 0), -1);
        due("planned", y.planned(2, 1, 0, 0), -1);
        due("person", y.person(1, 1), true);
        due("AHEAD", y.count(5), 1);
        sentence("Promise 29, Terms: nothing is KEPT any more when THE FOREST is read; all else leaves it KEPT");
        BlazedPath z = party("c5(1=1)");
        z.keep();
        z.start(7);
        z.days(3);
        law(z, "c1(1=1)");
        orders(z, "e");
        z.home();
        due("undo", z.undo(), true);
        due("CELL 0", z.path(0, 0), 0);
        forest(z, JUNGLE);
        due("undo", z.undo(), false);
        due("undo", z.undo(), false);
    }

    private static void check() {
        sentence("Promise 30: the first n bytes of the tape (0 to 100; empty then)");
        for (int n = -2; n <= 103; n++) {
            BlazedPath x = new BlazedPath();
            for (int i = 0; i < 6; i++) {
                x.feed(0, 0, 0, 0, 0);
            }
            boolean fits = n >= 0 && n <= 100;
            due("check(" + n + ")", x.check(n), fits ? -1 : -2);
            due("bytes", x.count(7), fits ? 0 : 120);
        }
        sentence("Promise 30: -2: it has not so many (the tape stays)");
        BlazedPath few = new BlazedPath();
        due("1 of none", few.check(1), -2);
        due("0 of none", few.check(0), -1);
        few.feed(0, 0, 0, 0, 0);
        due("21 of 20", few.check(21), -2);
        due("the tape stays", few.count(7), 20);
        due("20 of 20", few.check(20), -1);
        sentence("Promise 30: NONE: right; else the first place that is not so");
        BlazedPath x = party("g20(1=1)");
        cutHundred(x);
        x.days(5);
        int[] all = new int[100];
        java.util.Arrays.fill(all, 99);
        due("a hundred, right", check(x, all), -1);
        for (int place : new int[] {0, 1, 50, 98, 99}) {
            all[place] = 98;
            due("98 at " + place, check(x, all), place);
            all[place] = 100;
            due("100 at " + place, check(x, all), place);
            all[place] = 255;
            due("255 at " + place, check(x, all), place);
            all[place] = 99;
        }
        all[7] = 0;
        all[9] = 0;
        due("the first of two", check(x, all), 7);
        due("empty then", x.count(7), 0);
        sentence("Promise 30: of places that there are not 0");
        BlazedPath y = party("g3(1=1)");
        orders(y, "e");
        y.days(1);
        due("right", check(y, 3, 3), -1);
        due("and noughts", check(y, 3, 3, 0, 0, 0, 0), -1);
        due("what is not 0 behind THE PATH", check(y, 3, 3, 3), 2);
        due("the last of a hundred", check(y, hundredWith(3, 3, 99)), 99);
        due("noughts to the hundredth", check(y, hundredWith(3, 3, -1)), -1);
        due("a CELL that was cut and undone is none", oneUndone(), 1);
        sentence("Promise 30: of fewer places those alone");
        due("the first alone", check(y, 3), -1);
        due("none", y.check(0), -1);
        sentence("Promise 30: of places that there are not any more 0");
        due("start", y.start(0), true);
        due("noughts", check(y, 0, 0, 0), -1);
        due("what had GROWN there", check(y, 0, 3), 1);
    }

    private static int oneUndone() {
        BlazedPath x = party("g3(1=1)");
        x.keep();
        orders(x, "e");
        x.days(1);
        x.undo();
        return check(x, 0, 3);
    }

    private static int[] hundredWith(int first, int second, int place) {
        int[] all = new int[100];
        all[0] = first;
        all[1] = second;
        if (place >= 0) {
            all[place] = 1;
        }
        return all;
    }

    private static void count() {
        sentence("Promise 31: 0 to 10, 100 + a CELL; NONE for others");
        BlazedPath x = new BlazedPath();
        for (int what = -20; what <= 300; what++) {
            boolean isCell = what >= 100 && what <= 243;
            int[] wants = {0, 0, 1, 0, 0, -2, 0, 0, 1, 1, 600};
            due("count(" + what + ")", x.count(what), what >= 0 && what <= 10 ? wants[what] : isCell ? 2 : -1);
        }
        for (int what : new int[] {LEAST, LEAST + 100, LEAST + 243, MOST - 100, MOST, 65536, 65536 + 100}) {
            due("count(" + what + ")", x.count(what), -1);
        }
        sentence("Promise 31: each at its other end");
        BlazedPath y = new BlazedPath();
        for (int p = 0; p < 6; p++) {
            y.person(p, 9);
        }
        due("told PEOPLE", y.count(4), 63);
        y.ahead(5);
        due("AHEAD", y.count(5), 5);
        law(y, "v1(1=1)" + ";v1(1=1)".repeat(15));
        due("CLAUSES", y.count(6), 16);
        cutHundred(y);
        due("CELLS", y.count(2), 100);
        due("place", y.count(3), 99);
        y.seed(65535);
        due("X", y.count(8), 65535);
        y.width(4);
        due("WIDTH", y.count(9), 4);
        y.light(999);
        due("LIGHT", y.count(10), 999);
        for (int i = 0; i < 14; i++) {
            y.feed(-1, -1, -1, -1, -1);
        }
        due("bytes", y.count(7), 260);
        sentence("Promise 31: the KIND of each CELL, 0 to 6");
        BlazedPath z = new BlazedPath();
        forest(z, forestOf("otjbrspotjbr", "b12", "p12"));
        for (int cell = 0; cell < 144; cell++) {
            due("CELL " + cell, z.count(100 + cell), cell < 12 ? cell % 7 : cell < 24 ? 3 : 6);
        }
    }

    public static void main(String[] args) {
        keep();
        undo();
        check();
        count();
        finish();
    }
}
