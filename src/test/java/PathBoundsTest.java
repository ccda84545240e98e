/** The boundaries of promises 12 to 16: what grows, the way back, how sure it is, home, what is seen of a place. */
public final class PathBoundsTest extends Probe {
    private static void days() {
        sentence("Promise 12: DAYS (1 to 60)");
        for (int n : new int[] {-1, 0, 1, 2, 59, 60, 61, 62, LEAST, MOST}) {
            BlazedPath x = new BlazedPath();
            law(x, "g1(1=1)");
            boolean fits = n >= 1 && n <= 60;
            due("days(" + n + ")", x.days(n), fits ? n : -1);
            due("THE DAY", x.count(0), fits ? n : 0);
            due("GROWN", x.path(0, 1), fits ? n : 0);
        }
        sentence("Promise 12, Terms: what has GROWN is more by g (99 at most): the sum is what it truly is more");
        BlazedPath x = new BlazedPath();
        law(x, "g20(1=1)");
        int[] sums = {20, 20, 20, 20, 19, 0, 0};
        for (int sum : sums) {
            due("a day", x.days(1), sum);
        }
        due("GROWN", x.path(0, 1), 99);
        BlazedPath y = party("g1(1=1)");
        y.days(60);
        y.days(38);
        due("98", y.path(0, 1), 98);
        due("99", y.days(1), 1);
        due("no more", y.days(60), 0);
        due("99", y.path(0, 1), 99);
        sentence("Promise 12: on all CELLS of THE PATH: a hundred");
        BlazedPath hundred = party("g20(1=1)");
        cutHundred(hundred);
        due("4 days", hundred.days(4), 8000);
        due("the fifth", hundred.days(1), 1900);
        due("all is grown over", hundred.days(60), 0);
        due("the last place", hundred.path(99, 1), 99);
        sentence("Promise 12, Terms: g is asked then: with what has GROWN on that CELL, THE DAY as it is, its KIND and WIDTH");
        BlazedPath z = new BlazedPath();
        law(z, "gq+1(1=1)");
        due("1, 2, 4, 8, 16, 20 ..", z.days(6), 31 + 20);
        BlazedPath w = new BlazedPath();
        law(w, "gy(1=1)");
        due("0, 1, 2, 3", w.days(4), 6);
        BlazedPath k = party("gk*4+w(1=1)", forestOf("otjrsp7", "j12"));
        k.width(3);
        k.start(0);
        orders(k, "5e");
        due("by KIND and WIDTH", k.days(1), 3 + 7 + 11 + 19 + 20 + 20);
        eachGrows();
        sentence("Promise 12, Terms: THE MINUTE, TIRED are 0 (of all), THE DAY is one more");
        BlazedPath t = party("c9(1=1);n20(1=1)");
        t.person(5, 5);
        orders(t, "5e+3e");
        due("TIRED", t.personIs(0, 1), 99);
        due("TIRED", t.personIs(5, 1), 60);
        due("THE MINUTE", t.count(1), 72);
        due("days", t.days(1), 0);
        due("TIRED", t.personIs(0, 1), 0);
        due("TIRED", t.personIs(5, 1), 0);
        due("THE MINUTE", t.count(1), 0);
        due("THE DAY", t.count(0), 1);
        due("AHEAD stays", t.count(5), 5);
        due("THE PARTY stays", t.count(3), 8);
        lastDay();
    }

    private static void eachGrows() {
        sentence("Promise 12, Terms: more by g on each KIND, at each WIDTH, from 0 to 99");
        for (int kind = 0; kind < 7; kind++) {
            for (int wide = 1; wide <= 4; wide++) {
                BlazedPath x = new BlazedPath();
                x.width(wide);
                law(x, "gk+w+q%5(1=1)");
                forest(x, "otjbrsp".charAt(kind) + "12" + "/=".repeat(11));
                int grown = 0;
                for (int day = 0; day < 60; day++) {
                    int after = Math.min(99, grown + kind + wide + grown % 5);
                    due("KIND " + kind + ", WIDTH " + wide + ", GROWN " + grown, x.days(1), after - grown);
                    grown = after;
                }
                due("GROWN", x.path(0, 1), grown);
            }
        }
        sentence("Promise 12, Terms: each CELL by its own WIDTH and what has GROWN on it, in its order");
        BlazedPath x = party("gw*2+q/9(1=1)");
        int[] grown = new int[100];
        for (int cells = 1; cells < 60; cells++) {
            int sum = 0;
            for (int p = 0; p < cells; p++) {
                int after = Math.min(99, grown[p] + (p == 0 ? 1 : p % 4 + 1) * 2 + grown[p] / 9);
                sum += after - grown[p];
                grown[p] = after;
            }
            due("a day of " + cells, x.days(1), sum);
            x.width(cells % 4 + 1);
            orders(x, cells % 12 == 0 ? "n" : cells / 12 % 2 == 0 ? "e" : "w");
            due("CELLS", x.count(2), cells + 1);
        }
        for (int p = 0; p < 60; p++) {
            due("GROWN at " + p, x.path(p, 1), grown[p]);
        }
        for (int old = 95; old <= 99; old++) {
            BlazedPath y = party("g19(1=1)");
            y.days(5);
            law(y, "g1(1=1)");
            for (int i = 95; i < old; i++) {
                y.days(1);
            }
            y.width(2);
            orders(y, "e");
            law(y, "gw*3+q/9(1=1)");
            due("GROWN " + old + " beside 0", y.days(1), Math.min(99 - old, 3 + old / 9) + 6);
        }
    }

    private static void lastDay() {
        sentence("Promise 12, Terms: THE DAY (9999 at most: then none goes by); Promise 12: as many as can");
        BlazedPath x = party("c5(1=1);n6(1=1)");
        for (int i = 0; i < 166; i++) {
            x.days(60);
        }
        due("9960", x.count(0), 9960);
        x.days(37);
        due("9997", x.count(0), 9997);
        law(x, "g1(1=1);c5(1=1);n6(1=1)");
        due("9998", x.days(1), 1);
        due("one of 60", x.days(60), 1);
        due("9999", x.count(0), 9999);
        orders(x, "2e");
        due("none of 1", x.days(1), 0);
        due("none of 60", x.days(60), 0);
        due("THE DAY", x.count(0), 9999);
        due("THE MINUTE stays", x.count(1), 10);
        due("TIRED stays", x.personIs(0, 1), 12);
        due("GROWN stays", x.path(0, 1), 2);
        due("no such n all the same", x.days(61), -1);
        due("no such n all the same", x.days(0), -1);
        law(x, "vy-9990(1=1)");
        due("y", x.back(0), 18);
        BlazedPath y = new BlazedPath();
        for (int i = 0; i < 166; i++) {
            y.days(60);
        }
        law(y, "g1(1=1)");
        due("39 of 60", y.days(60), 39);
        due("9999", y.count(0), 9999);
    }

    private static void forks() {
        sentence("Promise 16, Terms: A FORK: a neighbour of a KIND that looks like a way (open, ridge, stream, a beasts' path)");
        String[] kinds = {"o", "t", "j", "b", "r", "s", "p"};
        int[] looks = {1, 0, 0, 0, 1, 1, 1};
        for (int kind = 0; kind < 7; kind++) {
            BlazedPath x = party("c1(1=1)", forestOf("j12", "j" + kinds[kind] + "j10", "j12"));
            orders(x, "2e");
            due("by KIND " + kind, x.path(1, 5), looks[kind]);
            due("the next place", x.path(2, 5), 0);
            due("FORKS", x.back(1), looks[kind]);
        }
        sentence("Promise 16, Terms: not the place ahead of it nor the one behind it, whatever they are");
        BlazedPath row = party("c1(1=1)", forestOf("o12", "j12"));
        orders(row, "9e2e");
        for (int p = 0; p < 12; p++) {
            due("place " + p, row.path(p, 5), 0);
        }
        orders(row, "w");
        due("the place behind is no other way", row.back(1), 0);
        BlazedPath end = party("c1(1=1)", forestOf("o12", "j12"));
        orders(end, "3e");
        due("at the end the next CELL is", end.path(3, 5), 1);
        due("not ahead of it", end.path(2, 5), 0);
        sentence("Promise 16, Terms: or it is on THE PATH, of any KIND");
        BlazedPath z = party("c1(1=1)");
        orders(z, "2en");
        due("no FORK yet", z.path(1, 5), 0);
        orders(z, "w");
        due("beside THE PATH", z.path(4, 5), 1);
        due("and the other one", z.path(1, 5), 1);
        due("the corners are none", z.path(2, 5) + z.path(3, 5), 0);
        orders(z, "w");
        due("beside the first place", z.path(5, 5), 1);
        sentence("Promise 16, Terms: not the first one: the first place never is one");
        due("the first place, THE PATH beside it", z.path(0, 5), 0);
        BlazedPath open = party("c1(1=1)", OPEN);
        orders(open, "2e");
        due("the first place in the open", open.path(0, 5), 0);
        due("nor BLIND", open.path(0, 6), 0);
        due("FORKS", open.back(1), 2);
        due("BLIND ones", open.back(2), 2);
        sentence("Promise 16, Terms: a neighbour (4 ways): none outside, none across a side, none aslant");
        BlazedPath corner = party("c1(1=1)", forestOf("j11o", "oj11", "j12"));
        corner.start(10);
        orders(corner, "e");
        due("x 11: CELL 12 is no neighbour", corner.path(1, 5), 0);
        BlazedPath aslant = party("c1(1=1)", forestOf("j12", "ojoj9", "j12"));
        orders(aslant, "2e");
        due("aslant", aslant.path(1, 5), 0);
        due("above", aslant.path(2, 5), 1);
        BlazedPath top = party("c1(1=1)", forestOf("j12"));
        top.start(142);
        orders(top, "e");
        due("the last CELL", top.path(1, 5), 0);
    }

    private static void blind() {
        sentence("Promise 16, Terms: It is BLIND if there is no STICK on it and no MARK with the face 2 on the place ahead of it");
        for (int stick = 0; stick < 2; stick++) {
            for (int bits = 0; bits < 16; bits++) {
                BlazedPath x = party("c1(1=1)", forestOf("j12", "j2oj9", "j12"));
                String ahead = ((bits & 1) != 0 ? "o" : "") + ((bits & 2) != 0 ? "b" : "");
                String own = ((bits & 4) != 0 ? "o" : "") + ((bits & 8) != 0 ? "b" : "") + (stick != 0 ? "x" : "");
                orders(x, "e" + ahead + "e" + own + "e");
                boolean isBlind = stick == 0 && (bits & 2) == 0;
                due("FORK", x.path(2, 5), 1);
                due("BLIND with MARKS " + bits + " and STICK " + stick, x.path(2, 6), one(isBlind));
                due("BLIND ones", x.back(2), one(isBlind));
                due("the first BLIND one", x.back(3), isBlind ? 2 : -2);
            }
        }
        BlazedPath x = party("c1(1=1)", forestOf("j12", "j2oj9", "j12"));
        orders(x, "xe" + "x" + "e");
        due("a STICK on the place ahead of it does not help", x.path(2, 6), 1);
        due("what is no FORK is not BLIND", x.path(1, 6), 0);
    }

    private static void back() {
        sentence("Promise 13: BACK at the first place: nothing");
        BlazedPath home = party("v60(1=1);d9(1=1)", OPEN);
        int[] none = {0, 0, 0, -2};
        for (int what = 0; what < 4; what++) {
            due("back(" + what + ")", home.back(what), none[what]);
        }
        orders(home, "2e");
        home.light(999);
        orders(home, "2w");
        for (int what = 0; what < 4; what++) {
            due("back(" + what + ") at the first place again", home.back(what), none[what]);
        }
        sentence("Promise 13, Terms: MINUTES (v of each CELL, f by face 2), from where THE PARTY is: 0 to 99 steps");
        BlazedPath hundred = party("v60(1=1)");
        cutHundred(hundred);
        due("99 steps of 60", hundred.back(0), 5940);
        law(hundred, "v99(1=1)");
        due("the bound of v", hundred.back(0), 5940);
        law(hundred, "v7-f*6(1=1)");
        orders(hundred, "ob");
        due("where THE PARTY is does not count", hundred.back(0), 693);
        orders(hundred, "w");
        due("one step", hundred.back(0), 686);
        orders(hundred, "oe");
        due("face 1 is not seen", hundred.back(0), 693);
        orders(hundred, "wbe");
        due("face 2 is", hundred.back(0), 687);
        due("LIGHT does not matter", hundred.light(0), true);
        due("BACK", hundred.back(0), 687);
        sentence("Promise 13, Terms: FORKS (where THE PARTY is counts, the first place never)");
        BlazedPath x = party("c1(1=1)", OPEN);
        orders(x, "4e");
        for (int place = 4; place >= 0; place--) {
            due("FORKS from " + place, x.back(1), place);
            due("BLIND ones from " + place, x.back(2), place);
            due("the first one from " + place, x.back(3), place == 0 ? -2 : place);
            orders(x, "w");
        }
        sentence("Promise 13: the place of the first BLIND FORK that one comes to");
        orders(x, "4ex");
        due("behind a STICK", x.back(3), 3);
        orders(x, "2wb2e");
        due("a MARK on 2", x.back(3), 2);
        orders(x, "3wb3e");
        due("a MARK on 1", x.back(3), 1);
        orders(x, "4wb4e");
        due("none", x.back(3), -2);
        due("BLIND ones", x.back(2), 0);
        due("FORKS", x.back(1), 4);
    }

    private static void safe() {
        sentence("Promise 14: what 0 above, 1 below the line, without a common divisor: d 0 to 10");
        long[] above = {1, 9, 4, 7, 3, 1, 2, 3, 1, 1, 0};
        long[] below = {1, 10, 5, 10, 5, 2, 5, 10, 5, 10, 1};
        for (int d = 0; d <= 10; d++) {
            BlazedPath x = party("d" + d + "(1=1)", OPEN);
            orders(x, "e");
            due("above by " + d, x.safe(0), above[d]);
            due("below by " + d, x.safe(1), below[d]);
        }
        sentence("Promise 14: no BLIND FORK: 1 of 1");
        due("above", new BlazedPath().safe(0), 1);
        due("below", new BlazedPath().safe(1), 1);
        sentence("Promise 14: -3: more than 18 BLIND FORKS");
        BlazedPath x = party("d1(1=1)", OPEN);
        orders(x, "9e2en6w");
        due("17", x.back(2), 17);
        due("above", x.safe(0), 16677181699666569L);
        due("below", x.safe(1), 100000000000000000L);
        orders(x, "w");
        due("18", x.back(2), 18);
        due("above", x.safe(0), 150094635296999121L);
        due("below", x.safe(1), 1000000000000000000L);
        orders(x, "w");
        due("19", x.back(2), 19);
        due("above", x.safe(0), -3);
        due("below", x.safe(1), -3);
        due("no such what", x.safe(2), -1);
        due("no such what", x.safe(-1), -1);
        law(x, "d0(1=1)");
        due("whatever d is", x.safe(0), -3);
        law(x, "d10(1=1)");
        due("whatever d is", x.safe(1), -3);
        sentence("Promise 14: of those from where THE PARTY is, the BLIND ones alone");
        law(x, "d9(1=1)");
        orders(x, "e");
        due("one place back: 18", x.back(2), 18);
        due("above", x.safe(0), 1);
        due("below", x.safe(1), 1000000000000000000L);
        law(x, "d5(1=1)");
        due("above", x.safe(0), 1);
        due("2 to the 18th", x.safe(1), 262144);
        law(x, "d10(1=1)");
        due("above", x.safe(0), 0);
        due("below", x.safe(1), 1);
        law(x, "d1(1=1)");
        orders(x, "w");
        due("19", x.safe(0), -3);
        orders(x, "x");
        due("a STICK: 18", x.safe(0), 150094635296999121L);
        sentence("Promise 14, Terms: tenths less d of each, one times the other: each by its own CELL");
        BlazedPath y = party("dk(1=1)", forestOf("jtjrj8", "jororj7", "j12"));
        orders(y, "3e");
        due("above: 9/10 of a thicket, 8/10 of jungle, 6/10 of a ridge", y.safe(0), 54);
        due("below", y.safe(1), 125);
    }

    /** A seed whose next draw is such a one. */
    private static int seedFor(int draw) {
        for (int seed = 0; seed < 65536; seed++) {
            if ((25173L * seed + 13849) % 65536 % 10 == draw) {
                return seed;
            }
        }
        return -1;
    }

    private static void home() {
        sentence("Promise 15, Terms: HOME: at a BLIND FORK with a DRAW: below d it goes wrong first (30 MINUTES more for that step)");
        for (int d = 0; d <= 10; d++) {
            for (int draw = 0; draw < 10; draw++) {
                BlazedPath x = party("v4(1=1);d" + d + "(1=1)", OPEN);
                orders(x, "e");
                x.seed(seedFor(draw));
                due("a DRAW of " + draw + " by d " + d, x.home(), draw < d ? 34 : 4);
                due("X modulo 10", x.count(8) % 10, draw);
                due("place", x.count(3), 0);
            }
        }
        sentence("Promise 15, Terms: HOME takes v of each CELL that is walked onto, f by face 2");
        int[] steps = {21, 6, 6, 16, 11};
        int done = 0;
        for (int i = 0; i <= steps.length; i++) {
            for (int less = 0; less < 2; less++) {
                BlazedPath each = party("vk*5+6-f*5(1=1)", forestOf("tjotrj7", "b12"));
                orders(each, "2eo2ebe2wb2e");
                int before = each.count(1);
                each.light(before + done - less);
                int fits = i - less;
                boolean isDone = fits >= 0;
                due("HOME, " + i + " steps less " + less, each.home(), isDone ? done - (less == 0 ? 0 : steps[i - 1]) : 0);
                due("place", each.count(3), isDone ? 5 - fits : 5);
            }
            done += i < steps.length ? steps[i] : 0;
        }
        sentence("Promise 15, Terms: no DRAW at what is no BLIND FORK");
        BlazedPath x = party("v4(1=1);d10(1=1)");
        orders(x, "3e");
        due("no FORK", x.home(), 12);
        due("X", x.count(8), 1);
        BlazedPath s = party("v4(1=1);d10(1=1)", OPEN);
        orders(s, "exbexe");
        due("a STICK, a MARK; one is BLIND", s.home(), 3 * 4 + 30);
        due("one DRAW", s.count(8), 39022);
        sentence("Promise 15: HOME at the first place: 0 MINUTES, no DRAW");
        due("again", s.home(), 0);
        due("X", s.count(8), 39022);
        due("of a new object", new BlazedPath().home(), 0);
        homeDark();
    }

    private static void homeDark() {
        sentence("Promise 15, Terms: a step that would take THE MINUTE above LIGHT is not done (its DRAW is), then it is DARK");
        int[] lights = {0, 3, 4, 7, 8, 11, 12, 999};
        int[] minutes = {0, 0, 4, 4, 8, 8, 12, 12};
        for (int i = 0; i < lights.length; i++) {
            BlazedPath x = party("v4(1=1);d0(1=1)", OPEN);
            orders(x, "3e");
            x.light(lights[i]);
            due("home by LIGHT " + lights[i], x.home(), minutes[i]);
            due("place", x.count(3), 3 - minutes[i] / 4);
            due("THE MINUTE", x.count(1), minutes[i]);
            int draws = Math.min(3, minutes[i] / 4 + 1);
            long drawn = 1;
            for (int k = 0; k < draws; k++) {
                drawn = (25173 * drawn + 13849) % 65536;
            }
            due("X behind " + draws + " DRAWS", x.count(8), drawn);
            due("CELLS stay", x.count(2), 4);
        }
        for (int light = 33; light <= 34; light++) {
            BlazedPath x = party("v4(1=1);d10(1=1)", OPEN);
            orders(x, "e");
            x.light(light);
            due("4 and 30 by LIGHT " + light, x.home(), light == 34 ? 34 : 0);
            due("place", x.count(3), light == 34 ? 0 : 1);
            due("its DRAW is done", x.count(8), 39022);
        }
        sentence("Promise 15, Terms: a DARK step without a FORK has no DRAW; HOME goes on later");
        BlazedPath y = party("v4(1=1);d10(1=1)");
        orders(y, "2e");
        y.light(5);
        due("one step", y.home(), 4);
        due("none", y.home(), 0);
        due("X", y.count(8), 1);
        y.light(8);
        due("the other", y.home(), 4);
        due("there", y.count(3), 0);
        sentence("Promise 15: MINUTES that went by, from THE MINUTE as it is");
        BlazedPath z = party("c5(1=1);v60(1=1)");
        orders(z, "9e");
        z.light(999);
        due("9 steps of 60", z.home(), 540);
        due("THE MINUTE", z.count(1), 585);
        due("nobody is more TIRED, THE DAY stays", z.count(0) + z.personIs(0, 1), 0);
    }

    private static void path() {
        sentence("Promise 16: Of a place of THE PATH, what 0 to 6; NONE for others");
        BlazedPath x = party("c1(1=1);g7(1=1)", OPEN);
        orders(x, "eb");
        x.days(1);
        x.width(4);
        orders(x, "nox");
        int[][] wants = {{0, 7, 1, 0, 0, 0, 0}, {1, 7, 1, 2, 0, 1, 1}, {13, 0, 4, 1, 1, 1, 0}};
        for (int place = -1; place <= 3; place++) {
            for (int what = -1; what <= 7; what++) {
                boolean fits = place >= 0 && place < 3 && what >= 0 && what < 7;
                due("path(" + place + ", " + what + ")", x.path(place, what), fits ? wants[place][what] : -1);
            }
        }
        for (int far : new int[] {LEAST, 99, 100, 101, MOST}) {
            due("path(" + far + ", 0)", x.path(far, 0), -1);
            due("path(0, " + far + ")", x.path(0, far), -1);
            due("path(" + far + ", " + far + ")", x.path(far, far), -1);
        }
        sentence("Promise 16: place 99 of a hundred");
        BlazedPath hundred = party("c1(1=1)");
        cutHundred(hundred);
        due("place 99", hundred.path(99, 0), 99);
        due("place 98", hundred.path(98, 0), 98);
        due("place 100", hundred.path(100, 0), -1);
        due("the end beside a row of THE PATH", hundred.path(99, 5), 1);
    }

    public static void main(String[] args) {
        days();
        forks();
        blind();
        back();
        safe();
        home();
        path();
        finish();
    }
}
