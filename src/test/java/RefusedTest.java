/** "A call that is refused (NONE, false) changes nothing but the tape, where it is told": promise by promise. */
public final class RefusedTest extends Probe {
    /** Numbers that are never so many bytes of a tape: no such n, or more than it can have. */
    private static int[] noBytes(int most) {
        return new int[] {LEAST, LEAST + 1, -1000, -1, 0, most + 1, most + 2, 260, 261, 1000, MOST - 1, MOST};
    }

    /** Ints outside of a range: next to it, far away, and at both ends of int. */
    private static int[] outside(int least, int most) {
        return new int[] {LEAST, LEAST + 1, least - 2, least - 1, most + 1, most + 2, most + 256, 65536 + least, MOST - 1, MOST};
    }

    private static void feedAndForest() {
        sentence("Promise 2: NONE if that would be more than 260");
        stays(Probe::fullTape, "feed onto 260", x -> x.feed(1, 2, 3, 4, 5), -1);
        sentence("Promise 3: NONE: no such n (the tape stays)");
        for (int n : noBytes(200)) {
            refused("forest(" + n + ")", x -> x.forest(n), -1);
        }
        sentence("Promise 3: NONE: it has not so many (the tape stays)");
        stays(Probe::lived, "forest(61) of 60", x -> x.forest(61), -1);
        stays(Probe::lived, "forest(200) of 60", x -> x.forest(200), -1);
        stays(Probe::fresh, "forest(1) of none", x -> x.forest(1), -1);
        sentence("Promise 3: a FAULT (the one before stays), the tape is empty");
        onlyEmpties(Probe::lived, "forest(60)", x -> x.forest(60), -1000);
        onlyEmpties(Probe::fullTape, "forest(200)", x -> x.forest(200), -1000);
        onlyEmpties(Probe::fullTape, "forest(1)", x -> x.forest(1), -1000);
        onlyEmpties(Probe::fresh, "fault 1", x -> forest(x, "o12/=/x"), -1006);
        onlyEmpties(Probe::fresh, "fault 3", x -> forest(x, "o12/=/j0"), -3007);
        onlyEmpties(Probe::fresh, "fault 6", x -> forest(x, "o12/=/j13"), -6006);
        onlyEmpties(Probe::fresh, "a fault at the very end", x -> forest(x, OPEN + "/"), -1025);
    }

    private static void lawAndOrders() {
        sentence("Promise 4: NONE: no such n (the tape stays)");
        for (int n : noBytes(240)) {
            refused("law(" + n + ")", x -> x.law(n), -1);
        }
        sentence("Promise 4: NONE: it has not so many (the tape stays)");
        stays(Probe::lived, "law(61) of 60", x -> x.law(61), -1);
        stays(Probe::lived, "law(240) of 60", x -> x.law(240), -1);
        stays(Probe::fresh, "law(1) of none", x -> x.law(1), -1);
        sentence("Promise 4: a FAULT: the LAW before stays, the tape is empty");
        onlyEmpties(Probe::lived, "law(60)", x -> x.law(60), -1000);
        onlyEmpties(Probe::fullTape, "law(240)", x -> x.law(240), -1000);
        onlyEmpties(Probe::fresh, "fault 1", x -> law(x, "c5(1=1);c6(1=1"), -1014);
        onlyEmpties(Probe::fresh, "fault 2", x -> law(x, "c5(1=1);c666666(1=1)"), -2014);
        onlyEmpties(Probe::fresh, "fault 4", x -> law(x, times("c5(1=1);", 16) + "c6(1=1)"), -4128);
        onlyEmpties(Probe::fresh, "fault 5", x -> law(x, "c5(1=1);c[[[[[[[6"), -5015);
        sentence("Promise 10: NONE: no such n (the tape stays)");
        for (int n : noBytes(80)) {
            refused("orders(" + n + ")", x -> x.orders(n), -1);
        }
        sentence("Promise 10: NONE: it has not so many (the tape stays)");
        stays(Probe::lived, "orders(61) of 60", x -> x.orders(61), -1);
        stays(Probe::lived, "orders(80) of 60", x -> x.orders(80), -1);
        stays(Probe::fresh, "orders(1) of none", x -> x.orders(1), -1);
        sentence("Promise 10: a FAULT (nothing is done), the tape is empty");
        onlyEmpties(Probe::lived, "orders(60)", x -> x.orders(60), -1000);
        onlyEmpties(Probe::fullTape, "orders(80)", x -> x.orders(80), -1000);
        onlyEmpties(Probe::fullTape, "fault 1 at the end", x -> emptied(x).orders(tell(x, "ox.+e2")), -1006);
        onlyEmpties(Probe::fullTape, "fault 5", x -> emptied(x).orders(tell(x, "ox.+e(((e)))")), -5007);
        onlyEmpties(Probe::fullTape, "fault 6", x -> emptied(x).orders(tell(x, "ox.+e9(9e)9e")), -6010);
    }

    private static BlazedPath twenty() {
        BlazedPath x = party("c1(1=1)");
        x.feed(0, 0, 0, 0, 0);
        return x;
    }

    private static BlazedPath taken() {
        BlazedPath x = twenty();
        x.check(20);
        return x;
    }

    private static BlazedPath emptied(BlazedPath x) {
        x.check(0);
        return x;
    }

    private static void told() {
        sentence("Promise 5: false: no such one");
        for (int cell : outside(0, 143)) {
            refused("start(" + cell + ")", x -> one(x.start(cell)), 0);
        }
        stays(Probe::lived, "start of bamboo", x -> one(x.start(15)), 0);
        stays(Probe::lived, "start of bamboo", x -> one(x.start(23)), 0);
        sentence("Promise 6: false: no such ones");
        for (int p : outside(0, 5)) {
            refused("person(" + p + ", 5)", x -> one(x.person(p, 5)), 0);
        }
        for (int arm : outside(1, 9)) {
            refused("person(1, " + arm + ")", x -> one(x.person(1, arm)), 0);
            refused("person(5, " + arm + ")", x -> one(x.person(5, arm)), 0);
        }
        refused("person(6, 10)", x -> one(x.person(6, 10)), 0);
        sentence("Promise 7: false: no such one");
        for (int p : outside(0, 5)) {
            refused("ahead(" + p + ")", x -> one(x.ahead(p)), 0);
        }
        for (int p : new int[] {0, 5}) {
            refused("ahead(" + p + ") of one not told", x -> one(x.ahead(p)), 0);
        }
        sentence("Promise 8: false: no such one");
        for (int w : outside(1, 4)) {
            refused("width(" + w + ")", x -> one(x.width(w)), 0);
        }
        sentence("Promise 9: false: no such MINUTE");
        for (int minute : outside(0, 999)) {
            refused("light(" + minute + ")", x -> one(x.light(minute)), 0);
        }
        sentence("Promise 12: NONE: no such n");
        for (int n : outside(1, 60)) {
            refused("days(" + n + ")", x -> x.days(n), -1);
        }
        sentence("Promise 27: false: no such number");
        for (int seed : outside(0, 65535)) {
            refused("seed(" + seed + ")", x -> one(x.seed(seed)), 0);
        }
        sentence("Promise 29: false: none is KEPT");
        stays(Probe::fresh, "undo()", x -> one(x.undo()), 0);
        stays(Probe::fullTape, "undo()", x -> one(x.undo()), 0);
    }

    private static void triedAndTurn() {
        sentence("Promise 11: NONE: no such ones, it has not so many (the tape stays)");
        for (int n : noBytes(80)) {
            refused("tried(" + n + ", 0)", x -> x.tried(n, 0), -1);
        }
        for (int what : outside(0, 5)) {
            refused("tried(1, " + what + ")", x -> x.tried(1, what), -1);
        }
        stays(Probe::lived, "tried(61, 0) of 60", x -> x.tried(61, 0), -1);
        stays(Probe::fresh, "tried(1, 0) of none", x -> x.tried(1, 0), -1);
        sentence("Promise 11: a FAULT; TRIED are ORDERS (nothing is changed)");
        for (int what = 0; what < 6; what++) {
            int asked = what;
            onlyEmpties(Probe::lived, "tried(60, " + what + ")", x -> x.tried(60, asked), -1000);
        }
        onlyEmpties(Probe::lived, "tried e", x -> emptied(x).tried(tell(x, "2exob.+"), 2), 7);
        sentence("Promise 17: NONE: no such ones, it has not so many (the tape stays)");
        for (int n : noBytes(80)) {
            refused("turn(" + n + ", 0)", x -> x.turn(n, 0), -1);
        }
        for (int what : outside(0, 1)) {
            refused("turn(1, " + what + ")", x -> x.turn(1, what), -1);
        }
        stays(Probe::lived, "turn(61, 0) of 60", x -> x.turn(61, 0), -1);
        stays(Probe::fresh, "turn(1, 0) of none", x -> x.turn(1, 0), -1);
        sentence("Promise 17: a FAULT, and TURN itself, change nothing");
        onlyEmpties(Probe::lived, "turn(60, 0)", x -> x.turn(60, 0), -1000);
        onlyEmpties(Probe::lived, "turn(60, 1)", x -> x.turn(60, 1), -1000);
        onlyEmpties(Probe::lived, "turn", x -> emptied(x).turn(tell(x, "2exob.+"), 0), 7);
    }

    private static void asked() {
        sentence("Promise 13: NONE: no such what");
        for (int what : outside(0, 3)) {
            refused("back(" + what + ")", x -> x.back(what), -1);
        }
        sentence("Promise 14: -1: no such what");
        for (int what : outside(0, 1)) {
            refused("safe(" + what + ")", x -> x.safe(what), -1);
        }
        sentence("Promise 16: NONE for others");
        for (int what = 0; what < 7; what++) {
            int asked = what;
            for (int place : outside(0, 99)) {
                stays(Probe::lived, "path(" + place + ", " + what + ")", x -> x.path(place, asked), -1);
            }
            stays(Probe::fresh, "path(1, " + what + ") of one", x -> x.path(1, asked), -1);
        }
        for (int what : outside(0, 6)) {
            refused("path(0, " + what + ")", x -> x.path(0, what), -1);
        }
        sentence("Promise 19: NONE: no such what");
        for (int what : outside(0, 1)) {
            refused("camp(" + what + ")", x -> x.camp(what), -1);
        }
        sentence("Promise 26: NONE for others");
        for (int p : outside(0, 5)) {
            refused("personIs(" + p + ", 0)", x -> x.personIs(p, 0), -1);
            refused("personIs(" + p + ", 1)", x -> x.personIs(p, 1), -1);
        }
        for (int what : outside(0, 1)) {
            refused("personIs(1, " + what + ")", x -> x.personIs(1, what), -1);
        }
        refused("personIs(0, 0)", x -> x.personIs(0, 0), -1);
        refused("personIs(5, 1)", x -> x.personIs(5, 1), -1);
        sentence("Promise 31: NONE for others");
        for (int what : new int[] {LEAST, LEAST + 100, -100, -2, -1, 11, 12, 50, 98, 99, 244, 245, 356, MOST - 1, MOST}) {
            refused("count(" + what + ")", x -> x.count(what), -1);
        }
    }

    private static void reckoned() {
        sentence("Promise 18: NONE: no such ones, nobody is AHEAD");
        for (int cell : outside(0, 143)) {
            refused("soonest(" + cell + ", 0, 0)", x -> x.soonest(cell, 0, 0), -1);
            refused("soonest(0, " + cell + ", 0)", x -> x.soonest(0, cell, 0), -1);
            refused("soonest of no cell twice", x -> x.soonest(cell, cell, 0), -1);
        }
        for (int what : outside(0, 2)) {
            refused("soonest(0, 1, " + what + ")", x -> x.soonest(0, 1, what), -1);
            refused("soonest(0, 0, " + what + ")", x -> x.soonest(0, 0, what), -1);
        }
        stays(Probe::fresh, "soonest with nobody ahead", x -> x.soonest(0, 1, 0), -1);
        stays(Probe::fresh, "soonest with nobody ahead, there", x -> x.soonest(1, 1, 2), -1);
        stays(Probe::lived, "from bamboo", x -> x.soonest(15, 0, 0), -1);
        stays(Probe::lived, "to bamboo", x -> x.soonest(0, 15, 1), -1);
        stays(Probe::lived, "bamboo itself", x -> x.soonest(15, 15, 2), -1);
        sentence("Promise 20: NONE: no such ones");
        for (int n : outside(1, 6)) {
            refused("byTurns(" + n + ", 2, 10)", x -> x.byTurns(n, 2, 10), -1);
            refused("byTurns(" + n + ", 2, 0)", x -> x.byTurns(n, 2, 0), -1);
        }
        for (int people : new int[] {LEAST, LEAST + 2, -1, 0, 1, 32, 63, 64, 66, 65536 + 2, MOST}) {
            refused("byTurns(1, " + people + ", 10)", x -> x.byTurns(1, people, 10), -1);
        }
        for (int what : new int[] {LEAST, -1, 3, 6, 9, 11, 256, 266, MOST}) {
            refused("byTurns(3, 2, " + what + ")", x -> x.byTurns(3, 2, what), -1);
            refused("byTurns(3, 22, " + what + ")", x -> x.byTurns(3, 22, what), -1);
        }
        sentence("Promise 21: NONE: no such ones, bamboo, nobody is AHEAD");
        stays(Probe::fresh, "planned with nobody ahead", x -> x.planned(2, 1, 0, 0), -1);
        refused("planned of bamboo", x -> x.planned(3, 1, 0, 0), -1);
        for (int kind : outside(0, 6)) {
            refused("planned(" + kind + ", 1, 0, 0)", x -> x.planned(kind, 1, 0, 0), -1);
        }
        for (int cells : outside(1, 99)) {
            refused("planned(2, " + cells + ", 0, 0)", x -> x.planned(2, cells, 0, 0), -1);
        }
        for (int days : outside(0, 30)) {
            refused("planned(2, 1, " + days + ", 0)", x -> x.planned(2, 1, days, 0), -1);
        }
        for (int what : outside(0, 3)) {
            refused("planned(2, 1, 0, " + what + ")", x -> x.planned(2, 1, 0, what), -1);
        }
    }

    private static void texts() {
        sentence("Promise 22: NONE: no such ones, it has not so many (the tape stays)");
        for (int n : noBytes(40)) {
            refused("paces(" + n + ", 1, 0)", x -> x.paces(n, 1, 0), -1);
        }
        for (int of : outside(1, 99)) {
            refused("paces(1, " + of + ", 0)", x -> x.paces(1, of, 0), -1);
        }
        for (int what : outside(0, 4)) {
            refused("paces(1, 1, " + what + ")", x -> x.paces(1, 1, what), -1);
        }
        stays(Probe::fresh, "paces of none", x -> x.paces(1, 1, 0), -1);
        stays(RefusedTest::twenty, "paces(21) of 20", x -> x.paces(21, 1, 0), -1);
        onlyEmpties(Probe::lived, "a FAULT of paces", x -> x.paces(40, 1, 0), -1000);
        sentence("Promise 23: NONE: no such n, it has not so many (the tape stays)");
        for (int n : new int[] {LEAST, LEAST + 1, -1, 0, 7, 8, 130, 1 << 30, (1 << 30) + 1, 1 << 31, MOST}) {
            refused("seek(" + n + ", 10)", x -> x.seek(n, 10), -1);
            refused("seek(" + n + ", 99)", x -> x.seek(n, 99), -1);
        }
        stays(Probe::fresh, "seek of none", x -> x.seek(1, 10), -1);
        stays(RefusedTest::taken, "seek behind a tape that was emptied", x -> x.seek(6, 10), -1);
        onlyEmpties(Probe::fullTape, "-2: a byte out of bounds", x -> x.seek(1, 10), -2);
        sentence("Promise 24: NONE: no such n, it has not so many (the tape stays)");
        for (int n : new int[] {LEAST, LEAST + 1, -1, 0, 9, 10, 65, 1 << 30, (1 << 30) + 1, 3 << 30, MOST}) {
            refused("blazes(" + n + ", 0)", x -> x.blazes(n, 0), -1);
            refused("blazes(" + n + ", 99)", x -> x.blazes(n, 99), -1);
        }
        stays(Probe::fresh, "blazes of none", x -> x.blazes(1, 0), -1);
        stays(RefusedTest::twenty, "blazes(6) of 20", x -> x.blazes(6, 0), -1);
        onlyEmpties(Probe::fullTape, "-3: a byte out of bounds", x -> x.blazes(1, 0), -3);
        sentence("Promise 25: NONE: no such ones, it has not so many (the tape stays)");
        for (int n : noBytes(20)) {
            refused("sights(" + n + ", 0)", x -> x.sights(n, 0), -1);
        }
        for (int what : outside(0, 2)) {
            refused("sights(1, " + what + ")", x -> x.sights(1, what), -1);
        }
        stays(Probe::fresh, "sights of none", x -> x.sights(1, 0), -1);
        onlyEmpties(Probe::lived, "a FAULT of sights", x -> x.sights(20, 0), -1000);
        sentence("Promise 30: -2: no such n, it has not so many (the tape stays)");
        for (int n : new int[] {LEAST, LEAST + 1, -2, -1, 101, 102, 260, 356, MOST - 1, MOST}) {
            refused("check(" + n + ")", x -> x.check(n), -2);
        }
        stays(Probe::lived, "check(61) of 60", x -> x.check(61), -2);
        stays(Probe::fresh, "check(1) of none", x -> x.check(1), -2);
    }

    /** What only asks leaves all as it was, the tape too where the promise does not read it. */
    private static void onlyAsk() {
        sentence("Promises 13, 14, 16, 18 to 21, 26, 31: what is asked changes nothing");
        stays(Probe::lived, "back(1)", x -> x.back(1), 2);
        stays(Probe::lived, "soonest", x -> x.soonest(0, 0, 0), 0);
        stays(Probe::lived, "camp", x -> x.camp(0), 14);
        stays(Probe::lived, "byTurns", x -> x.byTurns(1, 4, 0), 2);
        stays(Probe::lived, "planned", x -> x.planned(2, 1, 0, 2), 1);
        stays(Probe::lived, "personIs", x -> x.personIs(4, 0), 7);
        stays(Probe::lived, "safe", x -> one(x.safe(1) > 0), 1);
        sentence("Promises 22 to 25, 30: what reads the tape empties it and changes nothing else");
        onlyEmpties(Probe::fresh, "paces", x -> paces(x, "5r", 1, 1), 10);
        onlyEmpties(Probe::lived, "seek", x -> emptied(x).seek(tell(x, bytes(2, 9)) / 2, 0), 0);
        onlyEmpties(Probe::lived, "blazes", x -> emptied(x).blazes(tell(x, bytes(2, 1, 0, 0)) / 4, 10), 0);
        onlyEmpties(Probe::lived, "sights", x -> emptied(x).sights(tell(x, "mmmm"), 0), 0);
        onlyEmpties(Probe::lived, "check", x -> x.check(60), -1);
        onlyEmpties(Probe::lived, "check of none", x -> x.check(0), -1);
    }

    private static void ownMemory() {
        sentence("Promise 1: All memory is the forest's own: what is done to another object changes nothing");
        BlazedPath x = lived();
        BlazedPath other = lived();
        other.home();
        other.keep();
        other.days(60);
        other.check(0);
        orders(other, "9e2n.+obx");
        forest(other, OPEN);
        law(other, "c1(1=1);v2(1=1)");
        for (int p = 0; p < 6; p++) {
            other.person(p, 1 + p);
        }
        other.start(77);
        other.width(4);
        other.light(9);
        other.seed(1);
        orders(other, "9eobx");
        other.keep();
        other.feed(-1, -1, -1, -1, -1);
        due("all stays", one(state(x).equals(state(lived()))), 1);
        due("a new one is new", one(state(new BlazedPath()).equals(state(new BlazedPath()))), 1);
        due("no PEOPLE", new BlazedPath().count(4), 0);
        sentence("Promises 1 to 31: An object is used for at most 512 calls: the last of them answers, too");
        BlazedPath long512 = party("c3(1=1)");
        // so far a person, a feed and a law
        for (int call = 4; call <= 510; call++) {
            due("call " + call, long512.light(call), true);
        }
        tell(long512, "2e");
        due("call 512", long512.orders(2), 6);
    }

    public static void main(String[] args) {
        feedAndForest();
        lawAndOrders();
        told();
        triedAndTurn();
        asked();
        reckoned();
        texts();
        onlyAsk();
        ownMemory();
        finish();
    }
}
