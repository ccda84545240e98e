/** The boundaries of promises 1 to 3: a new object, the tape, the forest. */
public final class ForestBoundsTest extends Probe {
    private static void newObject() {
        sentence("Promise 1: All jungle");
        BlazedPath x = new BlazedPath();
        for (int cell = 0; cell < 144; cell++) {
            due("count(100 + " + cell + ")", x.count(100 + cell), 2);
        }
        sentence("Promise 1: a PATH of CELL 0");
        BlazedPath y = new BlazedPath();
        int[] first = {0, 0, 1, 0, 0, 0, 0};
        for (int what = 0; what < 7; what++) {
            due("path(0, " + what + ")", y.path(0, what), first[what]);
            due("path(1, " + what + ")", y.path(1, what), -1);
        }
        due("CELLS of THE PATH", y.count(2), 1);
        due("place of THE PARTY", y.count(3), 0);
        due("keep", new BlazedPath().keep(), 1);
        sentence("Promise 1: no PEOPLE");
        due("told", y.count(4), 0);
        due("ahead", y.count(5), -2);
        for (int p = 0; p < 6; p++) {
            due("ARM of " + p, y.personIs(p, 0), -1);
            due("TIRED of " + p, y.personIs(p, 1), -1);
            due("ahead(" + p + ")", y.ahead(p), false);
        }
        sentence("Promise 1: no LAW (none at first): all of its numbers are 0");
        BlazedPath z = new BlazedPath();
        z.person(0, 9);
        due("CLAUSES", z.count(6), 0);
        due("cutting takes 0", orders(z, "3e"), 0);
        due("but cuts", z.count(2), 4);
        due("walking takes 0", orders(z, "w"), 0);
        due("nobody tires", z.personIs(0, 1), 0);
        due("nothing grows", z.days(60), 0);
        due("soonest", z.soonest(0, 143, 0), 0);
        due("planned", z.planned(2, 99, 30, 0), 0);
        due("byTurns", z.byTurns(6, 1, 10), 540);
        due("a blaze is so for 60 days", blazes(z, 20, 2, 1, 0, 0), 60);
        sentence("Promise 1: THE SEED 1");
        due("X", new BlazedPath().count(8), 1);
        BlazedPath d = party("d10(1=1)", OPEN);
        orders(d, "e");
        d.home();
        due("the first DRAW's X", d.count(8), 25173 + 13849);
        sentence("Promise 1, Terms: WIDTH 1, LIGHT 600, THE MINUTE 0, THE DAY 0 at first; the tape has none; nothing is KEPT");
        BlazedPath n = new BlazedPath();
        due("WIDTH", n.count(9), 1);
        due("LIGHT", n.count(10), 600);
        due("THE MINUTE", n.count(1), 0);
        due("THE DAY", n.count(0), 0);
        due("bytes", n.count(7), 0);
        due("undo", n.undo(), false);
        due("check(0)", n.check(0), -1);
        sentence("Promises 1 to 31, the constants: NONE = -1: There is none");
        due("NONE", BlazedPath.NONE, -1);
    }

    private static void tape() {
        sentence("Promise 2: Twenty bytes come behind the tape: how many it has; 260 at most");
        BlazedPath x = new BlazedPath();
        for (int n = 20; n <= 260; n += 20) {
            due("feed to " + n, x.feed(LEAST, MOST, -1, 0, 1), n);
            due("bytes", x.count(7), n);
        }
        sentence("Promise 2: NONE if that would be more than 260");
        due("feed to 280", x.feed(0, 0, 0, 0, 0), -1);
        due("bytes", x.count(7), 260);
        due("once more", x.feed(LEAST, LEAST, LEAST, LEAST, LEAST), -1);
        due("bytes", x.count(7), 260);
        sentence("Promise 2: an empty tape takes them anew");
        due("emptied", x.check(0), -1);
        due("feed", x.feed(0, 0, 0, 0, 0), 20);
        sentence("Promise 2: the highest byte of each int first, behind what is there");
        for (int place = 0; place < 20; place++) {
            int[] words = new int[5];
            words[place / 4] = 1 << 24 - 8 * (place % 4);
            BlazedPath y = new BlazedPath();
            y.feed(words[0], words[1], words[2], words[3], words[4]);
            due("byte " + place, y.check(20), place);
            y.feed(0, 0, 0, 0, 0);
            y.feed(0, 0, 0, 0, 0);
            y.feed(words[0], words[1], words[2], words[3], words[4]);
            due("byte 40 + " + place, y.check(60), 40 + place);
        }
        sentence("Promise 2: a byte is 0 to 255, whatever the int's sign");
        int[] words = {LEAST, 0x00800000, 0x00008000, 0x00000080, -1, MOST};
        int[] places = {0, 1, 2, 3, 0, 0};
        for (int i = 0; i < words.length; i++) {
            BlazedPath y = new BlazedPath();
            y.feed(words[i], 0, 0, 0, 0);
            due("feed(" + words[i] + ", ..)", y.check(4), places[i]);
        }
        BlazedPath weight = new BlazedPath();
        weight.feed(0x8F090000, 0, 0, 0, 0);
        due("byte 143 is a CELL", weight.seek(1, 10), 22 * 9);
        weight.feed(0x8F010000, 0, 0, 0, 0);
        due("byte 143 is a CELL", weight.seek(1, 10), 22);
        weight.feed(0x90090000, 0, 0, 0, 0);
        due("byte 144 is none", weight.seek(1, 10), -2);
        weight.feed(0xFF090000, 0, 0, 0, 0);
        due("byte 255 is none", weight.seek(1, 10), -2);
    }

    /** A whole forest of so many bytes: numbers 01 and 1 make it longer. */
    private static String forestOfBytes(int n) {
        StringBuilder b = new StringBuilder();
        int spare = n - 11 - 144;
        for (int cell = 0; cell < 144; cell++) {
            b.append(cell > 0 && cell % 12 == 0 ? "/" : "").append('o');
            if (spare >= 2) {
                b.append("01");
                spare -= 2;
            } else if (spare == 1) {
                b.append("1");
                spare = 0;
            }
        }
        return b.toString();
    }

    private static void forestLengths() {
        sentence("Promise 3: the first n bytes (1 to 200)");
        for (int n : new int[] {155, 156, 199, 200}) {
            BlazedPath x = new BlazedPath();
            due("text of " + n, forestOfBytes(n).length(), n);
            due("forest(" + n + ")", forest(x, forestOfBytes(n)), 144);
            due("empty then", x.count(7), 0);
        }
        BlazedPath x = new BlazedPath();
        tell(x, forestOfBytes(201));
        due("forest(201)", x.forest(201), -1);
        due("the tape stays", x.count(7), 220);
        due("forest(199) of it: the last ROW lacks its last CELL", x.forest(199), -1199);
        due("empty then", x.count(7), 0);
        BlazedPath y = new BlazedPath();
        tell(y, "o");
        due("forest(1)", y.forest(1), -1001);
        due("empty then", y.count(7), 0);
        sentence("Promise 3: the first n bytes alone; the tape is empty then, whatever stood behind");
        BlazedPath z = new BlazedPath();
        tell(z, OPEN + "j99 !");
        due("bytes", z.count(7), 40);
        due("forest(25)", z.forest(25), 144);
        due("empty then", z.count(7), 0);
        due("nothing is left", z.forest(1), -1);
        tell(z, OPEN);
        due("forest(24): the end too soon", z.forest(24), -1024);
        due("empty then", z.count(7), 0);
        sentence("Promise 3: it has not so many");
        tell(z, JUNGLE);
        due("forest(41) of 40", z.forest(41), -1);
        due("forest(40) of 40: a blank", z.forest(40), -1025);
        sentence("Promise 3: how many CELLS are not jungle: 0 to 144");
        due("all jungle", forest(z, JUNGLE), 0);
        due("all open", forest(z, OPEN), 144);
        due("one", forest(z, forestOf("j12", "j11p", "j12")), 1);
        due("all but one", forest(z, forestOf("b12", "b11j", "s12")), 143);
    }

    private static void forestRows() {
        sentence("Promise 3, Terms: a letter of each KIND (o t j b r s p: 0 to 6), CELL 12 y and x");
        BlazedPath x = new BlazedPath();
        due("kinds", forest(x, rows("otjbrspotjbr", "=", "j11o", "o11j", "=", "=", "=", "=", "=", "=", "=", "p12")), 144 - 4 - 11 - 8);
        for (int cell = 0; cell < 24; cell++) {
            due("KIND of " + cell, x.count(100 + cell), cell % 12 % 7);
        }
        due("x 10, y 2", x.count(134), 2);
        due("x 11, y 2", x.count(135), 0);
        due("x 0, y 3", x.count(136), 0);
        due("x 11, y 10", x.count(231), 2);
        due("x 0, y 11", x.count(232), 6);
        due("x 11, y 11", x.count(243), 6);
        sentence("Promise 3, Terms: FAULT 1: what can't stand there: all bytes but the letters at a ROW's beginning");
        for (int sign = 0; sign < 256; sign++) {
            boolean isLetter = "otjbrsp".indexOf(sign) >= 0;
            due("byte " + sign + " first", forest(new BlazedPath(), bytes(sign)), isLetter ? -1001 : -1000);
            boolean fits = isLetter || sign == '=';
            due("byte " + sign + " in row 1", forest(new BlazedPath(), "o12/" + bytes(sign)), fits ? -1005 : -1004);
            boolean goesOn = isLetter || sign >= '0' && sign <= '9';
            int want = sign == '0' ? -3001 : goesOn ? -1002 : -1001;
            due("byte " + sign + " behind a letter", forest(new BlazedPath(), "j" + bytes(sign)), want);
        }
        sentence("Promise 3, Terms: = (as the ROW ahead of it; not the first one)");
        due("= first", forest(new BlazedPath(), "=" + "/=".repeat(11)), -1000);
        due("= second", forest(new BlazedPath(), OPEN), 144);
        due("= last", forest(new BlazedPath(), "o12" + "/j12".repeat(10) + "/="), 12);
        due("= inside of a ROW", forest(new BlazedPath(), "j6="), -1002);
        due("= behind a ROW", forest(new BlazedPath(), "j12="), -1003);
        due("= behind =", forest(new BlazedPath(), "j12/=="), -1005);
        due("a letter behind =", forest(new BlazedPath(), "j12/=j"), -1005);
        due("a digit behind =", forest(new BlazedPath(), "j12/=1"), -1005);
        sentence("Promise 3, Terms: 12 ROWS with a / between two");
        due("11 ROWS", forest(new BlazedPath(), "j12" + "/=".repeat(10)), -1023);
        due("11 ROWS and a /", forest(new BlazedPath(), "j12" + "/=".repeat(10) + "/"), -1024);
        due("13 ROWS", forest(new BlazedPath(), JUNGLE + "/="), -1025);
        due("a / behind the last", forest(new BlazedPath(), JUNGLE + "/"), -1025);
        due("a / first", forest(new BlazedPath(), "/" + JUNGLE), -1000);
        due("two /", forest(new BlazedPath(), "j12//="), -1004);
        due("no /", forest(new BlazedPath(), "j12 ="), -1003);
        sentence("Promise 3, Terms: FAULT 1: a ROW's end ahead of its 12th CELL");
        due("a / behind 11", forest(new BlazedPath(), "j11/"), -1003);
        due("the end behind 11", forest(new BlazedPath(), "j11"), -1003);
        due("the end behind 0", forest(new BlazedPath(), "j12/"), -1004);
        due("a / behind 0", forest(new BlazedPath(), "j12//"), -1004);
        due("12 letters, then the end", forest(new BlazedPath(), times("j", 12)), -1012);
        due("11 letters and a /", forest(new BlazedPath(), times("j", 11) + "/"), -1011);
    }

    private static void forestRuns() {
        sentence("Promise 3, Terms: a number of one or two digits (so many; else 1)");
        due("1", forest(new BlazedPath(), forestOf("o1j11", "j12")), 1);
        due("none is 1", forest(new BlazedPath(), forestOf("oj11", "j12")), 1);
        due("01", forest(new BlazedPath(), forestOf("o01j11", "j12")), 1);
        due("09", forest(new BlazedPath(), forestOf("o09j3", "j12")), 9);
        due("9", forest(new BlazedPath(), forestOf("o9j3", "j12")), 9);
        due("10", forest(new BlazedPath(), forestOf("o10j2", "j12")), 10);
        due("12", forest(new BlazedPath(), forestOf("o12", "j12")), 12);
        sentence("Promise 3, Terms: a third digit can't stand there");
        due("j123", forest(new BlazedPath(), "j123"), -1003);
        due("j011", forest(new BlazedPath(), "j011"), -1003);
        due("j100", forest(new BlazedPath(), "j100"), -1003);
        sentence("Promise 3, Terms: FAULT 3: a number 0, at its first digit (asked when its digits end, behind two at the latest)");
        due("0 and the end", forest(new BlazedPath(), "j0"), -3001);
        due("0 and a letter", forest(new BlazedPath(), "j0o"), -3001);
        due("0 and what can't stand there", forest(new BlazedPath(), "j0!"), -3001);
        due("00 and the end", forest(new BlazedPath(), "j00"), -3001);
        due("00 and a digit", forest(new BlazedPath(), "j001"), -3001);
        due("000", forest(new BlazedPath(), "j000"), -3001);
        due("in a later RUN", forest(new BlazedPath(), "j11o0"), -3004);
        due("in a later ROW", forest(new BlazedPath(), "j12/=/o00"), -3007);
        sentence("Promise 3, Terms: FAULT 6: a RUN by which there are more than 12 CELLS in a ROW, at its letter");
        due("13", forest(new BlazedPath(), "j13"), -6000);
        due("99", forest(new BlazedPath(), "j99"), -6000);
        due("12 and 1", forest(new BlazedPath(), "j12o"), -6003);
        due("6 and 7", forest(new BlazedPath(), "j6o7"), -6002);
        due("6 and 6", forest(new BlazedPath(), "j6o6"), -1004);
        due("6 and 60", forest(new BlazedPath(), "j6o60"), -6002);
        due("13 letters", forest(new BlazedPath(), times("p", 13)), -6012);
        due("in the last ROW", forest(new BlazedPath(), "j12" + "/=".repeat(10) + "/j12o"), -6027);
        due("13 and what can't stand there", forest(new BlazedPath(), "j13!"), -6000);
        due("13 and a digit", forest(new BlazedPath(), "j130"), -6000);
        due("12, a letter, and what can't stand there", forest(new BlazedPath(), "j12o!"), -6003);
        sentence("Promise 3, Terms: FAULT 6 behind 3");
        due("a 13th CELL of 0", forest(new BlazedPath(), "j12o0"), -3004);
        due("a 13th CELL of 00", forest(new BlazedPath(), "j12o00"), -3004);
        sentence("Promise 3, Terms: FAULTS, the first from the left");
        due("6 ahead of 1", forest(new BlazedPath(), "j13/!"), -6000);
        due("1 ahead of 6", forest(new BlazedPath(), "j!j13"), -1001);
        due("3 ahead of 6", forest(new BlazedPath(), "j0/j13"), -3001);
    }

    private static void newPath() {
        sentence("Promise 3: THE PATH: its first CELL alone (as before), THE PARTY there");
        BlazedPath x = party("c1(1=1);n3(1=1);g1(1=1);d9(1=1)");
        x.person(4, 2);
        x.days(2);
        x.ahead(4);
        x.seed(99);
        cutHundred(x);
        due("a hundred", x.count(2), 100);
        orders(x, "obx");
        x.width(2);
        due("tired", x.personIs(4, 1), 99);
        due("forest", forest(x, OPEN), 144);
        due("one", x.count(2), 1);
        due("there", x.count(3), 0);
        due("its first CELL", x.path(0, 0), 0);
        due("nothing behind", x.path(1, 0), -1);
        due("nothing GROWN", x.path(0, 1), 0);
        due("WIDTH as it is told then", x.path(0, 2), 2);
        due("no MARK", x.path(0, 3), 0);
        due("no STICK", x.path(0, 4), 0);
        due("no FORK", x.path(0, 5), 0);
        sentence("Promise 3, Terms: THE MINUTE, THE DAY, TIRED stay");
        due("THE MINUTE", x.count(1), 104);
        due("THE DAY", x.count(0), 2);
        due("TIRED", x.personIs(4, 1), 99);
        due("AHEAD", x.count(5), 4);
        due("told", x.count(4), 17);
        due("X", x.count(8), 99);
        due("CLAUSES", x.count(6), 4);
        due("cells that were cut can be cut", orders(x, "e"), 1);
        sentence("Promise 3, Terms: a new PATH: nothing of the one before is on CELLS that are cut anew");
        BlazedPath w = party("c1(1=1);g5(1=1)");
        w.width(3);
        orders(w, "obxeobxeobx");
        w.days(1);
        w.width(2);
        due("forest", forest(w, JUNGLE), 0);
        orders(w, "2e");
        for (int p = 0; p < 3; p++) {
            int[] wants = {p, 0, 2, 0, 0};
            for (int what = 0; what < 5; what++) {
                due("path(" + p + ", " + what + ")", w.path(p, what), wants[what]);
            }
        }
        sentence("Promise 3: whatever that is: bamboo, too");
        BlazedPath y = party("c7(1=1)");
        y.start(143);
        due("bamboo", forest(y, "b12" + "/=".repeat(11)), 144);
        due("CELL", y.path(0, 0), 143);
        due("its KIND", y.count(243), 3);
        due("shut in", orders(y, "nesw"), 0);
        due("THE PATH", y.count(2), 1);
        sentence("Promise 3, Terms: nothing is KEPT any more when THE FOREST is read (not by a FAULT)");
        BlazedPath z = new BlazedPath();
        z.keep();
        due("a fault", forest(z, "j13"), -6000);
        due("undo", z.undo(), true);
        due("n 0", z.forest(0), -1);
        due("undo", z.undo(), true);
        due("read", forest(z, JUNGLE), 0);
        due("undo", z.undo(), false);
        due("keep", z.keep(), 1);
        due("undo", z.undo(), true);
    }

    public static void main(String[] args) {
        newObject();
        tape();
        forestLengths();
        forestRows();
        forestRuns();
        newPath();
        finish();
    }
}
