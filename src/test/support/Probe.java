import java.util.ArrayList;
import java.util.List;
import java.util.function.Supplier;

/** What the tests of boundaries share: texts onto the tape, answers that are due, states that must stay. */
class Probe {
    static final int LEAST = Integer.MIN_VALUE;
    static final int MOST = Integer.MAX_VALUE;
    static final String JUNGLE = "j12" + "/=".repeat(11);
    static final String OPEN = "o12" + "/=".repeat(11);

    private static int wrong = 0;
    private static int asked = 0;
    private static int sentences = 0;
    private static String sentence = "";

    /** A call, or several, on an object: the answer of the last one. */
    interface Call {
        long on(BlazedPath x);
    }

    /** The sentence of the document that the next answers are asked for. */
    static void sentence(String told) {
        sentence = told;
        sentences++;
    }

    static void due(String call, long got, long want) {
        asked++;
        if (got != want) {
            wrong++;
            System.out.println(sentence + "\n    " + call + " answered " + got + ", due is " + want);
        }
    }

    static void due(String call, boolean got, boolean want) {
        due(call, got ? 1 : 0, want ? 1 : 0);
    }

    static void finish() {
        System.out.println(wrong == 0 ? sentences + " sentences hold, " + asked + " answers are as due"
            : wrong + " of " + asked + " answers are not as due");
        if (wrong != 0) {
            System.exit(1);
        }
    }

    static int one(boolean holds) {
        return holds ? 1 : 0;
    }

    /** Feeds a text, filled up with blanks to a multiple of twenty. */
    static int tell(BlazedPath x, String text) {
        for (int i = 0; i < text.length(); i += 20) {
            int[] words = new int[5];
            for (int j = 0; j < 20; j++) {
                int sign = i + j < text.length() ? text.charAt(i + j) & 255 : ' ';
                words[j / 4] = words[j / 4] << 8 | sign;
            }
            x.feed(words[0], words[1], words[2], words[3], words[4]);
        }
        return text.length();
    }

    static String bytes(int... all) {
        StringBuilder b = new StringBuilder();
        for (int one : all) {
            b.append((char) one);
        }
        return b.toString();
    }

    static String times(String text, int n) {
        return text.repeat(n);
    }

    static String rows(String... rows) {
        return String.join("/", rows);
    }

    /** A forest of such first rows, the last of them as often as is wanting. */
    static String forestOf(String... rows) {
        return rows(rows) + "/=".repeat(12 - rows.length);
    }

    static int forest(BlazedPath x, String text) {
        return x.forest(tell(x, text));
    }

    static int law(BlazedPath x, String text) {
        return x.law(tell(x, text));
    }

    static int orders(BlazedPath x, String text) {
        return x.orders(tell(x, text));
    }

    static int tried(BlazedPath x, String text, int what) {
        return x.tried(tell(x, text), what);
    }

    static int turn(BlazedPath x, String text, int what) {
        return x.turn(tell(x, text), what);
    }

    static int paces(BlazedPath x, String text, int of, int what) {
        return x.paces(tell(x, text), of, what);
    }

    static int sights(BlazedPath x, String text, int what) {
        return x.sights(tell(x, text), what);
    }

    static int seek(BlazedPath x, int what, int... all) {
        tell(x, bytes(all));
        return x.seek(all.length / 2, what);
    }

    static int blazes(BlazedPath x, int what, int... all) {
        tell(x, bytes(all));
        return x.blazes(all.length / 4, what);
    }

    static int check(BlazedPath x, int... all) {
        tell(x, bytes(all));
        return x.check(all.length);
    }

    /** Person 0 with an arm of 5 is ahead, under a law. */
    static BlazedPath party(String law) {
        BlazedPath x = new BlazedPath();
        x.person(0, 5);
        due("the law " + law, one(law(x, law) > 0), 1);
        return x;
    }

    /** A party in a forest of such rows, at its cell 0. */
    static BlazedPath party(String law, String forest) {
        BlazedPath x = party(law);
        due("the forest " + forest, one(forest(x, forest) >= 0), 1);
        return x;
    }

    /** A path as long as can be: place p is cell p of rows that go to and fro. */
    static void cutHundred(BlazedPath x) {
        for (int i = 0; i < 4; i++) {
            orders(x, "9e2en9w2wn");
        }
        orders(x, "3e");
    }

    static BlazedPath fresh() {
        return new BlazedPath();
    }

    /** An object of which everything differs from a new one; something else is kept; a tape of sixty bytes. */
    static BlazedPath lived() {
        BlazedPath x = new BlazedPath();
        x.person(1, 4);
        x.person(4, 7);
        x.person(2, 9);
        forest(x, forestOf("j3o9", "j2sbobob5", "tj2p9"));
        law(x, "ck+w+a+t/5(1=1);v9-f*3+q/4(1=1);g3+k/2(1=1);n4+y(1=1);e3(1=1);d2+k(1=1)");
        x.start(2);
        x.light(400);
        x.seed(4711);
        orders(x, "2eo.");
        x.keep();
        x.width(3);
        orders(x, "ebex+ew");
        x.days(2);
        orders(x, "eo+e.2w");
        StringBuilder grown = new StringBuilder();
        for (int p = 0; p < x.count(2); p++) {
            grown.append((char) x.path(p, 1));
        }
        tell(x, grown + times(bytes(0), 60 - grown.length()));
        return x;
    }

    /** The tape is as full as can be: noughts, which check calls right. */
    static BlazedPath fullTape() {
        BlazedPath x = new BlazedPath();
        x.person(3, 3);
        for (int i = 0; i < 13; i++) {
            x.feed(0, 0, 0, 0, 0);
        }
        return x;
    }

    /** All that can be seen of an object; it is used up by that. */
    static List<Long> state(BlazedPath x) {
        List<Long> all = new ArrayList<>();
        seeTold(x, all);
        for (int cell = 0; cell < 144; cell++) {
            all.add((long) x.count(100 + cell));
        }
        all.add((long) x.check(Math.min(100, x.count(7))));
        all.add((long) x.count(7));
        for (int what = 0; what < 6; what++) {
            all.add((long) tried(x, "9w2(eow)+.2+e", what));
        }
        seePath(x, all);
        all.add((long) one(x.undo()));
        seeTold(x, all);
        seePath(x, all);
        all.add((long) x.days(1));
        all.add((long) x.home());
        all.add((long) x.count(8));
        return all;
    }

    private static void seeTold(BlazedPath x, List<Long> all) {
        for (int what = 0; what <= 10; what++) {
            all.add((long) x.count(what));
        }
        for (int p = 0; p < 6; p++) {
            all.add((long) x.personIs(p, 0));
            all.add((long) x.personIs(p, 1));
        }
    }

    private static void seePath(BlazedPath x, List<Long> all) {
        for (int p = 0; p < 12 && p < x.count(2); p++) {
            for (int what = 0; what < 7; what++) {
                all.add((long) x.path(p, what));
            }
        }
        all.add((long) x.back(0));
        all.add(x.safe(0));
    }

    /** The call answers so, and all else is as it was. */
    static void stays(Supplier<BlazedPath> made, String told, Call call, long want) {
        BlazedPath x = made.get();
        due(told, call.on(x), want);
        due(told + ": all stays", one(state(x).equals(state(made.get()))), 1);
    }

    /** The call answers so, the tape is empty, and all else is as it was. */
    static void onlyEmpties(Supplier<BlazedPath> made, String told, Call call, long want) {
        BlazedPath x = made.get();
        due(told, call.on(x), want);
        due(told + ": the tape is empty", x.count(7), 0);
        BlazedPath twin = made.get();
        twin.check(0);
        due(told + ": all else stays", one(state(x).equals(state(twin))), 1);
    }

    /** A refused call, on objects of several kinds. */
    static void refused(String told, Call call, long want) {
        stays(Probe::fresh, told + " on a new object", call, want);
        stays(Probe::lived, told + " on one that has lived", call, want);
        stays(Probe::fullTape, told + " with a full tape", call, want);
    }
}
