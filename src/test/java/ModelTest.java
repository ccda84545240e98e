import java.util.ArrayList;
import java.util.Arrays;
import java.util.List;
import java.util.Random;
import java.util.TreeSet;

/**
 * Drawn runs of calls on BlazedPath and on a second, plain telling of the document: it reads the law's text
 * anew at each question, tries all rows, walks all ways, and shares no code with the class.
 */
public final class ModelTest {
    private static int wrong = 0;

    static final class Fault extends RuntimeException {
        final int answer;

        Fault(int number, int place) {
            super(null, null, false, false);
            answer = -1000 * number - place;
        }
    }

    static final class Refused extends RuntimeException {
        Refused() {
            super(null, null, false, false);
        }
    }

    /** One place of the path. */
    static final class Spot {
        int cell;
        int width;
        int grown;
        boolean outMark;
        boolean backMark;
        boolean stick;

        Spot copy() {
            Spot s = new Spot();
            s.cell = cell;
            s.width = width;
            s.grown = grown;
            s.outMark = outMark;
            s.backMark = backMark;
            s.stick = stick;
            return s;
        }
    }

    static final class State {
        int[] tired = new int[6];
        int ahead = -2;
        List<Spot> path = new ArrayList<>();
        int at;
        int minute;
        int day;
        int x = 1;

        State copy() {
            State s = new State();
            s.tired = tired.clone();
            s.ahead = ahead;
            for (Spot p : path) {
                s.path.add(p.copy());
            }
            s.at = at;
            s.minute = minute;
            s.day = day;
            s.x = x;
            return s;
        }

        boolean has(int cell) {
            for (Spot p : path) {
                if (p.cell == cell) {
                    return true;
                }
            }
            return false;
        }
    }

    /** Reads a law's text; with live it reckons, without it only goes along. */
    static final class LawText {
        final String text;
        int at;
        int[] told = new int[128];

        LawText(String text) {
            this.text = text;
        }

        char here() {
            return at < text.length() ? text.charAt(at) : (char) 0xFFFF;
        }

        void must(char c) {
            if (here() != c) {
                throw new Fault(1, at);
            }
            at++;
        }

        int factor(int open, boolean live) {
            char c = here();
            if (c == '[') {
                if (open == 6) {
                    throw new Fault(5, at);
                }
                at++;
                int e = expression(open + 1, live);
                must(']');
                return e;
            }
            if (c >= '0' && c <= '9') {
                int start = at;
                while (here() >= '0' && here() <= '9') {
                    if (at - start == 5) {
                        throw new Fault(2, at);
                    }
                    at++;
                }
                return Integer.parseInt(text.substring(start, at));
            }
            if (c < 128 && "kwatqfy".indexOf(c) >= 0) {
                at++;
                return told[c];
            }
            throw new Fault(1, at);
        }

        int term(int open, boolean live) {
            int value = factor(open, live);
            while (here() == '*' || here() == '/' || here() == '%') {
                char op = here();
                at++;
                int other = factor(open, live);
                if (op == '*') {
                    value *= other;
                } else if (other == 0) {
                    if (live) {
                        throw new Refused();
                    }
                    value = 0;
                } else {
                    value = op == '/' ? value / other : value % other;
                }
            }
            return value;
        }

        int expression(int open, boolean live) {
            int value = term(open, live);
            while (here() == '+' || here() == '-') {
                char op = here();
                at++;
                int other = term(open, live);
                value = op == '+' ? value + other : value - other;
            }
            return value;
        }

        boolean test(int open, boolean live) {
            char c = here();
            if (c == '!' || c == '(') {
                if (open == 6) {
                    throw new Fault(5, at);
                }
                at++;
                if (c == '!') {
                    return !test(open + 1, live);
                }
                boolean inner = condition(open + 1, live);
                must(')');
                return inner;
            }
            int left = expression(open, live);
            char op = here();
            if (op != '<' && op != '>' && op != '=') {
                throw new Fault(1, at);
            }
            at++;
            int right = expression(open, live);
            return op == '<' ? left < right : op == '>' ? left > right : left == right;
        }

        boolean part(int open, boolean live) {
            boolean value = test(open, live);
            while (here() == '&') {
                at++;
                boolean other = test(open, live && value);
                value = value && other;
            }
            return value;
        }

        boolean condition(int open, boolean live) {
            boolean value = part(open, live);
            while (here() == '|') {
                at++;
                boolean other = part(open, live && !value);
                value = value || other;
            }
            return value;
        }

        /** How many clauses, or a fault. */
        int check() {
            int clauses = 0;
            at = 0;
            while (true) {
                if (here() > 127 || "cvgned".indexOf(here()) < 0) {
                    throw new Fault(1, at);
                }
                if (clauses == 16) {
                    throw new Fault(4, at);
                }
                at++;
                expression(0, false);
                must('(');
                condition(1, false);
                must(')');
                clauses++;
                if (at == text.length()) {
                    return clauses;
                }
                must(';');
            }
        }

        int answer(char letter, int most) {
            at = 0;
            while (at < text.length()) {
                char c = here();
                at++;
                int eAt = at;
                expression(0, false);
                at++;
                int cAt = at;
                boolean holds;
                condition(1, false);
                int end = at;
                if (c == letter) {
                    try {
                        at = cAt;
                        holds = condition(1, true);
                    } catch (Refused r) {
                        holds = false;
                    }
                    if (holds) {
                        int value;
                        try {
                            at = eAt;
                            value = expression(0, true);
                        } catch (Refused r) {
                            value = 0;
                        }
                        return value < 0 ? 0 : Math.min(value, most);
                    }
                }
                at = end + 2;
            }
            return 0;
        }
    }

    static final class Model {
        List<Integer> tape = new ArrayList<>();
        int[] kinds = new int[144];
        int[] arms = new int[6];
        int width = 1;
        int light = 600;
        String law = "";
        int clauses = 0;
        State now = new State();
        State kept = null;

        Model() {
            Arrays.fill(kinds, 2);
            begin(0);
        }

        void begin(int cell) {
            now.path.clear();
            Spot s = new Spot();
            s.cell = cell;
            s.width = width;
            now.path.add(s);
            now.at = 0;
        }

        int ask(char letter, int k, int w, int a, int t, int q, int f, int y) {
            LawText text = new LawText(law);
            text.told['k'] = k;
            text.told['w'] = w;
            text.told['a'] = a;
            text.told['t'] = t;
            text.told['q'] = q;
            text.told['f'] = f;
            text.told['y'] = y;
            int most = letter == 'c' ? 240 : letter == 'v' ? 60 : letter == 'd' ? 10 : 20;
            return text.answer(letter, most);
        }

        int c(State s, int kind, int wide) {
            return ask('c', kind, wide, arms[s.ahead], s.tired[s.ahead], 0, 0, s.day);
        }

        int v(State s, Spot p, boolean outward) {
            boolean seen = outward ? p.outMark : p.backMark;
            return ask('v', kinds[p.cell], p.width, 0, 0, p.grown, seen ? 1 : 0, s.day);
        }

        int g(int kind, int wide, int grown, int day) {
            return ask('g', kind, wide, 0, 0, grown, 0, day);
        }

        int n(int kind, int arm, int tired, int day) {
            return ask('n', kind, 0, arm, tired, 0, 0, day);
        }

        int e(int arm, int tired, int day) {
            return ask('e', 0, 0, arm, tired, 0, 0, day);
        }

        int d(State s, int place) {
            Spot p = s.path.get(place);
            return ask('d', kinds[p.cell], p.width, 0, 0, p.grown, 0, s.day);
        }

        String take(int n) {
            StringBuilder b = new StringBuilder();
            for (int i = 0; i < n; i++) {
                b.append((char) (int) tape.get(i));
            }
            tape.clear();
            return b.toString();
        }

        boolean lacks(int n, int least, int most) {
            return n < least || n > most || n > tape.size();
        }

        int feed(int a, int b, int c, int d, int e) {
            if (tape.size() > 240) {
                return -1;
            }
            for (int w : new int[] {a, b, c, d, e}) {
                tape.add(w >>> 24);
                tape.add(w >>> 16 & 255);
                tape.add(w >>> 8 & 255);
                tape.add(w & 255);
            }
            return tape.size();
        }

        int forest(int n) {
            if (lacks(n, 1, 200)) {
                return -1;
            }
            String t = take(n);
            int[] fresh = new int[144];
            try {
                readForest(t, fresh);
            } catch (Fault f) {
                return f.answer;
            }
            kinds = fresh;
            begin(now.path.get(0).cell);
            kept = null;
            int count = 0;
            for (int k : kinds) {
                count += k == 2 ? 0 : 1;
            }
            return count;
        }

        void readForest(String t, int[] fresh) {
            int i = 0;
            int row = 0;
            int x = 0;
            boolean same = false;
            while (i <= t.length()) {
                char ch = i < t.length() ? t.charAt(i) : 0xFFFF;
                int kind = ch > 127 ? -1 : "otjbrsp".indexOf(ch);
                if (kind >= 0 && !same) {
                    int j = i + 1;
                    while (j < t.length() && j < i + 3 && Character.isDigit(t.charAt(j))) {
                        j++;
                    }
                    int number = j == i + 1 ? 1 : Integer.parseInt(t.substring(i + 1, j));
                    if (number == 0) {
                        throw new Fault(3, i + 1);
                    }
                    if (x + number > 12) {
                        throw new Fault(6, i);
                    }
                    for (int m = 0; m < number; m++) {
                        fresh[12 * row + x] = kind;
                        x++;
                    }
                    i = j;
                } else if (ch == '=' && x == 0 && row > 0) {
                    for (int m = 0; m < 12; m++) {
                        fresh[12 * row + m] = fresh[12 * row - 12 + m];
                    }
                    same = true;
                    x = 12;
                    i++;
                } else if (ch == '/' && x == 12 && row < 11) {
                    row++;
                    x = 0;
                    same = false;
                    i++;
                } else if (i == t.length() && x == 12 && row == 11) {
                    return;
                } else {
                    throw new Fault(1, i);
                }
            }
        }

        int law(int n) {
            if (lacks(n, 1, 240)) {
                return -1;
            }
            String t = take(n);
            try {
                int found = new LawText(t).check();
                law = t;
                clauses = found;
                return found;
            } catch (Fault f) {
                return f.answer;
            }
        }

        boolean start(int cell) {
            if (cell < 0 || cell > 143 || kinds[cell] == 3) {
                return false;
            }
            begin(cell);
            return true;
        }

        boolean person(int p, int arm) {
            if (p < 0 || p > 5 || arm < 1 || arm > 9) {
                return false;
            }
            arms[p] = arm;
            now.tired[p] = 0;
            if (now.ahead == -2) {
                now.ahead = p;
            }
            return true;
        }

        boolean told(int p) {
            return p >= 0 && p < 6 && arms[p] != 0;
        }

        boolean ahead(int p) {
            if (!told(p)) {
                return false;
            }
            now.ahead = p;
            return true;
        }

        boolean width(int w) {
            if (w < 1 || w > 4) {
                return false;
            }
            width = w;
            return true;
        }

        boolean light(int m) {
            if (m < 0 || m > 999) {
                return false;
            }
            light = m;
            return true;
        }

        /** All acts written out. */
        String expand(String t) {
            int[] at = {0};
            StringBuilder acts = new StringBuilder();
            expandRow(t, at, acts, 0);
            if (at[0] < t.length()) {
                throw new Fault(1, at[0]);
            }
            return acts.toString();
        }

        void expandRow(String t, int[] at, StringBuilder acts, int open) {
            boolean any = false;
            while (!any || at[0] < t.length() && t.charAt(at[0]) != ')') {
                any = true;
                int first = at[0];
                int times = 1;
                if (at[0] < t.length() && t.charAt(at[0]) >= '2' && t.charAt(at[0]) <= '9') {
                    times = t.charAt(at[0]) - '0';
                    at[0]++;
                }
                if (at[0] >= t.length()) {
                    throw new Fault(1, at[0]);
                }
                char ch = t.charAt(at[0]);
                int from = acts.length();
                if (ch == '(') {
                    if (open == 2) {
                        throw new Fault(5, at[0]);
                    }
                    at[0]++;
                    expandRow(t, at, acts, open + 1);
                    if (at[0] >= t.length()) {
                        throw new Fault(1, at[0]);
                    }
                } else if (ch < 128 && "nesw.+obx".indexOf(ch) >= 0) {
                    acts.append(ch);
                } else {
                    throw new Fault(1, at[0]);
                }
                at[0]++;
                String body = acts.substring(from);
                for (int i = 1; i < times; i++) {
                    acts.append(body);
                }
                if (acts.length() > 90) {
                    throw new Fault(6, first);
                }
            }
        }

        static int step(int cell, char way) {
            int x = cell % 12 + (way == 'e' ? 1 : way == 'w' ? -1 : 0);
            int y = cell / 12 + (way == 'n' ? 1 : way == 's' ? -1 : 0);
            return x < 0 || x > 11 || y < 0 || y > 11 ? -1 : 12 * y + x;
        }

        /** Does one act; false: it is dark. */
        boolean act(State s, char a) {
            Spot here = s.path.get(s.at);
            switch (a) {
                case '.':
                    if (s.minute + 10 > light) {
                        return false;
                    }
                    s.minute += 10;
                    for (int p = 0; p < 6; p++) {
                        if (told(p)) {
                            s.tired[p] = Math.max(0, s.tired[p] - e(arms[p], s.tired[p], s.day));
                        }
                    }
                    return true;
                case '+':
                    if (s.ahead == -2) {
                        return true;
                    }
                    if (s.minute > light) {
                        return false;
                    }
                    s.ahead = nextOf(s.ahead);
                    return true;
                case 'o':
                case 'b':
                    if (a == 'o' ? here.outMark : here.backMark) {
                        return true;
                    }
                    if (s.minute + 2 > light) {
                        return false;
                    }
                    s.minute += 2;
                    here.outMark |= a == 'o';
                    here.backMark |= a == 'b';
                    return true;
                case 'x':
                    if (here.stick) {
                        return true;
                    }
                    if (s.minute + 1 > light) {
                        return false;
                    }
                    s.minute++;
                    here.stick = true;
                    return true;
                default:
                    return way(s, step(here.cell, a));
            }
        }

        int nextOf(int ahead) {
            for (int p = ahead + 1; p < 6; p++) {
                if (told(p)) {
                    return p;
                }
            }
            for (int p = 0; p < 6; p++) {
                if (told(p)) {
                    return p;
                }
            }
            return -2;
        }

        boolean way(State s, int cell) {
            if (cell < 0) {
                return true;
            }
            for (int to = s.at + 1; to >= s.at - 1; to -= 2) {
                if (to >= 0 && to < s.path.size() && s.path.get(to).cell == cell) {
                    int minutes = v(s, s.path.get(to), to > s.at);
                    if (s.minute + minutes > light) {
                        return false;
                    }
                    s.minute += minutes;
                    s.at = to;
                    return true;
                }
            }
            if (s.at != s.path.size() - 1 || s.ahead == -2 || kinds[cell] == 3 || s.has(cell) || s.path.size() == 100) {
                return true;
            }
            int minutes = c(s, kinds[cell], width);
            int more = n(kinds[cell], arms[s.ahead], s.tired[s.ahead], s.day);
            if (s.minute + minutes > light) {
                return false;
            }
            s.minute += minutes;
            s.tired[s.ahead] = Math.min(99, s.tired[s.ahead] + more);
            Spot p = new Spot();
            p.cell = cell;
            p.width = width;
            s.path.add(p);
            s.at++;
            return true;
        }

        int orders(int n) {
            if (lacks(n, 1, 80)) {
                return -1;
            }
            try {
                String acts = expand(take(n));
                int before = now.minute;
                for (int i = 0; i < acts.length() && act(now, acts.charAt(i)); i++) {
                    continue;
                }
                return now.minute - before;
            } catch (Fault f) {
                return f.answer;
            }
        }

        int tried(int n, int what) {
            if (lacks(n, 1, 80) || what < 0 || what > 5) {
                return -1;
            }
            try {
                String acts = expand(take(n));
                State s = now.copy();
                int done = 0;
                while (done < acts.length() && act(s, acts.charAt(done))) {
                    done++;
                }
                return new int[] {s.minute - now.minute, s.path.size() - now.path.size(), done, s.path.get(s.at).cell,
                    s.ahead == -2 ? -2 : s.tired[s.ahead], done < acts.length() ? 1 : 0}[what];
            } catch (Fault f) {
                return f.answer;
            }
        }

        int days(int n) {
            if (n < 1 || n > 60) {
                return -1;
            }
            int sum = 0;
            for (int i = 0; i < n; i++) {
                if (now.day == 9999) {
                    break;
                }
                for (Spot p : now.path) {
                    int more = Math.min(99 - p.grown, g(kinds[p.cell], p.width, p.grown, now.day));
                    p.grown += more;
                    sum += more;
                }
                now.minute = 0;
                now.tired = new int[6];
                now.day++;
            }
            return sum;
        }

        boolean fork(State s, int place) {
            if (place == 0) {
                return false;
            }
            for (char w : "nesw".toCharArray()) {
                int cell = step(s.path.get(place).cell, w);
                if (cell < 0 || cell == s.path.get(place - 1).cell) {
                    continue;
                }
                if (place + 1 < s.path.size() && cell == s.path.get(place + 1).cell) {
                    continue;
                }
                if (s.has(cell) || kinds[cell] == 0 || kinds[cell] >= 4) {
                    return true;
                }
            }
            return false;
        }

        boolean blind(State s, int place) {
            return fork(s, place) && !s.path.get(place).stick && !s.path.get(place - 1).backMark;
        }

        int backMinutes(State s) {
            int sum = 0;
            for (int p = 0; p < s.at; p++) {
                sum += v(s, s.path.get(p), false);
            }
            return sum;
        }

        int back(int what) {
            int forks = 0;
            int blind = 0;
            int first = -2;
            for (int p = 1; p <= now.at; p++) {
                forks += fork(now, p) ? 1 : 0;
                if (blind(now, p)) {
                    blind++;
                    first = p;
                }
            }
            return what == 0 ? backMinutes(now) : what == 1 ? forks : what == 2 ? blind : what == 3 ? first : -1;
        }

        long safe(int what) {
            if (what != 0 && what != 1) {
                return -1;
            }
            if (back(2) > 18) {
                return -3;
            }
            java.math.BigInteger above = java.math.BigInteger.ONE;
            java.math.BigInteger below = java.math.BigInteger.ONE;
            for (int p = 1; p <= now.at; p++) {
                if (blind(now, p)) {
                    above = above.multiply(java.math.BigInteger.valueOf(10 - d(now, p)));
                    below = below.multiply(java.math.BigInteger.TEN);
                }
            }
            java.math.BigInteger common = above.gcd(below);
            return (what == 0 ? above : below).divide(common).longValueExact();
        }

        int home() {
            int before = now.minute;
            while (now.at > 0) {
                int minutes = v(now, now.path.get(now.at - 1), false);
                if (blind(now, now.at)) {
                    now.x = (int) ((25173L * now.x + 13849) % 65536);
                    if (now.x % 10 < d(now, now.at)) {
                        minutes += 30;
                    }
                }
                if (now.minute + minutes > light) {
                    break;
                }
                now.minute += minutes;
                now.at--;
            }
            return now.minute - before;
        }

        int path(int place, int what) {
            if (place < 0 || place >= now.path.size() || what < 0 || what > 6) {
                return -1;
            }
            Spot p = now.path.get(place);
            return new int[] {p.cell, p.grown, p.width, (p.outMark ? 1 : 0) + (p.backMark ? 2 : 0), p.stick ? 1 : 0,
                fork(now, place) ? 1 : 0, blind(now, place) ? 1 : 0}[what];
        }

        int turn(int n, int what) {
            if (lacks(n, 1, 80) || what < 0 || what > 1) {
                return -1;
            }
            try {
                String acts = expand(take(n));
                State s = now.copy();
                int most = -2;
                int minutes = -2;
                for (int done = 0; done <= acts.length(); done++) {
                    if (done > 0 && !act(s, acts.charAt(done - 1))) {
                        break;
                    }
                    if (s.minute + backMinutes(s) <= light) {
                        most = done;
                        minutes = s.minute - now.minute + backMinutes(s);
                    }
                }
                return what == 0 ? most : minutes;
            } catch (Fault f) {
                return f.answer;
            }
        }

        int soonest(int from, int to, int what) {
            if (from < 0 || from > 143 || to < 0 || to > 143 || what < 0 || what > 2 || now.ahead == -2
                || kinds[from] == 3 || kinds[to] == 3) {
                return -1;
            }
            int[] cost = new int[7];
            for (int k = 0; k < 7; k++) {
                cost[k] = c(now, k, width);
            }
            // the best of each cell by the first step of its way (4: none yet), from the start on
            long[][] best = new long[144][5];
            for (long[] b : best) {
                Arrays.fill(b, Long.MAX_VALUE);
            }
            best[from][4] = 0;
            boolean more = true;
            while (more) {
                more = false;
                for (int cell = 0; cell < 144; cell++) {
                    for (int first = 0; first < 5; first++) {
                        for (int w = 0; w < 4 && best[cell][first] != Long.MAX_VALUE; w++) {
                            int next = step(cell, "nesw".charAt(w));
                            if (next >= 0 && kinds[next] != 3) {
                                long by = best[cell][first] + cost[kinds[next]] * 1000000L + 1;
                                int f = first == 4 ? w : first;
                                if (by < best[next][f]) {
                                    best[next][f] = by;
                                    more = true;
                                }
                            }
                        }
                    }
                }
            }
            int at = 4;
            for (int f = 3; f >= 0; f--) {
                if (best[to][f] <= best[to][at]) {
                    at = f;
                }
            }
            if (from == to) {
                return what == 2 ? -2 : 0;
            }
            long least = best[to][at];
            if (least == Long.MAX_VALUE) {
                return -2;
            }
            return what == 0 ? (int) (least / 1000000) : what == 1 ? (int) (least % 1000000) : at;
        }

        int camp(int what) {
            if (what < 0 || what > 1) {
                return -1;
            }
            int[] steps = new int[144];
            Arrays.fill(steps, 9999);
            steps[now.path.get(now.at).cell] = 0;
            for (int round = 0; round < 144; round++) {
                for (int cell = 0; cell < 144; cell++) {
                    for (char w : "nesw".toCharArray()) {
                        int next = step(cell, w);
                        if (next >= 0 && kinds[next] != 3) {
                            steps[next] = Math.min(steps[next], steps[cell] + 1);
                        }
                    }
                }
            }
            int found = -2;
            for (int cell = 143; cell >= 0; cell--) {
                if (kinds[cell] == 5 && steps[cell] < 9999 && (found < 0 || steps[cell] <= steps[found])) {
                    found = cell;
                }
            }
            return found < 0 || what == 0 ? found : steps[found];
        }

        int byTurns(int n, int people, int what) {
            List<Integer> who = new ArrayList<>();
            for (int p = 0; p < 32; p++) {
                if ((people >> p & 1) == 1) {
                    if (!told(p)) {
                        return -1;
                    }
                    who.add(p);
                }
            }
            if (n < 1 || n > 6 || who.size() < 1 || who.size() > 4 || what != 10 && (what < 0 || what >= n)) {
                return -1;
            }
            int rows = 1;
            for (int i = 0; i < n; i++) {
                rows *= who.size();
            }
            int most = -1;
            int[] best = null;
            int[][] more = new int[6][100];
            int[][] less = new int[6][100];
            for (int p : who) {
                for (int t = 0; t < 100; t++) {
                    more[p][t] = n(2, arms[p], t, now.day);
                    less[p][t] = e(arms[p], t, now.day);
                }
            }
            for (int r = 0; r < rows; r++) {
                int[] row = new int[n];
                int left = r;
                for (int i = n - 1; i >= 0; i--) {
                    row[i] = who.get(left % who.size());
                    left /= who.size();
                }
                int[] t = now.tired.clone();
                int yards = 0;
                for (int first : row) {
                    yards += Math.max(0, 10 * arms[first] - t[first]);
                    for (int p : who) {
                        t[p] = p == first ? Math.min(99, t[p] + more[p][t[p]]) : Math.max(0, t[p] - less[p][t[p]]);
                    }
                }
                if (yards > most) {
                    most = yards;
                    best = row;
                }
            }
            return what == 10 ? most : best[what];
        }

        int planned(int kind, int cells, int days, int what) {
            if (kind < 0 || kind > 6 || kind == 3 || cells < 1 || cells > 99 || days < 0 || days > 30 || what < 0
                || what > 3 || now.ahead == -2) {
                return -1;
            }
            int[] best = null;
            for (int w = 1; w <= 4; w++) {
                int grown = 0;
                for (int i = 0; i < days; i++) {
                    grown = Math.min(99, grown + g(kind, w, grown, now.day + i));
                }
                int cut = c(now, kind, w);
                int[] walk = {ask('v', kind, w, 0, 0, grown, 0, now.day + days),
                    ask('v', kind, w, 0, 0, grown, 1, now.day + days)};
                for (int each = 1; each <= 6; each++) {
                    for (int face = 2; face >= 0; face -= 2) {
                        int minutes = 0;
                        for (int i = 0; i < cells; i++) {
                            boolean marked = face == 2 && i % each == 0;
                            minutes += cut + (marked ? 2 + walk[1] : walk[0]);
                        }
                        if (best == null || minutes < best[0]) {
                            best = new int[] {minutes, w, each, face};
                        }
                    }
                }
            }
            return best[what];
        }

        int paces(int n, int of, int what) {
            if (lacks(n, 1, 40) || of < 1 || of > 99 || what < 0 || what > 4) {
                return -1;
            }
            String t = take(n);
            TreeSet<Integer> right = new TreeSet<>(List.of(0));
            TreeSet<Integer> forward = new TreeSet<>(List.of(0));
            int legs = 0;
            int i = 0;
            while (i < t.length()) {
                if (t.charAt(i) < '0' || t.charAt(i) > '9') {
                    return -1000 - i;
                }
                if (legs == 8) {
                    return -4000 - i;
                }
                int j = i + 1;
                if (j < t.length() && t.charAt(j) >= '0' && t.charAt(j) <= '9') {
                    j++;
                }
                int number = Integer.parseInt(t.substring(i, j));
                if (number == 0) {
                    return -3000 - i;
                }
                char letter = j < t.length() ? t.charAt(j) : '?';
                if (letter != 'l' && letter != 'r' && letter != 'f' && letter != 'b') {
                    return -1000 - j;
                }
                TreeSet<Integer> ends = new TreeSet<>();
                for (int from : letter == 'l' || letter == 'r' ? right : forward) {
                    for (int p = number - number / of; p <= number + number / of; p++) {
                        ends.add(letter == 'r' || letter == 'f' ? from + p : from - p);
                    }
                }
                if (letter == 'l' || letter == 'r') {
                    right = ends;
                } else {
                    forward = ends;
                }
                legs++;
                i = j + 1;
            }
            return new int[] {right.first(), right.last(), forward.first(), forward.last(),
                right.size() * forward.size()}[what];
        }

        int seek(int n, int what) {
            if (n < 1 || n > 6 || lacks(2 * n, 2, 12)) {
                return -1;
            }
            String t = take(2 * n);
            for (int i = 0; i < n; i++) {
                if (t.charAt(2 * i) > 143 || t.charAt(2 * i + 1) < 1 || t.charAt(2 * i + 1) > 9) {
                    return -2;
                }
            }
            if (what != 10 && (what < 0 || what >= n)) {
                return -4;
            }
            int least = Integer.MAX_VALUE;
            String best = null;
            int rows = 1;
            for (int i = 0; i < n; i++) {
                rows *= n;
            }
            for (int r = 0; r < rows; r++) {
                int left = r;
                StringBuilder row = new StringBuilder();
                int been = 0;
                for (int i = 0; i < n; i++) {
                    row.insert(0, (char) ('0' + left % n));
                    been |= 1 << left % n;
                    left /= n;
                }
                if (been != (1 << n) - 1) {
                    continue;
                }
                int at = now.path.get(now.at).cell;
                int steps = 0;
                int sum = 0;
                for (int i = 0; i < n; i++) {
                    int which = row.charAt(i) - '0';
                    int cell = t.charAt(2 * which);
                    steps += Math.abs(cell % 12 - at % 12) + Math.abs(cell / 12 - at / 12);
                    sum += steps * t.charAt(2 * which + 1);
                    at = cell;
                }
                if (sum < least) {
                    least = sum;
                    best = row.toString();
                }
            }
            return what == 10 ? least : best.charAt(what) - '0';
        }

        int blazes(int n, int what) {
            if (n < 1 || n > 8 || lacks(4 * n, 4, 32)) {
                return -1;
            }
            String t = take(4 * n);
            boolean[][] may = new boolean[n][61];
            for (int i = 0; i < n; i++) {
                int kind = t.charAt(4 * i);
                int wide = t.charAt(4 * i + 1);
                int from = t.charAt(4 * i + 2);
                int to = t.charAt(4 * i + 3);
                if (kind > 6 || wide < 1 || wide > 4 || from > 99 || to > 99 || from > to) {
                    return -3;
                }
                int grown = 0;
                for (int day = 0; day <= 60; day++) {
                    may[i][day] = grown >= from && grown <= to;
                    grown = Math.min(99, grown + g(kind, wide, grown, now.day));
                }
            }
            if (what >= 10 && what < 10 + n || what >= 20 && what < 20 + n) {
                int first = -2;
                int last = -2;
                for (int day = 60; day >= 0; day--) {
                    if (may[what % 10][day]) {
                        first = day;
                        last = Math.max(last, day);
                    }
                }
                return what < 20 ? first : last;
            }
            if (what != 0) {
                return -4;
            }
            int[] fewest = new int[1 << n];
            Arrays.fill(fewest, 99);
            fewest[0] = 0;
            for (int day = 0; day <= 60; day++) {
                int by = 0;
                for (int i = 0; i < n; i++) {
                    by |= may[i][day] ? 1 << i : 0;
                }
                for (int mask = (1 << n) - 1; mask >= 0; mask--) {
                    fewest[mask | by] = Math.min(fewest[mask | by], fewest[mask] + 1);
                }
            }
            return fewest[(1 << n) - 1] == 99 ? -2 : fewest[(1 << n) - 1];
        }

        int sights(int n, int what) {
            if (lacks(n, 1, 20) || what < 0 || what > 2) {
                return -1;
            }
            String t = take(n);
            for (int i = 0; i < n; i++) {
                if (t.charAt(i) > 127 || "mf2.".indexOf(t.charAt(i)) < 0) {
                    return -1000 - i;
                }
            }
            StringBuilder all = new StringBuilder();
            for (int p = now.path.size() - 1; p >= 0; p--) {
                boolean mark = now.path.get(p).backMark;
                boolean fork = fork(now, p);
                all.append(mark ? fork ? '2' : 'm' : fork ? 'f' : '.');
            }
            int count = 0;
            int lowest = -2;
            int highest = -2;
            for (int i = all.indexOf(t); i >= 0; i = all.indexOf(t, i + 1)) {
                lowest = now.path.size() - 1 - i;
                highest = Math.max(highest, lowest);
                count++;
            }
            return what == 0 ? count : what == 1 ? lowest : highest;
        }

        int personIs(int p, int what) {
            return !told(p) || what < 0 || what > 1 ? -1 : what == 0 ? arms[p] : now.tired[p];
        }

        boolean seed(int x) {
            if (x < 0 || x > 65535) {
                return false;
            }
            now.x = x;
            return true;
        }

        int keep() {
            kept = now.copy();
            return now.path.size();
        }

        boolean undo() {
            if (kept == null) {
                return false;
            }
            now = kept.copy();
            return true;
        }

        int check(int n) {
            if (lacks(n, 0, 100)) {
                return -2;
            }
            String t = take(n);
            for (int i = 0; i < n; i++) {
                if (t.charAt(i) != (i < now.path.size() ? now.path.get(i).grown : 0)) {
                    return i;
                }
            }
            return -1;
        }

        int count(int what) {
            if (what >= 100 && what < 244) {
                return kinds[what - 100];
            }
            int bits = 0;
            for (int p = 0; p < 6; p++) {
                bits += told(p) ? 1 << p : 0;
            }
            return what < 0 || what > 10 ? -1 : new int[] {now.day, now.minute, now.path.size(), now.at, bits,
                now.ahead, clauses, tape.size(), now.x, width, light}[what];
        }
    }

    /** Draws texts and calls and lets both answer. */
    static final class Runner {
        // what later calls answer is free
        private static final int MOST_CALLS = 512;

        final Random random;
        final BlazedPath real = new BlazedPath();
        final Model model = new Model();
        final StringBuilder told = new StringBuilder();
        boolean failed = false;
        int calls = 0;

        Runner(long seed) {
            random = new Random(seed);
        }

        int below(int n) {
            return random.nextInt(n);
        }

        boolean once(int in) {
            return random.nextInt(in) == 0;
        }

        void same(String call, long got, long due) {
            calls++;
            if (calls > MOST_CALLS) {
                return;
            }
            if (told.length() < 60000) {
                told.append(call).append(" -> ").append(due).append('\n');
            }
            if (got != due) {
                failed = true;
                wrong++;
                if (wrong <= 5) {
                    System.out.println(told);
                }
                System.out.println(call + " answered " + got + ", due is " + due);
            }
        }

        void feed(int a, int b, int c, int d, int e) {
            same("feed(" + a + ", " + b + ", " + c + ", " + d + ", " + e + ")", real.feed(a, b, c, d, e),
                model.feed(a, b, c, d, e));
        }

        void feedText(String t) {
            told.append("# ").append(t.replace('\n', ' ')).append('\n');
            for (int i = 0; i < t.length(); i += 20) {
                int[] w = new int[5];
                for (int j = 0; j < 20; j++) {
                    w[j / 4] = w[j / 4] << 8 | (i + j < t.length() ? t.charAt(i + j) & 255 : ' ');
                }
                feed(w[0], w[1], w[2], w[3], w[4]);
            }
        }

        String pick(String... of) {
            return of[below(of.length)];
        }

        String number() {
            return once(40) ? "" + below(1000000) : once(4) ? "" + below(100) : "" + below(10);
        }

        String expression(int deep) {
            StringBuilder b = new StringBuilder();
            int parts = 1 + (once(2) ? below(3) : 0);
            for (int i = 0; i < parts; i++) {
                if (i > 0) {
                    b.append(pick("+", "-", "*", "/", "%"));
                }
                if (deep > 0 && once(6)) {
                    b.append('[').append(expression(deep - 1)).append(']');
                } else {
                    b.append(once(2) ? number() : pick("k", "w", "a", "t", "q", "f", "y"));
                }
            }
            return b.toString();
        }

        String condition(int deep) {
            StringBuilder b = new StringBuilder();
            int parts = 1 + (once(2) ? below(3) : 0);
            for (int i = 0; i < parts; i++) {
                if (i > 0) {
                    b.append(pick("|", "&"));
                }
                if (deep > 0 && once(6)) {
                    b.append('!');
                }
                if (deep > 0 && once(6)) {
                    b.append('(').append(condition(deep - 1)).append(')');
                } else {
                    b.append(expression(deep - 1)).append(pick("<", ">", "=")).append(expression(deep - 1));
                }
            }
            return b.toString();
        }

        String lawText() {
            if (once(3)) {
                return pick("c20-a+t/5+w*3(k=2);c8(k<2);c3(1=1);v2+q/10-f(1=1);g4-w(k=2);g2(1=1);n5(k=2);n1(1=1);"
                    + "e4(1=1);d3+q/30(w<3);d2(1=1)", "c3(1=1);v1+q/9-f(1=1);g3-w(y%3=0);n4(1=1);e2(1=1);d4(1=1)",
                    "c2+k(1=1);v6-f*3(1=1);g1(1=1);n3+t/9(1=1);e5-a/2(1=1);d9(1=1)",
                    "c0(k=0);c1(k=6);c4(1=1);v1(q<5);v3(1=1);g9-q/20(1=1);n7(t<50);d1(1=1);e9(t>20);e1(1=1)");
            }
            StringBuilder b = new StringBuilder();
            int clauses = once(20) ? 15 + below(4) : 1 + below(7);
            for (int i = 0; i < clauses; i++) {
                if (i > 0) {
                    b.append(';');
                }
                String c = once(3) || clauses > 10 ? "1=1" : condition(once(8) ? 6 : 2);
                b.append(pick("c", "v", "g", "n", "e", "d")).append(expression(clauses > 10 ? 0 : once(8) ? 6 : 1));
                b.append('(').append(c).append(')');
            }
            return b.toString();
        }

        String forestText() {
            StringBuilder b = new StringBuilder();
            int bias = below(4);
            for (int y = 0; y < 12; y++) {
                if (y > 0) {
                    b.append('/');
                }
                if (y > 0 && once(3)) {
                    b.append('=');
                    continue;
                }
                int left = 12;
                while (left > 0) {
                    int run = Math.min(left, 1 + below(once(2) ? 12 : 4));
                    left -= run;
                    b.append(bias == 0 ? pick("o", "t", "j", "b", "r", "s", "p") : bias == 1 ? pick("j", "j", "t", "s")
                        : bias == 2 ? pick("j", "t", "b") : pick("j", "j", "j", "t", "t", "o", "b"));
                    if (run > 1 || once(3)) {
                        b.append(run < 10 && once(5) ? "0" : "").append(run);
                    }
                }
            }
            return b.toString();
        }

        String ordersText(int deep) {
            StringBuilder b = new StringBuilder();
            int acts = 1 + below(deep == 2 ? 10 : 4);
            for (int i = 0; i < acts; i++) {
                if (once(3)) {
                    b.append(2 + below(once(3) ? 8 : 3));
                }
                if (once(deep == 2 ? 5 : 9) && deep > 0) {
                    b.append('(').append(ordersText(deep - 1)).append(')');
                } else {
                    b.append(once(3) ? pick(".", "+", "o", "b", "x") : pick("n", "e", "s", "w", "n", "e"));
                }
            }
            return b.toString();
        }

        String pacesText() {
            StringBuilder b = new StringBuilder();
            int legs = 1 + below(once(8) ? 10 : 7);
            for (int i = 0; i < legs; i++) {
                b.append(once(30) ? "0" : "").append(below(once(2) ? 100 : 10)).append(pick("l", "r", "f", "b"));
            }
            return b.toString();
        }

        String sightsText() {
            StringBuilder b = new StringBuilder();
            int n = 1 + below(once(3) ? 20 : 3);
            for (int i = 0; i < n; i++) {
                b.append(pick(".", ".", "f", "f", "m", "2"));
            }
            return b.toString();
        }

        String spoil(String text, int in) {
            if (!once(in) || text.isEmpty()) {
                return text;
            }
            StringBuilder b = new StringBuilder(text);
            int at = below(b.length());
            char with = once(3) ? (char) below(256) : "0123456789()[]!&|;/=+-*%<>.cvgnedkwatqfyojbrspxlm ".charAt(below(50));
            switch (below(4)) {
                case 0:
                    b.deleteCharAt(at);
                    break;
                case 1:
                    b.insert(at, with);
                    break;
                case 2:
                    b.setCharAt(at, with);
                    break;
                default:
                    b.setLength(at);
                    break;
            }
            return b.toString();
        }

        int wild(int likely, int wildly) {
            if (once(25)) {
                return once(2) ? below(wildly) - wildly / 4 : once(2) ? Integer.MIN_VALUE : Integer.MAX_VALUE;
            }
            return below(likely);
        }

        /** Empties the tape, feeds the text, and answers how many bytes of it are to be read. */
        int tell(String t) {
            if (!once(30)) {
                same("check(0)", real.check(0), model.check(0));
            }
            feedText(t);
            return once(25) ? t.length() + below(30) - 10 : t.length();
        }

        void call() {
            switch (below(30)) {
                case 0: {
                    if (once(3)) {
                        int n = tell(spoil(forestText(), 2));
                        same("forest(" + n + ")", real.forest(n), model.forest(n));
                    }
                    break;
                }
                case 1: {
                    int n = tell(spoil(lawText(), 3));
                    same("law(" + n + ")", real.law(n), model.law(n));
                    break;
                }
                case 2: {
                    if (once(4)) {
                        int cell = wild(144, 200);
                        same("start(" + cell + ")", real.start(cell) ? 1 : 0, model.start(cell) ? 1 : 0);
                    }
                    break;
                }
                case 3: {
                    int p = wild(6, 20);
                    int arm = wild(10, 20);
                    same("person(" + p + ", " + arm + ")", real.person(p, arm) ? 1 : 0, model.person(p, arm) ? 1 : 0);
                    break;
                }
                case 4: {
                    int p = wild(6, 20);
                    same("ahead(" + p + ")", real.ahead(p) ? 1 : 0, model.ahead(p) ? 1 : 0);
                    break;
                }
                case 5: {
                    int w = wild(6, 20);
                    same("width(" + w + ")", real.width(w) ? 1 : 0, model.width(w) ? 1 : 0);
                    break;
                }
                case 6: {
                    int m = once(3) ? wild(100, 2000) : 900 + below(110);
                    same("light(" + m + ")", real.light(m) ? 1 : 0, model.light(m) ? 1 : 0);
                    break;
                }
                case 7:
                case 8:
                case 9:
                case 10:
                case 11: {
                    int n = tell(spoil(ordersText(2), 8));
                    same("orders(" + n + ")", real.orders(n), model.orders(n));
                    break;
                }
                case 12: {
                    int n = tell(spoil(ordersText(2), 8));
                    int what = wild(6, 12);
                    same("tried(" + n + ", " + what + ")", real.tried(n, what), model.tried(n, what));
                    break;
                }
                case 13: {
                    int n = once(20) ? 60 : wild(6, 100);
                    same("days(" + n + ")", real.days(n), model.days(n));
                    break;
                }
                case 14: {
                    int what = wild(4, 12);
                    same("back(" + what + ")", real.back(what), model.back(what));
                    break;
                }
                case 15: {
                    int what = wild(2, 8);
                    same("safe(" + what + ")", real.safe(what), model.safe(what));
                    break;
                }
                case 16: {
                    if (once(3)) {
                        same("home()", real.home(), model.home());
                    }
                    break;
                }
                case 17: {
                    int n = tell(spoil(ordersText(2), 8));
                    int what = wild(2, 8);
                    same("turn(" + n + ", " + what + ")", real.turn(n, what), model.turn(n, what));
                    break;
                }
                case 18: {
                    if (once(3)) {
                        int from = wild(144, 200);
                        int to = wild(144, 200);
                        int what = wild(3, 8);
                        same("soonest(" + from + ", " + to + ", " + what + ")", real.soonest(from, to, what),
                            model.soonest(from, to, what));
                    }
                    break;
                }
                case 19: {
                    int what = wild(2, 8);
                    same("camp(" + what + ")", real.camp(what), model.camp(what));
                    break;
                }
                case 20: {
                    if (once(4)) {
                        int n = wild(7, 20);
                        int people = once(2) ? model.count(4) : wild(64, 200);
                        int what = once(2) ? 10 : wild(6, 20);
                        same("byTurns(" + n + ", " + people + ", " + what + ")", real.byTurns(n, people, what),
                            model.byTurns(n, people, what));
                    }
                    break;
                }
                case 21: {
                    int kind = wild(7, 20);
                    int cells = wild(101, 200);
                    int days = wild(32, 100);
                    int what = wild(4, 8);
                    same("planned(" + kind + ", " + cells + ", " + days + ", " + what + ")",
                        real.planned(kind, cells, days, what), model.planned(kind, cells, days, what));
                    break;
                }
                case 22: {
                    int n = tell(spoil(pacesText(), 8));
                    int of = wild(once(2) ? 20 : 101, 200);
                    int what = wild(5, 12);
                    same("paces(" + n + ", " + of + ", " + what + ")", real.paces(n, of, what), model.paces(n, of, what));
                    break;
                }
                case 23: {
                    int n = wild(7, 12);
                    StringBuilder b = new StringBuilder();
                    for (int i = 0; i < n && i < 8; i++) {
                        b.append((char) (once(60) ? below(256) : below(144))).append((char) (once(60) ? below(20) : 1 + below(9)));
                    }
                    tell(b.toString());
                    int what = once(2) ? 10 : wild(6, 20);
                    same("seek(" + n + ", " + what + ")", real.seek(n, what), model.seek(n, what));
                    break;
                }
                case 24:
                case 25: {
                    int n = wild(9, 12);
                    StringBuilder b = new StringBuilder();
                    for (int i = 0; i < n && i < 9; i++) {
                        int from = below(once(2) ? 100 : 12);
                        int to = once(60) ? below(101) : Math.min(99, from + below(once(2) ? 60 : 9));
                        b.append((char) below(once(60) ? 9 : 7)).append((char) (once(60) ? below(6) : 1 + below(4)));
                        b.append((char) from).append((char) to);
                    }
                    tell(b.toString());
                    int what = once(2) ? 0 : once(2) ? 10 + below(10) : once(5) ? below(40) : 20 + below(8);
                    same("blazes(" + n + ", " + what + ")", real.blazes(n, what), model.blazes(n, what));
                    break;
                }
                case 26: {
                    int n = tell(spoil(sightsText(), 8));
                    int what = wild(3, 8);
                    same("sights(" + n + ", " + what + ")", real.sights(n, what), model.sights(n, what));
                    break;
                }
                case 27: {
                    int x = once(6) ? below(200000) - 60000 : below(65536);
                    same("seed(" + x + ")", real.seed(x) ? 1 : 0, model.seed(x) ? 1 : 0);
                    break;
                }
                case 28: {
                    if (once(2)) {
                        same("keep()", real.keep(), model.keep());
                    } else {
                        same("undo()", real.undo() ? 1 : 0, model.undo() ? 1 : 0);
                    }
                    break;
                }
                default: {
                    StringBuilder b = new StringBuilder();
                    for (Spot p : model.now.path) {
                        b.append((char) (p.grown + (once(200) ? 1 : 0)));
                    }
                    while (b.length() < 100 && once(2)) {
                        b.append((char) (once(30) ? 1 : 0));
                    }
                    int n = tell(b.toString());
                    same("check(" + n + ")", real.check(n), model.check(n));
                    break;
                }
            }
        }

        void compareAll() {
            for (int what = -2; what < 13; what++) {
                same("count(" + what + ")", real.count(what), model.count(what));
            }
            for (int p = -1; p < 7; p++) {
                for (int what = -1; what < 3; what++) {
                    same("personIs(" + p + ", " + what + ")", real.personIs(p, what), model.personIs(p, what));
                }
            }
            for (int place = -1; place <= model.now.path.size(); place++) {
                for (int what = below(9) - 1; what < 8; what += 1 + below(9)) {
                    same("path(" + place + ", " + what + ")", real.path(place, what), model.path(place, what));
                }
            }
            for (int what = 99; what < 245; what += 1 + below(20)) {
                same("count(" + what + ")", real.count(what), model.count(what));
            }
        }

        void run() {
            for (int i = 0; i < 150 && !failed && calls < MOST_CALLS; i++) {
                call();
                if ((once(40) || calls > MOST_CALLS - 200 && once(20)) && !failed) {
                    int kept = told.length();
                    compareAll();
                    if (!failed) {
                        told.setLength(kept);
                    }
                }
            }
        }
    }

    public static void main(String[] args) {
        int runs = args.length > 0 ? Integer.parseInt(args[0]) : 1000;
        long first = args.length > 1 ? Long.parseLong(args[1]) : 1;
        for (long seed = first; seed < first + runs && wrong < 5; seed++) {
            new Runner(seed).run();
        }
        System.out.println(wrong == 0 ? "all drawn runs are as the model" : wrong + " answers are not as the model's");
        if (wrong != 0) {
            System.exit(1);
        }
    }
}
