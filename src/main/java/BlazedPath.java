import java.util.Arrays;

/** A path cut and marked through a forest, as the document's numbered promises tell it. */
public final class BlazedPath {
    public static final int NONE = -1;

    // the answers of promises that tell apart why there is none
    private static final int LACKING = -2;
    private static final int BEYOND = -3;
    private static final int NO_SUCH = -4;

    private static final int CANT_STAND = 1;
    private static final int SIXTH_DIGIT = 2;
    private static final int NUMBER_ZERO = 3;
    private static final int TOO_MANY = 4;
    private static final int TOO_DEEP = 5;
    private static final int TOO_LONG = 6;

    // above every sum of minutes, steps and weights that can come about
    private static final int FAR = 1000000000;
    private static final int MOST_GROWN = 99;
    private static final int MOST_TIRED = 99;

    private final Tape tape;
    private final Country country;
    private final Law rules;
    private final LawReader lawReader;
    private final Trip trip;
    private final Trip trial;
    private final Trip kept;
    private boolean isKept;
    private final Outing outing;
    private final Routes routes;
    private final Shifts shifts;
    private final Search search;
    private final Overgrowth overgrowth;
    private final Legs legs;

    public BlazedPath() {
        Country place = new Country();
        Law text = new Law();
        tape = new Tape();
        country = place;
        rules = text;
        lawReader = new LawReader();
        trip = new Trip(place, text);
        trial = new Trip(place, text);
        kept = new Trip(place, text);
        isKept = false;
        outing = new Outing(place, text);
        routes = new Routes(place, text);
        shifts = new Shifts(place, text);
        search = new Search();
        overgrowth = new Overgrowth(place, text);
        legs = new Legs();
    }

    public int feed(int a, int b, int c, int d, int e) {
        if (!tape.hasRoom(20)) {
            return NONE;
        }
        tape.put(a);
        tape.put(b);
        tape.put(c);
        tape.put(d);
        tape.put(e);
        return tape.size();
    }

    public int forest(int n) {
        if (!tape.take(n, 1, 200)) {
            return NONE;
        }
        int answer = country.readForest(tape);
        if (answer >= 0) {
            trip.beginAt(trip.cellAt(0));
            isKept = false;
        }
        return answer;
    }

    public int law(int n) {
        if (!tape.take(n, 1, Law.TEXT)) {
            return NONE;
        }
        return lawReader.readInto(rules, tape);
    }

    public boolean start(int cell) {
        if (country.isBarred(cell)) {
            return false;
        }
        trip.beginAt(cell);
        return true;
    }

    public boolean person(int p, int arm) {
        if (p < 0 || p >= Country.PEOPLE || arm < 1 || arm > 9) {
            return false;
        }
        country.tell(p, arm);
        trip.setTired(p, 0);
        if (!country.isTold(trip.leader)) {
            trip.leader = p;
        }
        return true;
    }

    public boolean ahead(int p) {
        if (!country.isTold(p)) {
            return false;
        }
        trip.leader = p;
        return true;
    }

    public boolean width(int w) {
        if (w < 1 || w > 4) {
            return false;
        }
        country.width = w;
        return true;
    }

    public boolean light(int minute) {
        if (minute < 0 || minute > 999) {
            return false;
        }
        country.light = minute;
        return true;
    }

    public int orders(int n) {
        if (!tape.take(n, 1, Outing.TEXT)) {
            return NONE;
        }
        int fault = outing.readActs(tape);
        return fault < 0 ? fault : outing.perform(trip);
    }

    public int tried(int n, int what) {
        if (what < 0 || what > 5 || !tape.take(n, 1, Outing.TEXT)) {
            return NONE;
        }
        int fault = outing.readActs(tape);
        if (fault < 0) {
            return fault;
        }
        trial.copyFrom(trip);
        int minutes = outing.perform(trial);
        switch (what) {
            case 0:
                return minutes;
            case 1:
                return outing.cellsCut;
            case 2:
                return outing.actsDone;
            case 3:
                return trial.cellAt(trial.place);
            case 4:
                return country.isTold(trial.leader) ? trial.tiredOf(trial.leader) : LACKING;
            default:
                return outing.isDark ? 1 : 0;
        }
    }

    public int days(int n) {
        if (n < 1 || n > 60) {
            return NONE;
        }
        return overgrowth.passDays(trip, n);
    }

    public int back(int what) {
        switch (what) {
            case 0:
                return trip.minutesBack();
            case 1:
                return trip.forksBack();
            case 2:
                return trip.blindBack();
            case 3:
                return trip.firstBlindBack();
            default:
                return NONE;
        }
    }

    public long safe(int what) {
        if (what < 0 || what > 1) {
            return NONE;
        }
        if (trip.blindBack() > 18) {
            return BEYOND;
        }
        long above = 1;
        long below = 1;
        for (int p = trip.place; p > 0; p--) {
            if (trip.isBlind(p)) {
                above *= 10 - trip.wrongTenths(p);
                below *= 10;
            }
        }
        long common = commonDivisor(above, below);
        if (common < 1) {
            return NONE;
        }
        return what == 0 ? above / common : below / common;
    }

    public int home() {
        return trip.goHome();
    }

    public int path(int place, int what) {
        if (place < 0 || place >= trip.length) {
            return NONE;
        }
        switch (what) {
            case 0:
                return trip.cellAt(place);
            case 1:
                return trip.grownAt(place);
            case 2:
                return trip.widthAt(place);
            case 3:
                return trip.marksAt(place);
            case 4:
                return trip.sticksAt(place);
            case 5:
                return trip.isFork(place) ? 1 : 0;
            case 6:
                return trip.isBlind(place) ? 1 : 0;
            default:
                return NONE;
        }
    }

    public int turn(int n, int what) {
        if (what < 0 || what > 1 || !tape.take(n, 1, Outing.TEXT)) {
            return NONE;
        }
        int fault = outing.readActs(tape);
        if (fault < 0) {
            return fault;
        }
        trial.copyFrom(trip);
        outing.findTurn(trial);
        return what == 0 ? outing.turnActs : outing.turnMinutes;
    }

    public int soonest(int from, int to, int what) {
        if (what < 0 || what > 2 || country.isBarred(from) || country.isBarred(to)
                || !country.isTold(trip.leader)) {
            return NONE;
        }
        if (from == to) {
            return what == 2 ? LACKING : 0;
        }
        return routes.findSoonest(trip, from, to, what);
    }

    public int camp(int what) {
        if (what < 0 || what > 1) {
            return NONE;
        }
        int cell = routes.nearestStream(trip.cellAt(trip.place));
        if (cell < 0) {
            return LACKING;
        }
        return what == 0 ? cell : routes.stepsTo(cell);
    }

    public int byTurns(int n, int people, int what) {
        boolean isTurn = what >= 0 && what < n;
        if (n < 1 || n > Shifts.TURNS || what != 10 && !isTurn || !shifts.choosePeople(people)) {
            return NONE;
        }
        shifts.findBest(trip, n);
        return what == 10 ? shifts.bestYards : shifts.whoIn(what);
    }

    public int planned(int kind, int cells, int days, int what) {
        if (kind < 0 || kind >= Country.KINDS || kind == Country.BAMBOO || cells < 1 || cells > 99
                || days < 0 || days > 30 || what < 0 || what > 3 || !country.isTold(trip.leader)) {
            return NONE;
        }
        overgrowth.planPath(trip, kind, cells, days);
        switch (what) {
            case 0:
                return overgrowth.planMinutes;
            case 1:
                return overgrowth.planWidth;
            case 2:
                return overgrowth.planSpacing;
            default:
                return overgrowth.planFace;
        }
    }

    public int paces(int n, int of, int what) {
        if (of < 1 || of > 99 || what < 0 || what > 4 || !tape.take(n, 1, 40)) {
            return NONE;
        }
        int fault = legs.readLegs(tape, of);
        return fault < 0 ? fault : legs.tellEnds(what);
    }

    public int seek(int n, int what) {
        if (n < 1 || n > Search.CELLS || !tape.take(2 * n, 2, 2 * Search.CELLS)) {
            return NONE;
        }
        if (!search.readCells(tape, n)) {
            return LACKING;
        }
        if (what != 10 && (what < 0 || what >= n)) {
            return NO_SUCH;
        }
        search.findBest(trip.cellAt(trip.place));
        return what == 10 ? search.bestSum : search.whichAt(what);
    }

    public int blazes(int n, int what) {
        if (n < 1 || n > Overgrowth.BLAZES || !tape.take(4 * n, 4, 4 * Overgrowth.BLAZES)) {
            return NONE;
        }
        if (!overgrowth.readBlazes(tape, n, trip.day)) {
            return BEYOND;
        }
        if (what == 0) {
            return overgrowth.fewestDays();
        }
        if (what >= 10 && what < 10 + n) {
            return overgrowth.firstDayOf(what - 10);
        }
        if (what >= 20 && what < 20 + n) {
            return overgrowth.lastDayOf(what - 20);
        }
        return NO_SUCH;
    }

    public int sights(int n, int what) {
        if (what < 0 || what > 2 || !tape.take(n, 1, 20)) {
            return NONE;
        }
        for (int i = 0; i < n; i++) {
            if (!Trip.isSight(tape.at(i))) {
                return faultAt(CANT_STAND, i);
            }
        }
        int places = 0;
        int lowest = LACKING;
        int highest = LACKING;
        for (int p = n - 1; p < trip.length; p++) {
            if (sightsFrom(p, n)) {
                places++;
                lowest = lowest < 0 ? p : lowest;
                highest = p;
            }
        }
        if (what == 0) {
            return places;
        }
        return what == 1 ? lowest : highest;
    }

    public int personIs(int p, int what) {
        if (!country.isTold(p) || what < 0 || what > 1) {
            return NONE;
        }
        return what == 0 ? country.armOf(p) : trip.tiredOf(p);
    }

    public boolean seed(int x) {
        if (x < 0 || x > 65535) {
            return false;
        }
        trip.drawn = x;
        return true;
    }

    public int keep() {
        kept.copyFrom(trip);
        isKept = true;
        return trip.length;
    }

    public boolean undo() {
        if (!isKept) {
            return false;
        }
        trip.copyFrom(kept);
        return true;
    }

    public int check(int n) {
        if (!tape.take(n, 0, Trip.CELLS)) {
            return LACKING;
        }
        for (int p = 0; p < n; p++) {
            if (tape.at(p) != trip.grownAt(p)) {
                return p;
            }
        }
        return NONE;
    }

    public int count(int what) {
        switch (what) {
            case 0:
                return trip.day;
            case 1:
                return trip.minute;
            case 2:
                return trip.length;
            case 3:
                return trip.place;
            case 4:
                return country.toldBits();
            case 5:
                return country.isTold(trip.leader) ? trip.leader : LACKING;
            case 6:
                return rules.clauses;
            case 7:
                return tape.size();
            case 8:
                return trip.drawn;
            case 9:
                return country.width;
            case 10:
                return country.light;
            default:
                return what >= 100 && what < 100 + Country.CELLS ? country.kindAt(what - 100) : NONE;
        }
    }

    private boolean sightsFrom(int place, int n) {
        boolean same = true;
        for (int i = 0; i < n && same; i++) {
            same = trip.sightAt(place - i) == tape.at(i);
        }
        return same;
    }

    private static int faultAt(int number, int place) {
        return -1000 * number - place;
    }

    private static boolean isDigit(int sign) {
        return sign >= '0' && sign <= '9';
    }

    private static long commonDivisor(long a, long b) {
        long high = a;
        long low = b;
        // Euclid needs under a hundred rounds for any two longs
        for (int round = 0; round < 200 && low != 0; round++) {
            long rest = high % low;
            high = low;
            low = rest;
        }
        return high;
    }

    /** The tape; what is taken from its front stays readable till the next bytes come. */
    private static final class Tape {
        static final int END = -1;
        private static final int ROOM = 260;

        private final int[] bytes = new int[ROOM];
        private int size;
        private int taken;

        int size() {
            return size;
        }

        boolean hasRoom(int more) {
            return size + more <= ROOM;
        }

        void put(int four) {
            for (int shift = 24; shift >= 0 && size < ROOM; shift -= 8) {
                bytes[size] = (four >>> shift) & 255;
                size++;
            }
        }

        /** The first n bytes are the text to be read and the tape is empty; false: nothing changes. */
        boolean take(int n, int least, int most) {
            if (n < least || n > most || n > size) {
                return false;
            }
            taken = n;
            size = 0;
            return true;
        }

        int at(int place) {
            return place >= 0 && place < taken && place < ROOM ? bytes[place] : END;
        }
    }

    /** What is told and not kept: the forest, the people's arms, the width, the light. */
    private static final class Country {
        static final int SIDE = 12;
        static final int CELLS = 144;
        static final int KINDS = 7;
        static final int PEOPLE = 6;
        static final int WAYS = 4;
        static final int JUNGLE = 2;
        static final int BAMBOO = 3;
        static final int STREAM = 5;

        private final int[] kinds = new int[CELLS];
        private final int[] draft = new int[CELLS];
        private final int[] arms = new int[PEOPLE];
        int width = 1;
        int light = 600;

        Country() {
            Arrays.fill(kinds, JUNGLE);
        }

        static boolean isCell(int cell) {
            return cell >= 0 && cell < CELLS;
        }

        /** The cell next to a cell by a way (n, e, s, w), or NONE outside. */
        static int neighbour(int cell, int way) {
            if (!isCell(cell)) {
                return NONE;
            }
            int x = cell % SIDE;
            int y = cell / SIDE;
            switch (way) {
                case 0:
                    return y < SIDE - 1 ? cell + SIDE : NONE;
                case 1:
                    return x < SIDE - 1 ? cell + 1 : NONE;
                case 2:
                    return y > 0 ? cell - SIDE : NONE;
                case 3:
                    return x > 0 ? cell - 1 : NONE;
                default:
                    return NONE;
            }
        }

        int kindAt(int cell) {
            return cell >= 0 && cell < CELLS ? kinds[cell] : BAMBOO;
        }

        /** Whether nobody can come onto it: bamboo, or no cell at all. */
        boolean isBarred(int cell) {
            return kindAt(cell) == BAMBOO;
        }

        boolean looksLikeWay(int cell) {
            int kind = kindAt(cell);
            return kind != 1 && kind != JUNGLE && kind != BAMBOO;
        }

        void tell(int p, int arm) {
            if (p >= 0 && p < PEOPLE) {
                arms[p] = arm;
            }
        }

        int armOf(int p) {
            return p >= 0 && p < PEOPLE ? arms[p] : 0;
        }

        boolean isTold(int p) {
            return armOf(p) > 0;
        }

        int toldBits() {
            int bits = 0;
            for (int p = 0; p < PEOPLE; p++) {
                if (arms[p] > 0) {
                    bits |= 1 << p;
                }
            }
            return bits;
        }

        /** The next higher told one, or the lowest. */
        int nextTold(int p) {
            for (int more = 1; more <= PEOPLE; more++) {
                int other = Math.floorMod(p + more, PEOPLE);
                if (isTold(other)) {
                    return other;
                }
            }
            return p;
        }

        int readForest(Tape text) {
            int at = 0;
            for (int y = 0; y < SIDE; y++) {
                if (y > 0) {
                    if (text.at(at) != '/') {
                        return faultAt(CANT_STAND, at);
                    }
                    at++;
                }
                at = y > 0 && text.at(at) == '=' ? repeatRow(y, at) : readRow(text, y, at);
                if (at < 0) {
                    return at;
                }
            }
            if (text.at(at) != Tape.END) {
                return faultAt(CANT_STAND, at);
            }
            System.arraycopy(draft, 0, kinds, 0, CELLS);
            return cellsNotJungle();
        }

        private int repeatRow(int y, int at) {
            for (int x = 0; x < SIDE; x++) {
                int cell = SIDE * y + x;
                if (cell >= SIDE && cell < CELLS) {
                    draft[cell] = draft[cell - SIDE];
                }
            }
            return at + 1;
        }

        /** Reads runs as long as letters come: where the row ends, or a fault. */
        private int readRow(Tape text, int y, int begin) {
            int at = begin;
            int x = 0;
            for (int run = 0; run <= SIDE && kindOfLetter(text.at(at)) >= 0; run++) {
                int letterAt = at;
                int times = 1;
                at++;
                if (isDigit(text.at(at))) {
                    int numberAt = at;
                    times = text.at(at) - '0';
                    at++;
                    if (isDigit(text.at(at))) {
                        times = 10 * times + text.at(at) - '0';
                        at++;
                    }
                    if (times == 0) {
                        return faultAt(NUMBER_ZERO, numberAt);
                    }
                }
                if (x + times > SIDE) {
                    return faultAt(TOO_LONG, letterAt);
                }
                layRun(SIDE * y + x, times, kindOfLetter(text.at(letterAt)));
                x += times;
            }
            return x < SIDE ? faultAt(CANT_STAND, at) : at;
        }

        private void layRun(int begin, int times, int kind) {
            for (int cell = begin; cell < begin + times; cell++) {
                if (isCell(cell)) {
                    draft[cell] = kind;
                }
            }
        }

        private int cellsNotJungle() {
            int cells = 0;
            for (int cell = 0; cell < CELLS; cell++) {
                if (kinds[cell] != JUNGLE) {
                    cells++;
                }
            }
            return cells;
        }

        private static int kindOfLetter(int sign) {
            switch (sign) {
                case 'o':
                    return 0;
                case 't':
                    return 1;
                case 'j':
                    return JUNGLE;
                case 'b':
                    return BAMBOO;
                case 'r':
                    return 4;
                case 's':
                    return STREAM;
                case 'p':
                    return 6;
                default:
                    return NONE;
            }
        }
    }

    /** The law as code for a stack: of each clause first its E, then its C. */
    private static final class Law {
        static final int TEXT = 240;
        static final int CLAUSES = 16;
        static final int NUMBER = 0;
        static final int LETTER = 1;
        static final int NOT = 2;
        static final int OR = 3;
        static final int AND = 4;
        private static final int LETTERS = 7;
        private static final int STACK = 40;

        private final int[] codes = new int[TEXT];
        private final int[] operands = new int[TEXT];
        int size;
        private final int[] letters = new int[CLAUSES];
        private final int[] begins = new int[CLAUSES];
        private final int[] middles = new int[CLAUSES];
        private final int[] ends = new int[CLAUSES];
        int clauses;

        private final int[] told = new int[LETTERS];
        private final int[] stack = new int[STACK];

        /** Which of the letters k, w, a, t, q, f, y a sign is, or NONE. */
        static int letterIndex(int sign) {
            switch (sign) {
                case 'k':
                    return 0;
                case 'w':
                    return 1;
                case 'a':
                    return 2;
                case 't':
                    return 3;
                case 'q':
                    return 4;
                case 'f':
                    return 5;
                case 'y':
                    return 6;
                default:
                    return NONE;
            }
        }

        void clear() {
            size = 0;
            clauses = 0;
        }

        /** Each code comes of a byte of its own, so there is always room. */
        int emit(int code, int operand) {
            if (size >= TEXT) {
                return NONE;
            }
            codes[size] = code;
            operands[size] = operand;
            size++;
            return size - 1;
        }

        void setOperand(int index, int operand) {
            if (index >= 0 && index < size && index < TEXT) {
                operands[index] = operand;
            }
        }

        void addClause(int letter, int begin, int middle) {
            if (clauses < CLAUSES) {
                letters[clauses] = letter;
                begins[clauses] = begin;
                middles[clauses] = middle;
                ends[clauses] = size;
                clauses++;
            }
        }

        void copyFrom(Law other) {
            System.arraycopy(other.codes, 0, codes, 0, TEXT);
            System.arraycopy(other.operands, 0, operands, 0, TEXT);
            System.arraycopy(other.letters, 0, letters, 0, CLAUSES);
            System.arraycopy(other.begins, 0, begins, 0, CLAUSES);
            System.arraycopy(other.middles, 0, middles, 0, CLAUSES);
            System.arraycopy(other.ends, 0, ends, 0, CLAUSES);
            size = other.size;
            clauses = other.clauses;
        }

        int cutting(int kind, int wide, int arm, int tired, int day) {
            say(kind, wide, arm, tired, 0, 0, day);
            return ask('c', 240);
        }

        int walking(int kind, int wide, int grown, int seen, int day) {
            say(kind, wide, 0, 0, grown, seen, day);
            return ask('v', 60);
        }

        int growing(int kind, int wide, int grown, int day) {
            say(kind, wide, 0, 0, grown, 0, day);
            return ask('g', 20);
        }

        int tiring(int kind, int arm, int tired, int day) {
            say(kind, 0, arm, tired, 0, 0, day);
            return ask('n', 20);
        }

        int resting(int arm, int tired, int day) {
            say(0, 0, arm, tired, 0, 0, day);
            return ask('e', 20);
        }

        int erring(int kind, int wide, int grown, int day) {
            say(kind, wide, 0, 0, grown, 0, day);
            return ask('d', 10);
        }

        private void say(int k, int w, int a, int t, int q, int f, int y) {
            told[0] = k;
            told[1] = w;
            told[2] = a;
            told[3] = t;
            told[4] = q;
            told[5] = f;
            told[6] = y;
        }

        private int ask(int letter, int most) {
            for (int i = 0; i < clauses && i < CLAUSES; i++) {
                if (letters[i] == letter && reckon(middles[i], ends[i]) != 0) {
                    return Math.max(0, Math.min(most, reckon(begins[i], middles[i])));
                }
            }
            return 0;
        }

        /** What an E is, or whether a C holds (1, 0); 0 where it is refused, for both. */
        private int reckon(int begin, int end) {
            int height = 0;
            int top = 0;
            int at = begin;
            // at only goes on, so there are no more rounds than codes
            for (int round = 0; round < TEXT && at >= 0 && at < end && at < TEXT; round++) {
                int code = codes[at];
                int operand = operands[at];
                at++;
                if (code == NUMBER || code == LETTER) {
                    if (height >= STACK || operand < 0 || code == LETTER && operand >= LETTERS) {
                        return 0;
                    }
                    stack[height] = top;
                    height++;
                    top = code == NUMBER ? operand : told[operand];
                } else if (code == NOT) {
                    top = top == 0 ? 1 : 0;
                } else if (code == OR && top != 0 || code == AND && top == 0) {
                    // what comes behind can't change it and is not asked
                    at = operand > at ? operand : at;
                } else if (height < 1 || top == 0 && (code == '/' || code == '%')) {
                    return 0;
                } else {
                    height--;
                    int left = stack[height];
                    switch (code) {
                        case '+':
                            top = left + top;
                            break;
                        case '-':
                            top = left - top;
                            break;
                        case '*':
                            top = left * top;
                            break;
                        case '/':
                            top = left / top;
                            break;
                        case '%':
                            top = left % top;
                            break;
                        case OR:
                        case AND:
                            top = left;
                            break;
                        default:
                            boolean holds = code == '<' ? left < top : code == '>' ? left > top : left == top;
                            top = holds ? 1 : 0;
                            break;
                    }
                }
            }
            return top;
        }
    }

    /** Reads a law; from its first fault on it sees nothing more, so that one stays the first. */
    private static final class LawReader {
        private static final int STOPPED = -2;
        private static final int DEEPEST = 6;
        private static final int DIGITS = 5;

        private final Law draft = new Law();
        private Tape text;
        private int at;
        private int fault;

        int readInto(Law law, Tape tape) {
            text = tape;
            at = 0;
            fault = 0;
            draft.clear();
            readClause();
            for (int more = 0; more < Law.TEXT && here() == ';'; more++) {
                at++;
                readClause();
            }
            if (here() != Tape.END) {
                fail(CANT_STAND);
            }
            if (fault < 0) {
                return fault;
            }
            law.copyFrom(draft);
            return law.clauses;
        }

        private int here() {
            return fault < 0 || text == null ? STOPPED : text.at(at);
        }

        private void fail(int number) {
            if (fault == 0) {
                fault = faultAt(number, at);
            }
        }

        private void expect(int sign) {
            if (here() == sign) {
                at++;
            } else {
                fail(CANT_STAND);
            }
        }

        private void readClause() {
            int letter = here();
            if (!isClauseLetter(letter)) {
                fail(CANT_STAND);
            } else if (draft.clauses >= Law.CLAUSES) {
                fail(TOO_MANY);
            } else {
                at++;
                int begin = draft.size;
                readSum(0);
                int middle = draft.size;
                expect('(');
                readChoice(1);
                expect(')');
                draft.addClause(letter, begin, middle);
            }
        }

        private void readChoice(int depth) {
            readAll(depth);
            for (int more = 0; more < Law.TEXT && here() == '|'; more++) {
                at++;
                int skip = draft.emit(Law.OR, 0);
                readAll(depth);
                draft.setOperand(skip, draft.size);
            }
        }

        private void readAll(int depth) {
            readTest(depth);
            for (int more = 0; more < Law.TEXT && here() == '&'; more++) {
                at++;
                int skip = draft.emit(Law.AND, 0);
                readTest(depth);
                draft.setOperand(skip, draft.size);
            }
        }

        private void readTest(int depth) {
            int sign = here();
            if (sign == '!') {
                if (opens(depth)) {
                    readTest(depth + 1);
                    draft.emit(Law.NOT, 0);
                }
            } else if (sign == '(') {
                if (opens(depth)) {
                    readChoice(depth + 1);
                    expect(')');
                }
            } else {
                readSum(depth);
                int comparison = here();
                if (comparison == '<' || comparison == '>' || comparison == '=') {
                    at++;
                    readSum(depth);
                    draft.emit(comparison, 0);
                } else {
                    fail(CANT_STAND);
                }
            }
        }

        private void readSum(int depth) {
            readProduct(depth);
            for (int more = 0; more < Law.TEXT && (here() == '+' || here() == '-'); more++) {
                int sign = here();
                at++;
                readProduct(depth);
                draft.emit(sign, 0);
            }
        }

        private void readProduct(int depth) {
            readFactor(depth);
            for (int more = 0; more < Law.TEXT && isProductSign(here()); more++) {
                int sign = here();
                at++;
                readFactor(depth);
                draft.emit(sign, 0);
            }
        }

        private void readFactor(int depth) {
            int sign = here();
            if (sign == '[') {
                if (opens(depth)) {
                    readSum(depth + 1);
                    expect(']');
                }
            } else if (Law.letterIndex(sign) >= 0) {
                draft.emit(Law.LETTER, Law.letterIndex(sign));
                at++;
            } else if (isDigit(sign)) {
                int value = 0;
                for (int digit = 0; digit < DIGITS && isDigit(here()); digit++) {
                    value = 10 * value + here() - '0';
                    at++;
                }
                if (isDigit(here())) {
                    fail(SIXTH_DIGIT);
                }
                draft.emit(Law.NUMBER, value);
            } else {
                fail(CANT_STAND);
            }
        }

        /** Goes behind a sign that opens, if one more may be open here. */
        private boolean opens(int depth) {
            if (depth >= DEEPEST) {
                fail(TOO_DEEP);
                return false;
            }
            at++;
            return true;
        }

        private static boolean isProductSign(int sign) {
            return sign == '*' || sign == '/' || sign == '%';
        }

        private static boolean isClauseLetter(int sign) {
            return sign == 'c' || sign == 'v' || sign == 'g' || sign == 'n' || sign == 'e' || sign == 'd';
        }
    }

    /** What is kept and undone: the people's tiredness, who is ahead, the path, the time, X. */
    private static final class Trip {
        static final int CELLS = 100;
        static final int OUTWARD = 1;
        static final int HOMEWARD = 2;
        private static final int ASTRAY = 30;

        private final Country country;
        private final Law law;
        private final int[] tired = new int[Country.PEOPLE];
        private final int[] cells = new int[CELLS];
        private final int[] widths = new int[CELLS];
        private final int[] grown = new int[CELLS];
        private final int[] marks = new int[CELLS];
        private final int[] sticks = new int[CELLS];
        private final int[] isCut = new int[Country.CELLS];
        int leader = LACKING;
        int length;
        int place;
        int minute;
        int day;
        int drawn = 1;

        Trip(Country country, Law law) {
            this.country = country;
            this.law = law;
            beginAt(0);
        }

        void copyFrom(Trip other) {
            System.arraycopy(other.tired, 0, tired, 0, Country.PEOPLE);
            System.arraycopy(other.cells, 0, cells, 0, CELLS);
            System.arraycopy(other.widths, 0, widths, 0, CELLS);
            System.arraycopy(other.grown, 0, grown, 0, CELLS);
            System.arraycopy(other.marks, 0, marks, 0, CELLS);
            System.arraycopy(other.sticks, 0, sticks, 0, CELLS);
            System.arraycopy(other.isCut, 0, isCut, 0, Country.CELLS);
            leader = other.leader;
            length = other.length;
            place = other.place;
            minute = other.minute;
            day = other.day;
            drawn = other.drawn;
        }

        void beginAt(int cell) {
            Arrays.fill(isCut, 0);
            length = 0;
            append(cell);
        }

        /** The cell comes behind, as wide as it is told now, and the party is there. */
        void append(int cell) {
            if (length < CELLS && Country.isCell(cell)) {
                cells[length] = cell;
                widths[length] = country.width;
                grown[length] = 0;
                marks[length] = 0;
                sticks[length] = 0;
                isCut[cell] = 1;
                place = length;
                length++;
            }
        }

        private boolean isPlace(int p) {
            return p >= 0 && p < length && p < CELLS;
        }

        int cellAt(int p) {
            return isPlace(p) ? cells[p] : NONE;
        }

        int grownAt(int p) {
            return isPlace(p) ? grown[p] : 0;
        }

        int widthAt(int p) {
            return isPlace(p) ? widths[p] : 0;
        }

        int marksAt(int p) {
            return isPlace(p) ? marks[p] : 0;
        }

        int sticksAt(int p) {
            return isPlace(p) ? sticks[p] : 0;
        }

        int kindAt(int p) {
            return country.kindAt(cellAt(p));
        }

        void setGrown(int p, int value) {
            if (isPlace(p)) {
                grown[p] = value;
            }
        }

        void putMark(int face) {
            if (isPlace(place)) {
                marks[place] |= face;
            }
        }

        void putStick() {
            if (isPlace(place)) {
                sticks[place] = 1;
            }
        }

        int tiredOf(int p) {
            return p >= 0 && p < Country.PEOPLE ? tired[p] : 0;
        }

        void setTired(int p, int value) {
            if (p >= 0 && p < Country.PEOPLE) {
                tired[p] = Math.max(0, Math.min(MOST_TIRED, value));
            }
        }

        void restAll() {
            Arrays.fill(tired, 0);
        }

        boolean isOnPath(int cell) {
            return Country.isCell(cell) && isCut[cell] != 0;
        }

        boolean isFork(int p) {
            boolean found = false;
            for (int way = 0; way < Country.WAYS && p > 0 && !found; way++) {
                int next = Country.neighbour(cellAt(p), way);
                found = next >= 0 && next != cellAt(p - 1) && next != cellAt(p + 1)
                        && (isOnPath(next) || country.looksLikeWay(next));
            }
            return found;
        }

        boolean isBlind(int p) {
            return isFork(p) && sticksAt(p) == 0 && (marksAt(p - 1) & HOMEWARD) == 0;
        }

        int wrongTenths(int p) {
            return law.erring(kindAt(p), widthAt(p), grownAt(p), day);
        }

        /** The minutes for walking onto a place, coming so that a face is seen. */
        int minutesOnto(int p, int face) {
            int seen = (marksAt(p) & face) != 0 ? 1 : 0;
            return law.walking(kindAt(p), widthAt(p), grownAt(p), seen, day);
        }

        int minutesBack() {
            int minutes = 0;
            for (int p = place - 1; p >= 0; p--) {
                minutes += minutesOnto(p, HOMEWARD);
            }
            return minutes;
        }

        int forksBack() {
            int forks = 0;
            for (int p = place; p > 0; p--) {
                forks += isFork(p) ? 1 : 0;
            }
            return forks;
        }

        int blindBack() {
            int blind = 0;
            for (int p = place; p > 0; p--) {
                blind += isBlind(p) ? 1 : 0;
            }
            return blind;
        }

        int firstBlindBack() {
            int first = LACKING;
            for (int p = place; p > 0 && first < 0; p--) {
                first = isBlind(p) ? p : LACKING;
            }
            return first;
        }

        int goHome() {
            int before = minute;
            boolean isDark = false;
            for (int p = place; p > 0 && !isDark; p--) {
                int minutes = minutesOnto(p - 1, HOMEWARD) + minutesAstray(p);
                isDark = minute + minutes > country.light;
                if (!isDark) {
                    minute += minutes;
                    place = p - 1;
                }
            }
            return minute - before;
        }

        private int minutesAstray(int p) {
            if (!isBlind(p)) {
                return 0;
            }
            drawn = (25173 * drawn + 13849) & 65535;
            return drawn % 10 < wrongTenths(p) ? ASTRAY : 0;
        }

        static boolean isSight(int sign) {
            return sign == 'm' || sign == 'f' || sign == '2' || sign == '.';
        }

        int sightAt(int p) {
            boolean isMarked = (marksAt(p) & HOMEWARD) != 0;
            if (isFork(p)) {
                return isMarked ? '2' : 'f';
            }
            return isMarked ? 'm' : '.';
        }
    }

    /** Orders, read into single acts, and done by a party. */
    private static final class Outing {
        static final int TEXT = 80;
        private static final int ACTS = 90;
        private static final int DEEPEST = 2;
        private static final int STOPPED = -2;

        private final Country country;
        private final Law law;
        private final int[] acts = new int[ACTS];
        private int size;
        private Tape text;
        private int at;
        private int fault;

        int cellsCut;
        int actsDone;
        boolean isDark;
        int turnActs;
        int turnMinutes;

        Outing(Country country, Law law) {
            this.country = country;
            this.law = law;
        }

        /** 0, or the fault. */
        int readActs(Tape tape) {
            text = tape;
            at = 0;
            fault = 0;
            size = 0;
            readRow(0);
            if (here() != Tape.END) {
                fail(CANT_STAND, at);
            }
            return fault;
        }

        private int here() {
            return fault < 0 || text == null ? STOPPED : text.at(at);
        }

        private void fail(int number, int place) {
            if (fault == 0) {
                fault = faultAt(number, place);
            }
        }

        private void readRow(int depth) {
            readAct(depth);
            for (int more = 0; more < TEXT && fault == 0 && here() != Tape.END && here() != ')'; more++) {
                readAct(depth);
            }
        }

        private void readAct(int depth) {
            int begin = at;
            int times = 1;
            if (here() >= '2' && here() <= '9') {
                times = here() - '0';
                at++;
            }
            int sign = here();
            if (sign == '(') {
                readGroup(begin, times, depth);
            } else if (isAct(sign)) {
                at++;
                int from = size;
                append(sign, begin);
                repeat(from, times, begin);
            } else {
                fail(CANT_STAND, at);
            }
        }

        private void readGroup(int begin, int times, int depth) {
            if (depth >= DEEPEST) {
                fail(TOO_DEEP, at);
                return;
            }
            at++;
            int from = size;
            readRow(depth + 1);
            if (here() == ')') {
                at++;
                repeat(from, times, begin);
            } else {
                fail(CANT_STAND, at);
            }
        }

        private void append(int act, int begin) {
            if (size >= ACTS) {
                fail(TOO_LONG, begin);
            } else {
                acts[size] = act;
                size++;
            }
        }

        /** Puts what stands from a place on so many times in all. */
        private void repeat(int from, int times, int begin) {
            int once = size - from;
            if (from + once * times > ACTS) {
                fail(TOO_LONG, begin);
            }
            for (int i = 0; i < once * (times - 1) && from >= 0 && from + i < size && fault == 0; i++) {
                append(acts[from + i], begin);
            }
        }

        private static boolean isAct(int sign) {
            return wayOf(sign) >= 0 || sign == '.' || sign == '+' || sign == 'o' || sign == 'b' || sign == 'x';
        }

        /** Does the acts till it is dark: the minutes that went by. */
        int perform(Trip trip) {
            int before = trip.minute;
            cellsCut = 0;
            actsDone = 0;
            isDark = false;
            for (int i = 0; i < size && i < ACTS && !isDark; i++) {
                doAct(trip, acts[i]);
            }
            return trip.minute - before;
        }

        /** Does the acts and notes the last of them behind which the way back is still light. */
        void findTurn(Trip trip) {
            int before = trip.minute;
            int back = trip.minutesBack();
            turnActs = LACKING;
            turnMinutes = LACKING;
            actsDone = 0;
            isDark = false;
            noteTurn(trip, before, back);
            for (int i = 0; i < size && i < ACTS && !isDark; i++) {
                int place = trip.place;
                doAct(trip, acts[i]);
                // marks change only where the party is, so the way back changes by one step alone
                if (trip.place > place) {
                    back += trip.minutesOnto(place, Trip.HOMEWARD);
                } else if (trip.place < place) {
                    back -= trip.minutesOnto(trip.place, Trip.HOMEWARD);
                }
                noteTurn(trip, before, back);
            }
        }

        private void noteTurn(Trip trip, int before, int back) {
            if (!isDark && trip.minute + back <= country.light) {
                turnActs = actsDone;
                turnMinutes = trip.minute - before + back;
            }
        }

        private static int wayOf(int act) {
            switch (act) {
                case 'n':
                    return 0;
                case 'e':
                    return 1;
                case 's':
                    return 2;
                case 'w':
                    return 3;
                default:
                    return NONE;
            }
        }

        private void doAct(Trip trip, int act) {
            switch (act) {
                case '.':
                    rest(trip);
                    break;
                case '+':
                    change(trip);
                    break;
                case 'o':
                    mark(trip, Trip.OUTWARD);
                    break;
                case 'b':
                    mark(trip, Trip.HOMEWARD);
                    break;
                case 'x':
                    lay(trip);
                    break;
                default:
                    goTo(trip, wayOf(act));
                    break;
            }
            if (!isDark) {
                actsDone++;
            }
        }

        /** Lets minutes go by, or it is dark and false. */
        private boolean spend(Trip trip, int minutes) {
            isDark = trip.minute + minutes > country.light;
            if (!isDark) {
                trip.minute += minutes;
            }
            return !isDark;
        }

        private void goTo(Trip trip, int way) {
            int place = trip.place;
            int cell = Country.neighbour(trip.cellAt(place), way);
            if (cell < 0) {
                return;
            }
            if (cell == trip.cellAt(place + 1)) {
                if (spend(trip, trip.minutesOnto(place + 1, Trip.OUTWARD))) {
                    trip.place = place + 1;
                }
            } else if (cell == trip.cellAt(place - 1)) {
                if (spend(trip, trip.minutesOnto(place - 1, Trip.HOMEWARD))) {
                    trip.place = place - 1;
                }
            } else if (canCut(trip, cell)) {
                int kind = country.kindAt(cell);
                int arm = country.armOf(trip.leader);
                int tired = trip.tiredOf(trip.leader);
                int more = law.tiring(kind, arm, tired, trip.day);
                if (spend(trip, law.cutting(kind, country.width, arm, tired, trip.day))) {
                    trip.setTired(trip.leader, tired + more);
                    trip.append(cell);
                    cellsCut++;
                }
            }
        }

        private boolean canCut(Trip trip, int cell) {
            return trip.place == trip.length - 1 && trip.length < Trip.CELLS && country.isTold(trip.leader)
                    && !country.isBarred(cell) && !trip.isOnPath(cell);
        }

        private void rest(Trip trip) {
            if (spend(trip, 10)) {
                for (int p = 0; p < Country.PEOPLE; p++) {
                    if (country.isTold(p)) {
                        int tired = trip.tiredOf(p);
                        trip.setTired(p, tired - law.resting(country.armOf(p), tired, trip.day));
                    }
                }
            }
        }

        private void change(Trip trip) {
            if (country.isTold(trip.leader) && spend(trip, 0)) {
                trip.leader = country.nextTold(trip.leader);
            }
        }

        private void mark(Trip trip, int face) {
            if ((trip.marksAt(trip.place) & face) == 0 && spend(trip, 2)) {
                trip.putMark(face);
            }
        }

        private void lay(Trip trip) {
            if (trip.sticksAt(trip.place) == 0 && spend(trip, 1)) {
                trip.putStick();
            }
        }
    }

    /** The soonest way by cutting, and the nearest stream. */
    private static final class Routes {
        private static final int UNREACHED = FAR;
        // one key for minutes and cells: more than the cells of any way, so minutes come first
        private static final int MINUTE = 256;

        private final Country country;
        private final Law law;
        private final int[] reach = new int[Country.CELLS];
        private final boolean[] isSettled = new boolean[Country.CELLS];
        private final int[] queue = new int[Country.CELLS];
        private final int[] costs = new int[Country.KINDS];

        Routes(Country country, Law law) {
            this.country = country;
            this.law = law;
        }

        int findSoonest(Trip trip, int from, int to, int what) {
            int leader = trip.leader;
            for (int kind = 0; kind < Country.KINDS; kind++) {
                int minutes = law.cutting(kind, country.width, country.armOf(leader), trip.tiredOf(leader), trip.day);
                costs[kind] = MINUTE * minutes + 1;
            }
            measureTo(to);
            int reached = reachOf(from);
            if (reached == UNREACHED) {
                return LACKING;
            }
            switch (what) {
                case 0:
                    return reached / MINUTE;
                case 1:
                    return reached % MINUTE;
                default:
                    return firstStep(from, reached);
            }
        }

        private int reachOf(int cell) {
            return Country.isCell(cell) ? reach[cell] : UNREACHED;
        }

        /** What it costs to come onto a cell and go on from there; UNREACHED where one can't. */
        private int reachBy(int cell) {
            int kind = country.kindAt(cell);
            if (country.isBarred(cell) || kind < 0 || kind >= Country.KINDS || reachOf(cell) == UNREACHED) {
                return UNREACHED;
            }
            return reachOf(cell) + costs[kind];
        }

        private void measureTo(int to) {
            Arrays.fill(reach, UNREACHED);
            for (int i = 0; i < Country.CELLS; i++) {
                isSettled[i] = false;
            }
            if (Country.isCell(to)) {
                reach[to] = 0;
            }
            for (int round = 0; round < Country.CELLS; round++) {
                int nearest = nearestOpen();
                if (nearest < 0) {
                    return;
                }
                settle(nearest);
            }
        }

        private int nearestOpen() {
            int nearest = NONE;
            int least = UNREACHED;
            for (int cell = 0; cell < Country.CELLS; cell++) {
                if (!isSettled[cell] && reach[cell] < least) {
                    least = reach[cell];
                    nearest = cell;
                }
            }
            return nearest;
        }

        private void settle(int cell) {
            if (!Country.isCell(cell)) {
                return;
            }
            isSettled[cell] = true;
            int by = reachBy(cell);
            for (int way = 0; way < Country.WAYS; way++) {
                int next = Country.neighbour(cell, way);
                if (Country.isCell(next) && !country.isBarred(next) && by < reach[next]) {
                    reach[next] = by;
                }
            }
        }

        private int firstStep(int from, int reached) {
            for (int way = 0; way < Country.WAYS; way++) {
                if (reachBy(Country.neighbour(from, way)) == reached) {
                    return way;
                }
            }
            return LACKING;
        }

        /** The stream with the fewest steps to it (stepsTo tells them), or NONE. */
        int nearestStream(int from) {
            countSteps(from);
            int best = NONE;
            int least = UNREACHED;
            for (int cell = 0; cell < Country.CELLS; cell++) {
                if (country.kindAt(cell) == Country.STREAM && reach[cell] < least) {
                    least = reach[cell];
                    best = cell;
                }
            }
            return best;
        }

        int stepsTo(int cell) {
            return reachOf(cell);
        }

        private void countSteps(int from) {
            Arrays.fill(reach, UNREACHED);
            int waiting = 0;
            if (Country.isCell(from)) {
                reach[from] = 0;
                queue[0] = from;
                waiting = 1;
            }
            for (int i = 0; i < waiting && i < Country.CELLS; i++) {
                int cell = queue[i];
                for (int way = 0; way < Country.WAYS; way++) {
                    int next = Country.neighbour(cell, way);
                    if (Country.isCell(next) && !country.isBarred(next) && reach[next] == UNREACHED
                            && waiting < Country.CELLS) {
                        reach[next] = reachOf(cell) + 1;
                        queue[waiting] = next;
                        waiting++;
                    }
                }
            }
        }
    }

    /** Who is ahead when, so that most yards are cut. */
    private static final class Shifts {
        static final int TURNS = 6;
        private static final int MEMBERS = 4;
        private static final int UNASKED = -100;
        private static final int TIREDS = MOST_TIRED + 1;

        private final Country country;
        private final Law law;
        private final int[] members = new int[MEMBERS];
        private int size;
        private final int[] tired = new int[(TURNS + 1) * MEMBERS];
        // what the law answered, ahead and behind, by member and tiredness: arms and day stay the same
        private final int[] changes = new int[2 * MEMBERS * TIREDS];
        private final int[] row = new int[TURNS];
        private final int[] bestRow = new int[TURNS];
        private int turns;
        private int mostYards;
        private int day;
        int bestYards;

        Shifts(Country country, Law law) {
            this.country = country;
            this.law = law;
        }

        /** False: not 1 to 4 people, or one of them is not told. */
        boolean choosePeople(int bits) {
            if (bits <= 0 || (bits & ~country.toldBits()) != 0 || Integer.bitCount(bits) > MEMBERS) {
                return false;
            }
            size = 0;
            for (int p = 0; p < Country.PEOPLE; p++) {
                if ((bits >> p & 1) != 0 && size < MEMBERS) {
                    members[size] = p;
                    size++;
                }
            }
            return true;
        }

        int whoIn(int turn) {
            return turn >= 0 && turn < turns && turn < TURNS ? memberAt(bestRow[turn]) : NONE;
        }

        private int memberAt(int member) {
            return member >= 0 && member < MEMBERS ? members[member] : NONE;
        }

        void findBest(Trip trip, int n) {
            turns = n;
            day = trip.day;
            bestYards = -1;
            mostYards = 0;
            Arrays.fill(changes, UNASKED);
            for (int i = 0; i < size && i < MEMBERS; i++) {
                tired[i] = trip.tiredOf(members[i]);
                mostYards = Math.max(mostYards, 10 * country.armOf(members[i]));
            }
            fillTurn(0, 0);
        }

        /** Rows come in their order, so of like ones the least is met first and stays. */
        private void fillTurn(int turn, int yards) {
            if (turn >= turns || turn >= TURNS) {
                noteRow(yards);
                return;
            }
            for (int i = 0; i < size; i++) {
                // what can't come above the best any more is left out
                if (yards + (turns - turn) * mostYards > bestYards) {
                    row[turn] = i;
                    int arm = country.armOf(memberAt(i));
                    int cut = Math.max(0, 10 * arm - tiredIn(turn, i));
                    passTurn(turn, i);
                    fillTurn(turn + 1, yards + cut);
                }
            }
        }

        private void noteRow(int yards) {
            if (yards > bestYards) {
                bestYards = yards;
                System.arraycopy(row, 0, bestRow, 0, TURNS);
            }
        }

        private int tiredIn(int turn, int member) {
            int index = MEMBERS * turn + member;
            return index >= 0 && index < tired.length ? tired[index] : 0;
        }

        private void passTurn(int turn, int leader) {
            for (int i = 0; i < size; i++) {
                int before = tiredIn(turn, i);
                int asked = TIREDS * (i == leader ? i : MEMBERS + i) + before;
                int after = MEMBERS * (turn + 1) + i;
                if (asked >= 0 && asked < changes.length && after >= 0 && after < tired.length) {
                    if (changes[asked] == UNASKED) {
                        int arm = country.armOf(memberAt(i));
                        changes[asked] = i == leader ? law.tiring(Country.JUNGLE, arm, before, day)
                                : -law.resting(arm, before, day);
                    }
                    tired[after] = Math.max(0, Math.min(MOST_TIRED, before + changes[asked]));
                }
            }
        }
    }

    /** In which order to go through the cells where a lost mark may be. */
    private static final class Search {
        static final int CELLS = 6;

        private final int[] cells = new int[CELLS];
        private final int[] weights = new int[CELLS];
        private int size;
        private final int[] row = new int[CELLS];
        private final int[] bestRow = new int[CELLS];
        int bestSum;

        /** False: a byte out of bounds. */
        boolean readCells(Tape text, int n) {
            size = 0;
            for (int i = 0; i < n && i < CELLS; i++) {
                int cell = text.at(2 * i);
                int weight = text.at(2 * i + 1);
                if (!Country.isCell(cell) || weight < 1 || weight > 9) {
                    return false;
                }
                cells[i] = cell;
                weights[i] = weight;
                size++;
            }
            return true;
        }

        void findBest(int from) {
            bestSum = FAR;
            goOn(0, 0, from, 0, 0);
        }

        int whichAt(int place) {
            return place >= 0 && place < size && place < CELLS ? bestRow[place] : NONE;
        }

        /** Rows come in their order, so of like ones the least is met first and stays. */
        private void goOn(int place, int been, int from, int steps, int sum) {
            if (sum >= bestSum) {
                return;
            }
            if (place >= size || place >= CELLS) {
                bestSum = sum;
                System.arraycopy(row, 0, bestRow, 0, CELLS);
                return;
            }
            for (int i = 0; i < size && i < CELLS; i++) {
                if ((been >> i & 1) == 0) {
                    row[place] = i;
                    int more = steps + stepsBetween(from, cells[i]);
                    goOn(place + 1, been | 1 << i, cells[i], more, sum + weights[i] * more);
                }
            }
        }

        private static int stepsBetween(int a, int b) {
            return Math.abs(a % Country.SIDE - b % Country.SIDE) + Math.abs(a / Country.SIDE - b / Country.SIDE);
        }
    }

    /** What grows by days: on the path, on one that is planned, on blazes that were found. */
    private static final class Overgrowth {
        static final int BLAZES = 8;
        private static final int LAST_DAY = 9999;
        private static final int BLAZE_DAYS = 60;
        private static final int WIDTHS = 4;
        private static final int SPACINGS = 6;
        private static final int GAINS = 32;
        private static final int STATES = Country.KINDS * WIDTHS * (MOST_GROWN + 1);

        private final Country country;
        private final Law law;
        // what the law answered for a kind, a width and a growth: GAINS times which day that was, and the gain
        private final int[] asked = new int[STATES];
        private int daysPassed;

        int planMinutes;
        int planWidth;
        int planSpacing;
        int planFace;

        private final int[] firsts = new int[BLAZES];
        private final int[] lasts = new int[BLAZES];
        private int size;

        Overgrowth(Country country, Law law) {
            this.country = country;
            this.law = law;
        }

        int passDays(Trip trip, int n) {
            int sum = 0;
            for (int i = 0; i < n && trip.day < LAST_DAY; i++) {
                daysPassed++;
                for (int p = 0; p < trip.length; p++) {
                    int before = trip.grownAt(p);
                    int after = Math.min(MOST_GROWN, before + gainOf(trip, p));
                    trip.setGrown(p, after);
                    sum += after - before;
                }
                trip.minute = 0;
                trip.restAll();
                trip.day++;
            }
            return sum;
        }

        private int gainOf(Trip trip, int p) {
            int kind = trip.kindAt(p);
            int wide = trip.widthAt(p);
            int grown = trip.grownAt(p);
            int index = (kind * WIDTHS + wide - 1) * (MOST_GROWN + 1) + grown;
            if (index < 0 || index >= STATES) {
                return 0;
            }
            if (asked[index] / GAINS != daysPassed) {
                asked[index] = GAINS * daysPassed + law.growing(kind, wide, grown, trip.day);
            }
            return asked[index] % GAINS;
        }

        void planPath(Trip trip, int kind, int cells, int days) {
            planMinutes = FAR;
            int leader = trip.leader;
            for (int wide = 1; wide <= WIDTHS; wide++) {
                int cut = law.cutting(kind, wide, country.armOf(leader), trip.tiredOf(leader), trip.day);
                int grown = 0;
                for (int i = 0; i < days; i++) {
                    grown = Math.min(MOST_GROWN, grown + law.growing(kind, wide, grown, trip.day + i));
                }
                int unseen = law.walking(kind, wide, grown, 0, trip.day + days);
                int seen = law.walking(kind, wide, grown, 1, trip.day + days);
                for (int spacing = 1; spacing <= SPACINGS; spacing++) {
                    int marks = (cells + spacing - 1) / spacing;
                    int plain = cells * (cut + unseen);
                    notePlan(plain + marks * (2 + seen - unseen), wide, spacing, Trip.HOMEWARD);
                    notePlan(plain, wide, spacing, 0);
                }
            }
        }

        private void notePlan(int minutes, int wide, int spacing, int face) {
            if (minutes < planMinutes) {
                planMinutes = minutes;
                planWidth = wide;
                planSpacing = spacing;
                planFace = face;
            }
        }

        /** False: a byte out of bounds. */
        boolean readBlazes(Tape text, int n, int day) {
            size = 0;
            for (int i = 0; i < n && i < BLAZES; i++) {
                int kind = text.at(4 * i);
                int wide = text.at(4 * i + 1);
                int from = text.at(4 * i + 2);
                int to = text.at(4 * i + 3);
                if (kind < 0 || kind >= Country.KINDS || wide < 1 || wide > WIDTHS
                        || from < 0 || from > to || to > MOST_GROWN) {
                    return false;
                }
                firsts[i] = LACKING;
                lasts[i] = LACKING;
                int grown = 0;
                for (int d = 0; d <= BLAZE_DAYS; d++) {
                    if (grown >= from && grown <= to) {
                        firsts[i] = firsts[i] < 0 ? d : firsts[i];
                        lasts[i] = d;
                    }
                    grown = Math.min(MOST_GROWN, grown + law.growing(kind, wide, grown, day));
                }
                size++;
            }
            return true;
        }

        int firstDayOf(int blaze) {
            return blaze >= 0 && blaze < size && blaze < BLAZES ? firsts[blaze] : LACKING;
        }

        int lastDayOf(int blaze) {
            return blaze >= 0 && blaze < size && blaze < BLAZES ? lasts[blaze] : LACKING;
        }

        /** The blaze whose last day comes first is cut then, with all that may have been cut that day. */
        int fewestDays() {
            int done = 0;
            int days = 0;
            for (int round = 0; round < size && done != (1 << size) - 1; round++) {
                int soonest = soonestLast(done);
                if (soonest < 0) {
                    return LACKING;
                }
                days++;
                for (int i = 0; i < size && i < BLAZES; i++) {
                    if (firsts[i] <= soonest && lasts[i] >= soonest) {
                        done |= 1 << i;
                    }
                }
            }
            return days;
        }

        private int soonestLast(int done) {
            int soonest = FAR;
            for (int i = 0; i < size && i < BLAZES; i++) {
                if ((done >> i & 1) == 0) {
                    soonest = Math.min(soonest, lasts[i]);
                }
            }
            return soonest;
        }
    }

    /** Paces round a thicket: where one may be at the end. */
    private static final class Legs {
        private static final int LEGS = 8;

        private int right;
        private int forward;
        private int slackRight;
        private int slackForward;

        /** 0, or the fault. */
        int readLegs(Tape text, int of) {
            right = 0;
            forward = 0;
            slackRight = 0;
            slackForward = 0;
            int at = 0;
            for (int leg = 0; leg <= LEGS && text.at(at) != Tape.END; leg++) {
                if (!isDigit(text.at(at))) {
                    return faultAt(CANT_STAND, at);
                }
                if (leg == LEGS) {
                    return faultAt(TOO_MANY, at);
                }
                int begin = at;
                int number = text.at(at) - '0';
                at++;
                if (isDigit(text.at(at))) {
                    number = 10 * number + text.at(at) - '0';
                    at++;
                }
                if (number == 0) {
                    return faultAt(NUMBER_ZERO, begin);
                }
                if (!addLeg(text.at(at), number, of < 1 ? 0 : number / of)) {
                    return faultAt(CANT_STAND, at);
                }
                at++;
            }
            return 0;
        }

        private boolean addLeg(int letter, int number, int slack) {
            switch (letter) {
                case 'l':
                case 'r':
                    right += letter == 'r' ? number : -number;
                    slackRight += slack;
                    return true;
                case 'f':
                case 'b':
                    forward += letter == 'f' ? number : -number;
                    slackForward += slack;
                    return true;
                default:
                    return false;
            }
        }

        int tellEnds(int what) {
            switch (what) {
                case 0:
                    return right - slackRight;
                case 1:
                    return right + slackRight;
                case 2:
                    return forward - slackForward;
                case 3:
                    return forward + slackForward;
                default:
                    return (2 * slackRight + 1) * (2 * slackForward + 1);
            }
        }
    }
}
