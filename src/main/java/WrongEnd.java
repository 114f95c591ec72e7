/**
 * The wrong end of the telescope: a fort that spies on one enemy by telescopes.
 * The words in capitals in the comments are those of the document (../shared/DOC.md).
 */
public final class WrongEnd {
    public static final int NONE = -1;

    private static final int UNKNOWN = -2;
    private static final int HOURS = 24;
    private static final int DIGITS = 10;
    private static final int MOST_CELLS = 16;
    private static final int MOST_SCOPES = 8;
    private static final int MOST_REPORTS = 10;
    private static final int MOST_STEPS = 20;
    private static final int MOST_TEXTS = 4;
    private static final int MOST_BYTES = 300;
    private static final int MOST_ACTS = 5;
    private static final int MOST_SEED = 9999;

    private final Fort fort;
    private final Fort kept;
    private final Tape tape;
    private final Reader reader;
    private final Program[] texts;
    private final Optics optics;
    private final Scales scales;

    public WrongEnd(int w, int h) {
        int wide = Math.max(1, Math.min(4, w));
        int high = Math.max(1, Math.min(4, h));
        fort = new Fort(wide, high);
        kept = new Fort(wide, high);
        tape = new Tape();
        reader = new Reader(tape);
        texts = new Program[MOST_TEXTS];
        for (int i = 0; i < MOST_TEXTS; i++) {
            texts[i] = new Program(MOST_BYTES);
        }
        optics = new Optics(fort, texts);
        scales = new Scales(fort, optics);
    }

    public boolean hill(int cell, int height) {
        if (!fort.hasCell(cell) || !isDigit(height)) {
            return false;
        }
        fort.hills[cell] = height;
        return true;
    }

    public int scope(int cell) {
        return fort.place(cell);
    }

    public boolean turn(int scope, boolean is) {
        return fort.change(scope, false, is);
    }

    public boolean lend(int scope, boolean is) {
        return fort.change(scope, true, is);
    }

    public int undo() {
        return fort.stepBack();
    }

    public int feed(int a, int b, int c, int d, int e) {
        if (!tape.hasRoom(20)) {
            return NONE;
        }
        tape.put(a);
        tape.put(b);
        tape.put(c);
        tape.put(d);
        tape.put(e);
        return tape.length;
    }

    public int end(int n) {
        if (n < 0 || n > tape.length) {
            return NONE;
        }
        tape.length = n;
        return n;
    }

    public int text() {
        if (fort.texts >= MOST_TEXTS) {
            return NONE;
        }
        boolean sound = reader.read();
        tape.length = 0;
        if (!sound) {
            return NONE;
        }
        texts[fort.texts].copy(reader.draft);
        fort.texts++;
        return fort.texts - 1;
    }

    public int fault(int what) {
        switch (what) {
            case 0:
                return reader.faultKind;
            case 1:
                return reader.faultPlace;
            default:
                return NONE;
        }
    }

    public boolean by(int text) {
        if (text != NONE && !fort.hasText(text)) {
            return false;
        }
        fort.ruling = text;
        return true;
    }

    public int prior(int state) {
        if (!fort.hasState(state)) {
            return NONE;
        }
        optics.face(state);
        return optics.tell(Name.PRIOR);
    }

    public int sees(int scope, boolean turned, int state, int hour, boolean slip) {
        if (!fort.hasScope(scope) || !fort.hasState(state) || !isHour(hour)) {
            return NONE;
        }
        optics.face(state);
        optics.aim(scope, fort.cells[scope], turned, hour);
        return slip ? optics.tell(Name.SLIP) : optics.tell(Name.SEES);
    }

    public int report(int scope, int hour, int tells) {
        return fort.write(scope, hour, tells);
    }

    public int forget() {
        int were = fort.reports;
        fort.reports = 0;
        return were;
    }

    public long weight(int state, int k) {
        if (!fort.hasState(state) || !fort.hasReports(k)) {
            return NONE;
        }
        return scales.weightAsOf(state, k);
    }

    public long odds(int k, int cell, int size, int paints, int what) {
        boolean known = fort.hasReports(k)
                && (cell == NONE || fort.hasCell(cell))
                && (size == NONE || size >= 1 && size <= 4)
                && (paints == NONE || paints == 0 || paints == 1)
                && (what == 0 || what == 1);
        if (!known) {
            return NONE;
        }
        long all = scales.weigh(k);
        if (all == 0) {
            return NONE;
        }
        long some = scales.weightOf(cell, size, paints);
        return inLowestTerms(what == 0 ? some : all, some, all);
    }

    public int likely(int k) {
        if (!fort.hasReports(k) || scales.weigh(k) == 0) {
            return NONE;
        }
        return scales.heaviest();
    }

    public long sure(int one, int other, int hour) {
        boolean alone = other == NONE;
        if (!isHour(hour) || !isFreeHold(one)) {
            return NONE;
        }
        if (!alone && (!isFreeHold(other) || one / 2 == other / 2)) {
            return NONE;
        }
        scales.weigh(fort.reports);
        scales.look(one, fort.cells[one / 2], hour);
        if (alone) {
            return scales.sureByOne(one);
        }
        scales.look(other, fort.cells[other / 2], hour);
        return scales.sureByTwo(one, other);
    }

    public int ask(int hour, boolean both, int what) {
        if (!isHour(hour) || what < 0 || what > (both ? 1 : 0)) {
            return NONE;
        }
        if (fort.countFree() < (both ? 2 : 1)) {
            return NONE;
        }
        scales.weigh(fort.reports);
        scales.lookAll(hour);
        return both ? scales.bestOfTwo(what) : scales.bestOfOne();
    }

    public int eighth(int hour) {
        if (!isHour(hour) || fort.scopes >= MOST_SCOPES) {
            return NONE;
        }
        scales.weigh(fort.reports);
        return scales.bestNewCell(hour);
    }

    public long does(int n, int what) {
        if (n < 1 || n > MOST_ACTS || what < 0 || what > 2) {
            return NONE;
        }
        long all = scales.weigh(fort.reports);
        if (all == 0) {
            return NONE;
        }
        int act = scales.cheapest(n);
        if (what == 0) {
            return act;
        }
        long cost = scales.costOf(act);
        return inLowestTerms(what == 1 ? cost : all, cost, all);
    }

    public int spied(int seed, int state, int hour, int n, int k) {
        if (seed < 0 || seed > MOST_SEED || !fort.hasState(state) || !isHour(hour)) {
            return NONE;
        }
        int free = fort.countFree();
        if (n < 1 || n > 10 || k < 0 || k >= n * free) {
            return NONE;
        }
        // X is looked at first and drawn anew then, once for each report: so k times ahead of this one.
        int draw = seed * 3 + 1;
        for (int i = 0; i < k; i++) {
            draw = (draw * 179 + 83) % 30071;
        }
        int scope = fort.freeScope(k % free);
        if (scope == NONE) {
            return NONE;
        }
        optics.face(state);
        optics.aim(scope, fort.cells[scope], fort.turned[scope], (hour + k / free) % HOURS);
        int seen = optics.tell(Name.SEES);
        return draw % 10 < optics.tell(Name.SLIP) ? oneMore(seen) : seen;
    }

    public int image() {
        kept.copy(fort);
        return fort.reports;
    }

    public int back() {
        fort.copy(kept);
        return fort.reports;
    }

    public int about(int what) {
        switch (what) {
            case 0:
                return fort.wide;
            case 1:
                return fort.high;
            case 2:
                return fort.scopes;
            case 3:
                return fort.texts;
            case 4:
                return fort.ruling;
            case 5:
                return fort.reports;
            case 6:
                return fort.steps;
            case 7:
                return tape.length;
            default:
                return fort.tellOne(what);
        }
    }

    private boolean isFreeHold(int hold) {
        return hold >= 0 && fort.isFree(hold / 2);
    }

    private static boolean isHour(int hour) {
        return hour >= 0 && hour < HOURS;
    }

    private static boolean isDigit(int number) {
        return number >= 0 && number < DIGITS;
    }

    /** What a TELESCOPE tells by a slip in place of what it sees. */
    private static int oneMore(int seen) {
        return (seen + 1) % DIGITS;
    }

    /** One of the two numbers, once what is common to upper and lower is taken out. */
    private static long inLowestTerms(long number, long upper, long lower) {
        long common = upper;
        long rest = lower;
        // Euclid's steps on two longs are fewer than a hundred.
        for (int i = 0; i < 100 && rest != 0; i++) {
            long next = common % rest;
            common = rest;
            rest = next;
        }
        return common > 0 ? number / common : number;
    }

    /** All that an IMAGE holds. The texts' programs need no copy: those that it counts are never written over. */
    private static final class Fort {
        final int wide;
        final int high;
        final int[] hills = new int[MOST_CELLS];
        final int[] cells = new int[MOST_SCOPES];
        final boolean[] turned = new boolean[MOST_SCOPES];
        final boolean[] lent = new boolean[MOST_SCOPES];
        final int[] reporters = new int[MOST_REPORTS];
        final boolean[] heldTurned = new boolean[MOST_REPORTS];
        final int[] hours = new int[MOST_REPORTS];
        final int[] told = new int[MOST_REPORTS];
        final int[] stepScopes = new int[MOST_STEPS];
        final boolean[] stepLends = new boolean[MOST_STEPS];
        int scopes = 0;
        int reports = 0;
        int steps = 0;
        int texts = 0;
        int ruling = NONE;

        Fort(int wide, int high) {
            this.wide = wide;
            this.high = high;
        }

        boolean hasCell(int cell) {
            return cell >= 0 && cell < countCells();
        }

        boolean hasScope(int number) {
            return number >= 0 && number < scopes;
        }

        boolean isFree(int number) {
            return hasScope(number) && !lent[number];
        }

        boolean hasState(int state) {
            return state >= 0 && state < countStates();
        }

        boolean hasReports(int k) {
            return k >= 0 && k <= reports;
        }

        boolean hasText(int number) {
            return number >= 0 && number < texts;
        }

        int countCells() {
            return wide * high;
        }

        int countStates() {
            return 8 * countCells();
        }

        int countFree() {
            int free = 0;
            for (int i = 0; i < scopes; i++) {
                if (!lent[i]) {
                    free++;
                }
            }
            return free;
        }

        /** The TELESCOPE with so many free ones below it. */
        int freeScope(int below) {
            int passed = 0;
            for (int i = 0; i < scopes; i++) {
                if (!lent[i]) {
                    if (passed == below) {
                        return i;
                    }
                    passed++;
                }
            }
            return NONE;
        }

        int place(int cell) {
            if (!hasCell(cell) || scopes >= MOST_SCOPES) {
                return NONE;
            }
            cells[scopes] = cell;
            turned[scopes] = false;
            lent[scopes] = false;
            scopes++;
            return scopes - 1;
        }

        boolean change(int scope, boolean lends, boolean is) {
            if (!hasScope(scope)) {
                return false;
            }
            boolean[] row = lends ? lent : turned;
            if (row[scope] != is) {
                row[scope] = is;
                addStep(scope, lends);
            }
            return true;
        }

        private void addStep(int scope, boolean lends) {
            if (steps >= MOST_STEPS) {
                dropOldestStep();
            }
            stepScopes[steps] = scope;
            stepLends[steps] = lends;
            steps++;
        }

        private void dropOldestStep() {
            for (int i = 1; i < MOST_STEPS; i++) {
                stepScopes[i - 1] = stepScopes[i];
                stepLends[i - 1] = stepLends[i];
            }
            steps = MOST_STEPS - 1;
        }

        int stepBack() {
            if (steps <= 0) {
                return NONE;
            }
            steps--;
            int scope = stepScopes[steps];
            boolean[] row = stepLends[steps] ? lent : turned;
            row[scope] = !row[scope];
            return scope;
        }

        int write(int scope, int hour, int tells) {
            if (!isFree(scope) || !isHour(hour) || !isDigit(tells) || reports >= MOST_REPORTS) {
                return NONE;
            }
            reporters[reports] = scope;
            heldTurned[reports] = turned[scope];
            hours[reports] = hour;
            told[reports] = tells;
            reports++;
            return reports;
        }

        /** The part of about that is numbered: HILLS from 10, TELESCOPES from 30, REPORTS from 40. */
        int tellOne(int what) {
            if (hasCell(what - 10)) {
                return hills[what - 10];
            }
            if (hasScope(what - 30)) {
                int scope = what - 30;
                return 100 * cells[scope] + (turned[scope] ? 10 : 0) + (lent[scope] ? 1 : 0);
            }
            if (what >= 40 && what - 40 < reports) {
                int one = what - 40;
                return 1000 * reporters[one] + (heldTurned[one] ? 500 : 0) + 10 * hours[one] + told[one];
            }
            return UNKNOWN;
        }

        void copy(Fort other) {
            System.arraycopy(other.hills, 0, hills, 0, MOST_CELLS);
            System.arraycopy(other.cells, 0, cells, 0, MOST_SCOPES);
            copyRow(other.turned, turned);
            copyRow(other.lent, lent);
            System.arraycopy(other.reporters, 0, reporters, 0, MOST_REPORTS);
            copyRow(other.heldTurned, heldTurned);
            System.arraycopy(other.hours, 0, hours, 0, MOST_REPORTS);
            System.arraycopy(other.told, 0, told, 0, MOST_REPORTS);
            System.arraycopy(other.stepScopes, 0, stepScopes, 0, MOST_STEPS);
            copyRow(other.stepLends, stepLends);
            scopes = other.scopes;
            reports = other.reports;
            steps = other.steps;
            texts = other.texts;
            ruling = other.ruling;
        }

        private static void copyRow(boolean[] from, boolean[] to) {
            for (int i = 0; i < from.length && i < to.length; i++) {
                to[i] = from[i];
            }
        }
    }

    /** The bytes that have come for the next text. */
    private static final class Tape {
        private final int[] bytes = new int[MOST_BYTES];
        int length = 0;

        boolean hasRoom(int more) {
            return length + more <= MOST_BYTES;
        }

        void put(int four) {
            if (!hasRoom(4)) {
                return;
            }
            for (int shift = 24; shift >= 0; shift -= 8) {
                bytes[length] = four >>> shift & 255;
                length++;
            }
        }

        /** The byte at a place, or NONE behind the last. */
        int at(int place) {
            return place >= 0 && place < length ? bytes[place] : NONE;
        }
    }

    /** The kinds of TOKENS; most of them are the machine's orders too. */
    private static final class Sign {
        static final int FINISH = 0;
        static final int STRANGE = 1;
        static final int NUMBER = 2;
        static final int NAME = 3;
        static final int CLAUSE = 4;
        static final int IF = 5;
        static final int END = 6;
        static final int OR = 7;
        static final int AND = 8;
        static final int NOT = 9;
        static final int LESS_OR_LIKE = 10;
        static final int MORE_OR_LIKE = 11;
        static final int LESS = 12;
        static final int MORE = 13;
        static final int LIKE = 14;
        static final int UNLIKE = 15;
        static final int PLUS = 16;
        static final int MINUS = 17;
        static final int TIMES = 18;
        static final int OVER = 19;
        static final int OPEN = 20;
        static final int CLOSE = 21;
        static final int SEMICOLON = 22;
        static final int QUESTION = 23;
        static final int COLON = 24;
        // Orders alone: the sign of a ONE turned round, a leap if a question fails, a leap always.
        static final int NEGATE = 25;
        static final int UNLESS = 26;
        static final int LEAP = 27;
        static final int KINDS = 32;

        /** The marks of one byte in the order of their kinds, from LESS on. */
        static final String MARKS = "<>=#+-*/();?:";
        /** Each word has a blank behind it; the clauses come first, then IF to NOT, then the names. */
        static final String WORDS =
                "prior sees slip cost if end or and not x y size paints hill hour scope turned far act ";
        static final int FIRST_PLAIN_WORD = 4;
        static final int FIRST_NAME = 9;
        static final int MOST_NUMBER = 9999;
    }

    /** The numbers of the CLAUSES and of the NAMES, in the order of Sign.WORDS. */
    private static final class Name {
        static final int PRIOR = 0;
        static final int SEES = 1;
        static final int SLIP = 2;
        static final int COST = 3;
        static final int CLAUSES = 4;

        static final int X = 0;
        static final int Y = 1;
        static final int SIZE = 2;
        static final int PAINTS = 3;
        static final int HILL = 4;
        static final int HOUR = 5;
        static final int SCOPE = 6;
        static final int TURNED = 7;
        static final int FAR = 8;
        static final int ACT = 9;
        static final int NAMES = 10;

        static boolean isOf(int name, int clause) {
            if (name <= HILL) {
                return true;
            }
            return name == ACT ? clause == COST : clause == SEES || clause == SLIP;
        }
    }

    /** A TEXT as orders for the machine, what is worked on ahead of what is done with it. */
    private static final class Program {
        private final int[] orders;
        private final int[] starts = new int[Name.CLAUSES];
        private final int[] stops = new int[Name.CLAUSES];
        int size = 0;

        Program(int room) {
            orders = new int[Math.max(0, room)];
            clear();
        }

        void clear() {
            size = 0;
            for (int i = 0; i < Name.CLAUSES; i++) {
                starts[i] = NONE;
            }
        }

        boolean has(int clause) {
            return clause >= 0 && clause < Name.CLAUSES && starts[clause] != NONE;
        }

        void open(int clause) {
            if (clause >= 0 && clause < Name.CLAUSES) {
                starts[clause] = size;
                stops[clause] = size;
            }
        }

        void close(int clause) {
            if (has(clause)) {
                stops[clause] = size;
            }
        }

        /** One order more: its place. */
        int add(int kind, int value) {
            if (size < orders.length) {
                orders[size] = kind + Sign.KINDS * value;
                size++;
            }
            return size - 1;
        }

        /** The leap at a place goes to what comes next. */
        void landHere(int place) {
            if (place >= 0 && place < size) {
                orders[place] = orders[place] % Sign.KINDS + Sign.KINDS * size;
            }
        }

        int start(int clause) {
            return has(clause) ? starts[clause] : 0;
        }

        int stop(int clause) {
            return has(clause) ? stops[clause] : 0;
        }

        /** The order's kind, and Sign.KINDS times its value. */
        int orderAt(int place) {
            return place >= 0 && place < size && place < orders.length ? orders[place] : 0;
        }

        void copy(Program other) {
            int room = Math.min(orders.length, other.orders.length);
            System.arraycopy(other.orders, 0, orders, 0, room);
            System.arraycopy(other.starts, 0, starts, 0, Name.CLAUSES);
            System.arraycopy(other.stops, 0, stops, 0, Name.CLAUSES);
            size = other.size;
        }
    }

    /** The tape's TOKENS, one behind the other; behind the last there is FINISH, at the tape's length. */
    private static final class Tokens {
        private final Tape tape;
        private final int[] kinds = new int[MOST_BYTES];
        private final int[] values = new int[MOST_BYTES];
        private final int[] places = new int[MOST_BYTES];
        private int count = 0;
        private int next = 0;

        Tokens(Tape tape) {
            this.tape = tape;
        }

        int kindAt(int number) {
            return number >= 0 && number < count ? kinds[number] : Sign.FINISH;
        }

        int valueAt(int number) {
            return number >= 0 && number < count ? values[number] : 0;
        }

        int placeAt(int number) {
            return number >= 0 && number < count ? places[number] : tape.length;
        }

        void split() {
            count = 0;
            next = 0;
            for (int i = 0; i < MOST_BYTES && next < tape.length; i++) {
                int first = tape.at(next);
                if (isBlank(first)) {
                    next++;
                } else if (isLetter(first)) {
                    splitWord();
                } else if (isFigure(first)) {
                    splitNumber();
                } else {
                    splitMark(first);
                }
            }
        }

        private void add(int kind, int value, int place) {
            if (count < kinds.length) {
                kinds[count] = kind;
                values[count] = value;
                places[count] = place;
                count++;
            }
        }

        private void splitWord() {
            int place = next;
            for (int i = 0; i < MOST_BYTES && isLetter(tape.at(next)); i++) {
                next++;
            }
            int word = wordNumber(place, next - place);
            if (word == NONE) {
                add(Sign.STRANGE, 0, place);
            } else if (word < Sign.FIRST_PLAIN_WORD) {
                add(Sign.CLAUSE, word, place);
            } else if (word < Sign.FIRST_NAME) {
                add(Sign.IF + word - Sign.FIRST_PLAIN_WORD, 0, place);
            } else {
                add(Sign.NAME, word - Sign.FIRST_NAME, place);
            }
        }

        /** Which of Sign.WORDS stands at a place, so many letters long. */
        private int wordNumber(int place, int letters) {
            int word = 0;
            int alike = 0;
            for (int i = 0; i < Sign.WORDS.length(); i++) {
                char letter = Sign.WORDS.charAt(i);
                if (letter == ' ') {
                    if (alike == letters) {
                        return word;
                    }
                    word++;
                    alike = 0;
                } else if (alike >= 0 && alike < letters && tape.at(place + alike) == letter) {
                    alike++;
                } else {
                    alike = NONE;
                }
            }
            return NONE;
        }

        private void splitNumber() {
            int place = next;
            int value = 0;
            for (int i = 0; i < MOST_BYTES && isFigure(tape.at(next)); i++) {
                // What is too much stays so, however many figures follow.
                value = Math.min(Sign.MOST_NUMBER + 1, 10 * value + tape.at(next) - '0');
                next++;
            }
            add(Sign.NUMBER, value, place);
        }

        private void splitMark(int first) {
            int mark = Sign.MARKS.indexOf((char) first);
            if (mark == NONE) {
                add(Sign.STRANGE, 0, next);
                next++;
                return;
            }
            int kind = Sign.LESS + mark;
            if (kind <= Sign.MORE && tape.at(next + 1) == '=') {
                add(kind == Sign.LESS ? Sign.LESS_OR_LIKE : Sign.MORE_OR_LIKE, 0, next);
                next += 2;
                return;
            }
            add(kind, 0, next);
            next++;
        }

        private static boolean isBlank(int sign) {
            return sign == 32 || sign == 10;
        }

        private static boolean isLetter(int sign) {
            return sign >= 'a' && sign <= 'z' || sign >= 'A' && sign <= 'Z';
        }

        private static boolean isFigure(int sign) {
            return sign >= '0' && sign <= '9';
        }
    }

    /**
     * Reads the tape into the draft. After a FAULT the token is STRANGE for good, which nothing takes:
     * so each method comes to its end by itself, and only the first FAULT is kept.
     */
    private static final class Reader {
        private static final int MOST_OPEN = 8;

        final Program draft = new Program(MOST_BYTES);
        int faultKind = NONE;
        int faultPlace = NONE;
        private final Tokens tokens;
        private int at = 0;
        private int kind = Sign.FINISH;
        private int value = 0;
        private int clause = 0;

        Reader(Tape tape) {
            tokens = new Tokens(tape);
        }

        /** True if there is no FAULT. */
        boolean read() {
            faultKind = 0;
            faultPlace = NONE;
            draft.clear();
            tokens.split();
            at = NONE;
            advance();
            for (int i = 0; i < MOST_BYTES && kind == Sign.CLAUSE; i++) {
                readClause();
            }
            if (kind != Sign.FINISH) {
                refuse(1);
            }
            return faultKind == 0;
        }

        private void readClause() {
            if (draft.has(value)) {
                refuse(4);
                return;
            }
            clause = value;
            draft.open(clause);
            advance();
            readSum(0);
            expect(Sign.SEMICOLON);
            draft.close(clause);
        }

        private void readSum(int open) {
            readProduct(open);
            for (int i = 0; i < MOST_BYTES && (kind == Sign.PLUS || kind == Sign.MINUS); i++) {
                int order = kind;
                advance();
                readProduct(open);
                draft.add(order, 0);
            }
        }

        private void readProduct(int open) {
            readOne(open);
            for (int i = 0; i < MOST_BYTES && (kind == Sign.TIMES || kind == Sign.OVER); i++) {
                int order = kind;
                advance();
                readOne(open);
                draft.add(order, 0);
            }
        }

        private void readOne(int open) {
            switch (kind) {
                case Sign.NUMBER:
                    takeNumber();
                    break;
                case Sign.NAME:
                    takeName();
                    break;
                case Sign.OPEN:
                    if (enters(open)) {
                        readSum(open + 1);
                        expect(Sign.CLOSE);
                    }
                    break;
                case Sign.MINUS:
                    if (enters(open)) {
                        readOne(open + 1);
                        draft.add(Sign.NEGATE, 0);
                    }
                    break;
                case Sign.IF:
                    if (enters(open)) {
                        readChoice(open + 1);
                    }
                    break;
                default:
                    refuse(1);
            }
        }

        private void takeNumber() {
            if (value > Sign.MOST_NUMBER) {
                refuse(2);
                return;
            }
            draft.add(Sign.NUMBER, value);
            advance();
        }

        private void takeName() {
            if (!Name.isOf(value, clause)) {
                refuse(5);
                return;
            }
            draft.add(Sign.NAME, value);
            advance();
        }

        /** Goes past what opens one more level, unless there are as many as there may be. */
        private boolean enters(int open) {
            if (open >= MOST_OPEN) {
                refuse(3);
                return false;
            }
            advance();
            return true;
        }

        private void readChoice(int open) {
            readEither(open);
            expect(Sign.QUESTION);
            int unless = draft.add(Sign.UNLESS, 0);
            readSum(open);
            expect(Sign.COLON);
            int leap = draft.add(Sign.LEAP, 0);
            draft.landHere(unless);
            readSum(open);
            expect(Sign.END);
            draft.landHere(leap);
        }

        private void readEither(int open) {
            readBoth(open);
            for (int i = 0; i < MOST_BYTES && kind == Sign.OR; i++) {
                advance();
                readBoth(open);
                draft.add(Sign.OR, 0);
            }
        }

        private void readBoth(int open) {
            readAsk(open);
            for (int i = 0; i < MOST_BYTES && kind == Sign.AND; i++) {
                advance();
                readAsk(open);
                draft.add(Sign.AND, 0);
            }
        }

        private void readAsk(int open) {
            if (kind == Sign.NOT) {
                if (enters(open)) {
                    readAsk(open + 1);
                    draft.add(Sign.NOT, 0);
                }
                return;
            }
            readSum(open);
            if (kind < Sign.LESS_OR_LIKE || kind > Sign.UNLIKE) {
                refuse(1);
                return;
            }
            int order = kind;
            advance();
            readSum(open);
            draft.add(order, 0);
        }

        private void expect(int wanted) {
            if (kind == wanted) {
                advance();
            } else {
                refuse(1);
            }
        }

        private void refuse(int fault) {
            if (faultKind == 0) {
                faultKind = fault;
                faultPlace = tokens.placeAt(at);
            }
            kind = Sign.STRANGE;
        }

        private void advance() {
            at++;
            kind = tokens.kindAt(at);
            value = tokens.valueAt(at);
        }
    }

    /** Works a clause of a program, by a pile of numbers. */
    private static final class Machine {
        private static final int MOST = 1000000;
        // Eight levels leave at most five numbers each on the pile.
        private static final int PILE = 64;

        final int[] names = new int[Name.NAMES];
        private final int[] pile = new int[PILE];
        private int top = 0;

        int work(Program program, int clause) {
            top = 0;
            int stop = program.stop(clause);
            for (int at = program.start(clause); at < stop; at++) {
                int order = program.orderAt(at);
                int value = order / Sign.KINDS;
                switch (order % Sign.KINDS) {
                    case Sign.NUMBER:
                        push(value);
                        break;
                    case Sign.NAME:
                        push(value >= 0 && value < Name.NAMES ? names[value] : 0);
                        break;
                    case Sign.UNLESS:
                        if (pop() == 0) {
                            at = Math.max(at, value - 1);
                        }
                        break;
                    case Sign.LEAP:
                        at = Math.max(at, value - 1);
                        break;
                    case Sign.NOT:
                        push(1 - pop());
                        break;
                    case Sign.NEGATE:
                        push(-pop());
                        break;
                    default:
                        int right = pop();
                        push(bounded(joined(order % Sign.KINDS, pop(), right)));
                }
            }
            return pop();
        }

        private void push(int number) {
            if (top < PILE) {
                pile[top] = number;
                top++;
            }
        }

        private int pop() {
            if (top <= 0) {
                return 0;
            }
            top--;
            return pile[top];
        }

        /** What two numbers come to; of a question 1 or 0. */
        private static long joined(int kind, int left, int right) {
            switch (kind) {
                case Sign.PLUS:
                    return (long) left + right;
                case Sign.MINUS:
                    return (long) left - right;
                case Sign.TIMES:
                    return (long) left * right;
                case Sign.OVER:
                    return right == 0 ? 0 : left / right;
                case Sign.LESS:
                    return left < right ? 1 : 0;
                case Sign.LESS_OR_LIKE:
                    return left <= right ? 1 : 0;
                case Sign.MORE:
                    return left > right ? 1 : 0;
                case Sign.MORE_OR_LIKE:
                    return left >= right ? 1 : 0;
                case Sign.LIKE:
                    return left == right ? 1 : 0;
                case Sign.UNLIKE:
                    return left != right ? 1 : 0;
                case Sign.OR:
                    return left + right > 0 ? 1 : 0;
                default:
                    return left + right > 1 ? 1 : 0;
            }
        }

        private static int bounded(long number) {
            return (int) Math.max(-MOST, Math.min(MOST, number));
        }
    }

    /** What THE TEXT says of the STATE that is faced and the TELESCOPE that is aimed at it. */
    private static final class Optics {
        /** What each CLAUSE comes to at most. */
        private static final int[] MOST = {99, 9, 9, 999};

        private final Fort fort;
        private final Program[] texts;
        private final Program blank = new Program(0);
        private final Machine machine = new Machine();

        Optics(Fort fort, Program[] texts) {
            this.fort = fort;
            this.texts = texts;
        }

        void face(int state) {
            int cell = state / 8;
            int[] names = machine.names;
            names[Name.X] = cell % fort.wide;
            names[Name.Y] = cell / fort.wide;
            names[Name.SIZE] = state % 8 / 2 + 1;
            names[Name.PAINTS] = state % 2;
            names[Name.HILL] = fort.hasCell(cell) ? fort.hills[cell] : 0;
        }

        /** The STATE must be faced first: far is told from it. */
        void aim(int number, int cell, boolean turned, int hour) {
            int[] names = machine.names;
            names[Name.HOUR] = hour;
            names[Name.SCOPE] = number;
            names[Name.TURNED] = turned ? 1 : 0;
            names[Name.FAR] = Math.abs(names[Name.X] - cell % fort.wide)
                    + Math.abs(names[Name.Y] - cell / fort.wide);
        }

        void choose(int act) {
            machine.names[Name.ACT] = act;
        }

        /** What a CLAUSE comes to: the STATE must be faced and, as it needs them, the TELESCOPE aimed or the ACT chosen. */
        int tell(int clause) {
            Program program = fort.hasText(fort.ruling) ? texts[fort.ruling] : blank;
            if (!program.has(clause)) {
                return without(clause);
            }
            return Math.max(0, Math.min(MOST[clause], machine.work(program, clause)));
        }

        private int without(int clause) {
            switch (clause) {
                case Name.PRIOR:
                    return 1;
                case Name.SEES:
                    return machine.names[Name.TURNED] == 1 ? 0 : machine.names[Name.SIZE];
                default:
                    return 0;
            }
        }
    }

    /** WEIGHTS of all STATES, and what follows from them. A hold is 2 times a TELESCOPE, 1 more if TURNED. */
    private static final class Scales {
        private static final int HOLDS = 2 * MOST_SCOPES;

        private final Fort fort;
        private final Optics optics;
        private final int states;
        private final long[] weights;
        /** By hold and STATE: 10 times what is seen, and the SLIP. */
        private final int[][] views;
        /** By what is told: the greatest WEIGHT. */
        private final long[] greatest = new long[DIGITS * DIGITS];

        Scales(Fort fort, Optics optics) {
            this.fort = fort;
            this.optics = optics;
            states = fort.countStates();
            weights = new long[states];
            views = new int[HOLDS][states];
        }

        long weightAsOf(int state, int k) {
            optics.face(state);
            long weight = optics.tell(Name.PRIOR);
            for (int i = 0; i < k && i < MOST_REPORTS && weight != 0; i++) {
                weight *= share(i);
            }
            return weight;
        }

        /** How many times of 10 the faced STATE would make for this REPORT. */
        private int share(int report) {
            int scope = fort.reporters[report];
            optics.aim(scope, fort.cells[scope], fort.heldTurned[report], fort.hours[report]);
            int seen = optics.tell(Name.SEES);
            int told = fort.told[report];
            if (told == seen) {
                return 10 - optics.tell(Name.SLIP);
            }
            return told == oneMore(seen) ? optics.tell(Name.SLIP) : 0;
        }

        /** Weighs all STATES AS OF k REPORTS, for the methods below: what they weigh together. */
        long weigh(int k) {
            long all = 0;
            for (int state = 0; state < states; state++) {
                weights[state] = weightAsOf(state, k);
                all += weights[state];
            }
            return all;
        }

        long weightOf(int cell, int size, int paints) {
            long some = 0;
            for (int state = 0; state < states; state++) {
                boolean asked = (cell == NONE || cell == state / 8)
                        && (size == NONE || size == state % 8 / 2 + 1)
                        && (paints == NONE || paints == state % 2);
                if (asked) {
                    some += weights[state];
                }
            }
            return some;
        }

        int heaviest() {
            int best = 0;
            for (int state = 1; state < states; state++) {
                if (weights[state] > weights[best]) {
                    best = state;
                }
            }
            return best;
        }

        int cheapest(int acts) {
            int best = 0;
            long least = costOf(0);
            for (int act = 1; act < acts; act++) {
                long cost = costOf(act);
                if (cost < least) {
                    best = act;
                    least = cost;
                }
            }
            return best;
        }

        long costOf(int act) {
            long cost = 0;
            optics.choose(act);
            for (int state = 0; state < states; state++) {
                if (weights[state] != 0) {
                    optics.face(state);
                    cost += weights[state] * optics.tell(Name.COST);
                }
            }
            return cost;
        }

        void lookAll(int hour) {
            for (int hold = 0; hold < HOLDS; hold++) {
                if (fort.isFree(hold / 2)) {
                    look(hold, fort.cells[hold / 2], hour);
                }
            }
        }

        /** What this hold would see from a cell; STATES without WEIGHT are passed over here and below. */
        void look(int hold, int cell, int hour) {
            for (int state = 0; state < states; state++) {
                if (weights[state] != 0) {
                    optics.face(state);
                    optics.aim(hold / 2, cell, hold % 2 == 1, hour);
                    views[hold][state] = 10 * optics.tell(Name.SEES) + optics.tell(Name.SLIP);
                }
            }
        }

        long sureByOne(int hold) {
            clearGreatest(DIGITS);
            for (int state = 0; state < states; state++) {
                if (weights[state] != 0) {
                    raise(0, views[hold][state], weights[state]);
                }
            }
            return sumGreatest(DIGITS);
        }

        long sureByTwo(int one, int other) {
            clearGreatest(DIGITS * DIGITS);
            for (int state = 0; state < states; state++) {
                if (weights[state] != 0) {
                    int seen = views[one][state] / 10;
                    int slip = views[one][state] % 10;
                    raise(DIGITS * seen, views[other][state], weights[state] * (10 - slip));
                    raise(DIGITS * oneMore(seen), views[other][state], weights[state] * slip);
                }
            }
            return sumGreatest(DIGITS * DIGITS);
        }

        /** A view may be told in two ways: both go into the ten places from a first one on. */
        private void raise(int first, int view, long weight) {
            int seen = first + view / 10;
            int slipped = first + oneMore(view / 10);
            int slip = view % 10;
            greatest[seen] = Math.max(greatest[seen], weight * (10 - slip));
            greatest[slipped] = Math.max(greatest[slipped], weight * slip);
        }

        private void clearGreatest(int ways) {
            for (int i = 0; i < ways; i++) {
                greatest[i] = 0;
            }
        }

        private long sumGreatest(int ways) {
            long sum = 0;
            for (int i = 0; i < ways; i++) {
                sum += greatest[i];
            }
            return sum;
        }

        int bestOfOne() {
            int best = NONE;
            long surest = NONE;
            for (int hold = 0; hold < HOLDS; hold++) {
                if (fort.isFree(hold / 2)) {
                    long sure = sureByOne(hold);
                    if (sure > surest) {
                        best = hold;
                        surest = sure;
                    }
                }
            }
            return best;
        }

        int bestOfTwo(int what) {
            int first = NONE;
            int second = NONE;
            long surest = NONE;
            for (int one = 0; one < HOLDS; one++) {
                // The other has a greater number, not just another hold.
                for (int other = one / 2 * 2 + 2; other < HOLDS; other++) {
                    if (fort.isFree(one / 2) && fort.isFree(other / 2)) {
                        long sure = sureByTwo(one, other);
                        if (sure > surest) {
                            first = one;
                            second = other;
                            surest = sure;
                        }
                    }
                }
            }
            return what == 0 ? first : second;
        }

        /** There must be fewer than 8 TELESCOPES: the new one's hold is the next that is free. */
        int bestNewCell(int hour) {
            int hold = 2 * fort.scopes;
            int best = NONE;
            long surest = NONE;
            for (int cell = 0; cell < fort.countCells(); cell++) {
                look(hold, cell, hour);
                long sure = sureByOne(hold);
                if (sure > surest) {
                    best = cell;
                    surest = sure;
                }
            }
            return best;
        }
    }
}
