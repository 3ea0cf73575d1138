import java.util.Arrays;

/** A churchyard on rails: what each method owes is told, promise by promise, in ../shared/DOC.md. */
public final class GraveRails {
    public static final int NONE = -1;

    private static final int NOT_SO = -2;

    private static final int MOST_LANES = 4;
    private static final int LEAST_CELLS = 2;
    private static final int MOST_CELLS = 20;
    private static final int MOST_GRAVES = 10;
    /** The ten graves, and the eleventh that BEGIN digs on paper. */
    private static final int PLOTS = MOST_GRAVES + 1;
    private static final int MOST_ROOTS = 6;
    private static final int MOST_ROOT_YEARS = 9;
    private static final int MOST_FLOODS = 6;
    private static final int LAST_TOLD_YEAR = 99;
    private static final int LAST_YEAR = 999;
    private static final int YEARS_LOOKED_AT = 200;
    private static final int YEARS_DUG_AGO = 40;
    private static final int MOST_STEPS = 9;

    private static final int PLAIN = 0;
    private static final int CHILD = 1;
    private static final int UNPAID = 2;
    private static final int STANDS = 3;

    private static final int TAPE_BYTES = 400;
    private static final int FED_BYTES = 20;
    private static final int MOST_YARD_CLAUSES = 40;
    private static final int MOST_RULES = 6;
    private static final int MOST_RULE_CLAUSES = 12;
    private static final int MOST_DEPTH = 10;
    private static final int MOST_COUNTED = 60;
    private static final int MOST_DIGITS = 5;
    private static final int LARGEST_NUMBER = 99999;

    private static final int FAULT_CANNOT_STAND = 0;
    private static final int FAULT_NUMBER = 1;
    private static final int FAULT_TOO_DEEP = 2;
    private static final int FAULT_COUNTED = 3;
    private static final int FAULT_CLAUSE = 4;

    private static final String YARD_CLAUSES = "yard grave pair root heavy flood";
    private static final int CLAUSE_YARD = 0;
    private static final int CLAUSE_GRAVE = 1;
    private static final int CLAUSE_PAIR = 2;
    private static final int CLAUSE_ROOT = 3;
    private static final int CLAUSE_HEAVY = 4;
    private static final int CLAUSE_FLOOD = 5;
    private static final String KINDS = "plain child unpaid stands";

    private static final String GRAVE_WORDS =
            "grave lane cell year age child unpaid pair ahead behind flood fallen";
    private static final int WORD_GRAVE = 0;
    private static final int WORD_LANE = 1;
    private static final int WORD_CELL = 2;
    private static final int WORD_YEAR = 3;
    private static final int WORD_AGE = 4;
    private static final int WORD_CHILD = 5;
    private static final int WORD_UNPAID = 6;
    private static final int WORD_PAIR = 7;
    private static final int WORD_AHEAD = 8;
    private static final int WORD_BEHIND = 9;
    private static final int WORD_FLOOD = 10;
    private static final int WORD_FALLEN = 11;
    private static final int WORDS = 12;

    /** What stands on the tape in one place: see Text. */
    private static final int TOKEN_END = 0;
    private static final int TOKEN_NUMBER = 1;
    private static final int TOKEN_WORD = 2;
    private static final int TOKEN_SIGN = 3;
    private static final int TOKEN_REFUSED = 4;

    /** A sign with = right behind it is the sign and this. */
    private static final int WITH_EQUALS = 256;
    private static final int LESS_OR_EQUAL = '<' + WITH_EQUALS;
    private static final int GREATER_OR_EQUAL = '>' + WITH_EQUALS;

    /** A RULE's program: words by number, signs by themselves, these, and numbers from NUMBERS on. */
    private static final int DO_AND = '&';
    private static final int DO_OR = '|';
    private static final int DO_NOT = '!';
    private static final int NUMBERS = 1000;
    private static final int STACK = 64;

    private static final int MOST_SIGHTS = 10;
    private static final int MOST_SETS = 1 << MOST_GRAVES;
    private static final int MOST_UNDONE = 20;
    private static final int MOST_IMAGES = 4;
    private static final int MOST_WAR_YEARS = 50;
    private static final int MOST_DRAWN = 10;
    private static final int MOST_DRAWN_YEARS = 60;

    private static final long DRAW_FACTOR = 1103515245L;
    private static final long DRAW_MORE = 12345L;
    private static final long DRAW_RANGE = 2147483648L;
    private static final long DRAW_SHARE = 65536L;
    private static final long DRAW_SIDES = 100L;

    private final Text tape = new Text();
    private final YardReader yardReader = new YardReader(tape);
    private final RuleReader ruleReader = new RuleReader(tape);
    private final Rule[] rules = new Rule[MOST_RULES];
    private int ruleCount;
    private final World now = new World();
    private final World[] images = new World[MOST_IMAGES];
    private final Acts acts = new Acts();
    /** All years that are only asked about go on in here, so that now stays as it is. */
    private final Course course = new Course();
    private final Sets sets = new Sets();
    /** The YARD of DUG: empty but for ROOTS. */
    private final Yard bareYard = new Yard();
    private final State bareState = new State();

    public GraveRails() {
        for (int i = 0; i < rules.length; i++) {
            rules[i] = new Rule();
        }
        for (int i = 0; i < images.length; i++) {
            images[i] = new World();
        }
    }

    // ---- the tape, and what is told by it

    public int feed(int a, int b, int c, int d, int e) {
        if (tape.size > TAPE_BYTES - FED_BYTES) {
            return NONE;
        }
        tape.addNumber(a);
        tape.addNumber(b);
        tape.addNumber(c);
        tape.addNumber(d);
        tape.addNumber(e);
        return tape.size;
    }

    public int end(int n) {
        if (n < 0 || n > tape.size) {
            return NONE;
        }
        tape.size = n;
        return n;
    }

    public int yard() {
        int fault = yardReader.readYard();
        tape.size = 0;
        if (fault != 0) {
            return NOT_SO - fault;
        }
        now.yard.copyFrom(yardReader.told);
        now.state.startOf(now.yard);
        now.sights.size = 0;
        acts.size = 0;
        sets.known = false;
        return now.yard.graves;
    }

    public int rule() {
        if (ruleCount < 0 || ruleCount >= rules.length) {
            return NONE;
        }
        int fault = ruleReader.readRule(rules[ruleCount]);
        tape.size = 0;
        if (fault != 0) {
            return NOT_SO - fault;
        }
        ruleCount++;
        return ruleCount - 1;
    }

    public int force(int rule) {
        if (rule < NONE || rule >= ruleCount) {
            return NOT_SO;
        }
        int was = now.ruleInForce;
        now.ruleInForce = rule;
        sets.known = false;
        return was;
    }

    // ---- who lies where

    public int grave(int grave, int what) {
        State state = now.state;
        if (!state.has(grave)) {
            return NOT_SO;
        }
        switch (what) {
            case 0: return state.lane[grave];
            case 1: return state.cell[grave];
            case 2: return state.kind[grave];
            case 3: return state.held[grave];
            case 4: return state.fellIn[grave];
            case 5: return state.dugIn[grave];
            case 6: return now.yard.pairOf(grave);
            case 7: return state.rounds[grave];
            default: return NOT_SO;
        }
    }

    public int stone(int grave, int what) {
        State state = now.state;
        if (!state.has(grave)) {
            return NOT_SO;
        }
        switch (what) {
            case 0: return state.stoneLane[grave];
            case 1: return state.stoneCell[grave];
            case 2: return now.yard.isHeavy(grave) ? 1 : 0;
            case 3: return state.graveAt(state.stoneLane[grave], state.stoneCell[grave]);
            default: return NOT_SO;
        }
    }

    public int at(int lane, int cell) {
        return now.yard.hasPlace(lane, cell) ? now.state.graveAt(lane, cell) : NOT_SO;
    }

    public int root(int lane, int cell) {
        return now.yard.hasPlace(lane, cell) ? now.yard.rootAt(lane, cell) : NONE;
    }

    // ---- the ACTS

    public int year() {
        if (!now.yard.isTold() || now.state.year >= LAST_YEAR) {
            return NONE;
        }
        acts.keep(now.state);
        startFromNow();
        course.goYear();
        now.state.copyFrom(course.state);
        return course.falls;
    }

    public int dig(int lane, int cell, int kind) {
        State state = now.state;
        if (!isFree(lane, cell) || kind < PLAIN || kind > STANDS || state.graves >= MOST_GRAVES) {
            return NONE;
        }
        acts.keep(state);
        state.add(lane, cell, kind);
        return state.graves - 1;
    }

    public boolean pay(int grave) {
        State state = now.state;
        if (!state.has(grave) || state.kind[grave] != UNPAID || !state.lies(grave)) {
            return false;
        }
        acts.keep(state);
        state.kind[grave] = PLAIN;
        return true;
    }

    public int frost(int lane) {
        if (lane < 0 || lane >= now.yard.lanes) {
            return NONE;
        }
        startFromNow();
        int nearer = course.freeze(lane);
        if (nearer == 0) {
            return NONE;
        }
        acts.keep(now.state);
        now.state.copyFrom(course.state);
        return nearer;
    }

    public int undo() {
        return acts.takeBack(now.state) ? acts.size : NONE;
    }

    // ---- what is asked of the years to come

    public int ahead(int grave, int n, int what) {
        if (!now.state.has(grave) || n < 0 || n > YEARS_LOOKED_AT || what < 0 || what > 1) {
            return NOT_SO;
        }
        startFromNow();
        for (int i = 0; i < n; i++) {
            course.goYear();
        }
        return what == 0 ? course.state.lane[grave] : course.state.cell[grave];
    }

    public int fall(int grave) {
        if (!now.state.has(grave)) {
            return NONE;
        }
        startFromNow();
        for (int i = 0; i < YEARS_LOOKED_AT && course.state.lies(grave); i++) {
            course.goYear();
        }
        return course.state.lies(grave) ? NOT_SO : course.state.fellIn[grave];
    }

    public int abreast(int one, int other) {
        if (!now.state.has(one) || !now.state.has(other) || one == other) {
            return NONE;
        }
        startFromNow();
        State state = course.state;
        for (int i = 0; i <= YEARS_LOOKED_AT && state.lies(one) && state.lies(other); i++) {
            if (state.cell[one] == state.cell[other]) {
                return state.year;
            }
            course.goYear();
        }
        return NOT_SO;
    }

    public int begin(int grave, int what) {
        if (!now.state.has(grave) || what < 0 || what > 2) {
            return NONE;
        }
        int places = 0;
        int firstLane = NOT_SO;
        int firstCell = NOT_SO;
        for (int lane = 0; lane < now.yard.lanes; lane++) {
            for (int cell = 0; cell < now.yard.cells; cell++) {
                if (isFree(lane, cell) && fallsWithOneDugAt(grave, lane, cell)) {
                    firstLane = places == 0 ? lane : firstLane;
                    firstCell = places == 0 ? cell : firstCell;
                    places++;
                }
            }
        }
        if (what == 0) {
            return places;
        }
        return what == 1 ? firstLane : firstCell;
    }

    private boolean fallsWithOneDugAt(int grave, int lane, int cell) {
        startFromNow();
        State state = course.state;
        int dug = state.graves;
        state.add(lane, cell, PLAIN);
        for (int i = 0; i < YEARS_LOOKED_AT && state.lies(grave) && state.lies(dug); i++) {
            course.goYear();
        }
        return state.has(grave) && state.has(dug) && !state.lies(grave) && !state.lies(dug)
                && state.fellIn[grave] == state.fellIn[dug];
    }

    public int dug(int kind, int lane, int cell, int what) {
        if (kind < PLAIN || kind > UNPAID || !now.yard.hasPlace(lane, cell) || what < 0 || what > 2) {
            return NONE;
        }
        bareYard.becomeBare(now.yard);
        bareState.startOf(bareYard);
        bareState.add(lane, bareYard.cells - 1, kind);
        course.start(bareYard, bareState, ruleInForce());
        int many = 0;
        int least = NOT_SO;
        int greatest = NOT_SO;
        for (int ago = 0; ago <= YEARS_DUG_AGO; ago++) {
            if (course.state.cell[0] == cell) {
                many++;
                least = many == 1 ? ago : least;
                greatest = ago;
            }
            course.goYear();
        }
        if (what == 0) {
            return many;
        }
        return what == 1 ? least : greatest;
    }

    public int war(int n) {
        if (!now.yard.isTold() || n < 1 || n > MOST_WAR_YEARS) {
            return NONE;
        }
        startFromNow();
        int room = 0;
        for (int i = 0; i < n; i++) {
            for (int lane = 0; lane < now.yard.lanes; lane++) {
                room += course.state.graveAt(lane, now.yard.cells - 1) == NONE ? 1 : 0;
            }
            course.goYear();
        }
        return room;
    }

    public int order(int k) {
        if (!now.yard.isTold() || k < 0) {
            return NONE;
        }
        startFromNow();
        for (int i = 0; i < YEARS_LOOKED_AT && course.falls <= k; i++) {
            course.goYear();
        }
        return k < course.falls && k < course.fell.length ? course.fell[k] : NOT_SO;
    }

    // ---- who was unpaid

    public int sight(int grave, int cell, int year) {
        Sights sights = now.sights;
        if (grave == NONE) {
            sights.size = 0;
            sets.known = false;
            return 0;
        }
        Yard yard = now.yard;
        if (grave < 0 || grave >= yard.graves || cell < 0 || cell >= yard.cells
                || year < 0 || year > LAST_TOLD_YEAR || sights.size >= MOST_SIGHTS) {
            return NOT_SO;
        }
        sights.add(grave, cell, year);
        sets.known = false;
        return sights.size;
    }

    public int unpaid(int what) {
        if (!now.yard.isTold() || what < 0 || what > 2) {
            return NONE;
        }
        sets.find(now, ruleInForce(), course);
        if (what == 0) {
            return sets.size;
        }
        return what == 1 ? sets.inAll() : sets.inNone();
    }

    public int look(int year, int what) {
        if (!now.yard.isTold() || year < 0 || year > LAST_TOLD_YEAR || what < 0 || what > 1) {
            return NONE;
        }
        sets.find(now, ruleInForce(), course);
        if (sets.size == 0 || now.yard.graves == 0) {
            return NOT_SO;
        }
        sets.part(year, course);
        return what == 0 ? sets.best : sets.bestAlike;
    }

    // ---- draws

    public int seed(int x) {
        if (x < 0) {
            return NONE;
        }
        int was = now.x;
        now.x = x;
        return was;
    }

    public int drawn(int m, int n, int p, int what) {
        if (!now.yard.isTold() || m < 1 || m > MOST_DRAWN || n < 1 || n > MOST_DRAWN_YEARS
                || p < 0 || p > DRAW_SIDES || what < 0 || what > 1) {
            return NONE;
        }
        long x = now.x;
        int fell = 0;
        int byFlood = 0;
        for (int i = 0; i < m; i++) {
            startFromNow();
            for (int j = 0; j < n; j++) {
                x = (x * DRAW_FACTOR + DRAW_MORE) % DRAW_RANGE;
                course.floodDrawn = x / DRAW_SHARE % DRAW_SIDES < p;
                course.goYear();
            }
            fell += course.falls;
            byFlood += course.fallsByFlood;
        }
        return what == 0 ? fell : byFlood;
    }

    // ---- counts and images

    public int count(int what) {
        State state = now.state;
        switch (what) {
            case 0: return now.yard.lanes;
            case 1: return now.yard.cells;
            case 2: return state.graves;
            case 3: return ruleCount;
            case 4: return now.ruleInForce;
            case 5: return state.year;
            case 6: return state.fallen;
            case 7: return state.whoIsHeld();
            case 8: return now.sights.size;
            case 9: return acts.size;
            case 10: return now.x;
            case 11: return tape.size;
            case 12: return state.allRounds();
            default: return NONE;
        }
    }

    public int image(int k) {
        World image = imageNumber(k);
        if (image == null) {
            return NONE;
        }
        image.copyFrom(now);
        image.made = true;
        return now.state.year;
    }

    public int back(int k) {
        World image = imageNumber(k);
        if (image == null || !image.made) {
            return NONE;
        }
        now.copyFrom(image);
        acts.size = 0;
        sets.known = false;
        return now.state.year;
    }

    /** Made or not; null: there is none such. */
    private World imageNumber(int k) {
        return k >= 0 && k < images.length ? images[k] : null;
    }

    private void startFromNow() {
        course.start(now.yard, now.state, ruleInForce());
    }

    private Rule ruleInForce() {
        int number = now.ruleInForce;
        return number >= 0 && number < ruleCount && number < rules.length ? rules[number] : null;
    }

    private boolean isFree(int lane, int cell) {
        return now.yard.hasPlace(lane, cell) && now.state.graveAt(lane, cell) == NONE;
    }

    /** The TAPE, and what stands on it in the place that a reader has come to. */
    private static final class Text {
        final byte[] bytes = new byte[TAPE_BYTES];
        int size;
        int place;
        int behind;
        int token;
        /** Of a NUMBER its value (NONE: too many digits), of a sign the sign. */
        int value;
        /** 0: none yet. */
        int fault;

        void addNumber(int number) {
            for (int shift = 24; shift >= 0; shift -= 8) {
                if (size >= 0 && size < bytes.length) {
                    bytes[size] = (byte) (number >> shift);
                    size++;
                }
            }
        }

        void rewind() {
            behind = 0;
            fault = 0;
            token = TOKEN_END;
            advance();
        }

        /** The first fault alone is kept: nothing is read behind it, as no token fits any more. */
        void refuse(int what) {
            if (fault == 0) {
                fault = 1 + 8 * place + what;
            }
            token = TOKEN_REFUSED;
        }

        void advance() {
            if (token == TOKEN_REFUSED) {
                return;
            }
            place = Math.max(0, behind);
            while (place < size && place < bytes.length && bytes[place] == ' ') {
                place++;
            }
            behind = place;
            if (place >= size || place >= bytes.length) {
                token = TOKEN_END;
                return;
            }
            int first = bytes[place];
            if (first >= '0' && first <= '9') {
                passNumber();
            } else if (first >= 'a' && first <= 'z') {
                passWord();
            } else {
                passSign(first);
            }
        }

        private void passNumber() {
            token = TOKEN_NUMBER;
            value = 0;
            while (behind < size && behind < bytes.length
                    && bytes[behind] >= '0' && bytes[behind] <= '9') {
                boolean fits = behind - place < MOST_DIGITS && value != NONE;
                value = fits ? value * 10 + bytes[behind] - '0' : NONE;
                behind++;
            }
        }

        private void passWord() {
            token = TOKEN_WORD;
            while (behind < size && behind < bytes.length
                    && bytes[behind] >= 'a' && bytes[behind] <= 'z') {
                behind++;
            }
        }

        private void passSign(int first) {
            token = TOKEN_SIGN;
            value = first;
            behind = place + 1;
            boolean compares = first == '<' || first == '>';
            if (compares && behind < size && behind < bytes.length && bytes[behind] == '=') {
                value = first + WITH_EQUALS;
                behind++;
            }
        }

        /** Which of the words, told with one blank between them, stands here; NONE of them. */
        int wordAmong(String words) {
            if (token != TOKEN_WORD) {
                return NONE;
            }
            int number = 0;
            int at = place;
            boolean same = true;
            for (int i = 0; i <= words.length(); i++) {
                if (i == words.length() || words.charAt(i) == ' ') {
                    if (same && at == behind) {
                        return number;
                    }
                    number++;
                    at = place;
                    same = true;
                } else {
                    same = same && at >= 0 && at < behind && at < bytes.length
                            && bytes[at] == words.charAt(i);
                    at++;
                }
            }
            return NONE;
        }

        /** Goes past a word, if it stands here. */
        boolean takeWord(String word) {
            if (wordAmong(word) == NONE) {
                return false;
            }
            advance();
            return true;
        }

        boolean isSign(int sign) {
            return token == TOKEN_SIGN && value == sign;
        }

        /** The NUMBER that stands here, or NONE, and a fault. */
        int numberFrom(int least, int most) {
            if (token != TOKEN_NUMBER) {
                refuse(FAULT_CANNOT_STAND);
                return NONE;
            }
            if (value == NONE || value < least || value > most) {
                refuse(FAULT_NUMBER);
                return NONE;
            }
            return value;
        }

        /** Behind a CLAUSE: whether another one is to come. */
        boolean takeMore() {
            if (token == TOKEN_END) {
                return false;
            }
            if (!isSign(';')) {
                refuse(FAULT_CANNOT_STAND);
                return false;
            }
            advance();
            return true;
        }
    }

    /** A YARD as its text told it. */
    private static final class Yard {
        int lanes;
        int cells;
        int graves;
        final int[] lane = new int[PLOTS];
        final int[] cell = new int[PLOTS];
        final int[] kind = new int[PLOTS];
        final int[] pair = new int[PLOTS];
        final int[] heavy = new int[PLOTS];
        int roots;
        final int[] rootYears = new int[MOST_LANES * MOST_CELLS];
        int floods;
        final int[] floodYear = new int[MOST_FLOODS];

        Yard() {
            Arrays.fill(pair, NONE);
        }

        void clear() {
            lanes = 0;
            cells = 0;
            graves = 0;
            roots = 0;
            floods = 0;
            Arrays.fill(pair, NONE);
            Arrays.fill(heavy, 0);
            Arrays.fill(rootYears, 0);
        }

        void copyFrom(Yard other) {
            lanes = other.lanes;
            cells = other.cells;
            graves = other.graves;
            roots = other.roots;
            floods = other.floods;
            System.arraycopy(other.lane, 0, lane, 0, PLOTS);
            System.arraycopy(other.cell, 0, cell, 0, PLOTS);
            System.arraycopy(other.kind, 0, kind, 0, PLOTS);
            System.arraycopy(other.pair, 0, pair, 0, PLOTS);
            System.arraycopy(other.heavy, 0, heavy, 0, PLOTS);
            System.arraycopy(other.rootYears, 0, rootYears, 0, MOST_LANES * MOST_CELLS);
            System.arraycopy(other.floodYear, 0, floodYear, 0, MOST_FLOODS);
        }

        /** As another one, without its GRAVES and FLOODS: for one that never has any. */
        void becomeBare(Yard other) {
            lanes = other.lanes;
            cells = other.cells;
            System.arraycopy(other.rootYears, 0, rootYears, 0, MOST_LANES * MOST_CELLS);
        }

        boolean isTold() {
            return lanes > 0;
        }

        boolean hasPlace(int l, int c) {
            return l >= 0 && l < lanes && l < MOST_LANES && c >= 0 && c < cells && c < MOST_CELLS;
        }

        boolean isTaken(int l, int c) {
            for (int g = 0; g < graves && g < PLOTS; g++) {
                if (lane[g] == l && cell[g] == c) {
                    return true;
                }
            }
            return false;
        }

        int rootAt(int l, int c) {
            boolean there = l >= 0 && l < MOST_LANES && c >= 0 && c < MOST_CELLS;
            return there ? rootYears[l * MOST_CELLS + c] : 0;
        }

        boolean isFlood(int year) {
            for (int i = 0; i < floods && i < floodYear.length; i++) {
                if (floodYear[i] == year) {
                    return true;
                }
            }
            return false;
        }

        int pairOf(int grave) {
            return grave >= 0 && grave < PLOTS ? pair[grave] : NONE;
        }

        boolean isHeavy(int grave) {
            return grave >= 0 && grave < PLOTS && heavy[grave] != 0;
        }

        void addGrave(int l, int c, int k) {
            if (graves >= 0 && graves < MOST_GRAVES) {
                lane[graves] = l;
                cell[graves] = c;
                kind[graves] = k;
                graves++;
            }
        }

        void addPair(int one, int other) {
            if (one >= 0 && one < PLOTS && other >= 0 && other < PLOTS) {
                pair[one] = other;
                pair[other] = one;
            }
        }

        void addRoot(int l, int c, int years) {
            if (hasPlace(l, c)) {
                rootYears[l * MOST_CELLS + c] = years;
                roots++;
            }
        }

        void makeHeavy(int grave) {
            if (grave >= 0 && grave < PLOTS) {
                heavy[grave] = 1;
            }
        }

        void addFlood(int year) {
            if (floods >= 0 && floods < floodYear.length) {
                floodYear[floods] = year;
                floods++;
            }
        }
    }

    /** Reads a YARD from the TAPE. */
    private static final class YardReader {
        final Yard told = new Yard();
        private final Text text;

        YardReader(Text text) {
            this.text = text;
        }

        /** 0, or the FAULT. */
        int readYard() {
            told.clear();
            text.rewind();
            boolean more = true;
            for (int i = 0; i <= MOST_YARD_CLAUSES && more; i++) {
                readClause(i);
                more = text.takeMore();
            }
            return text.fault;
        }

        private void readClause(int number) {
            int clause = text.wordAmong(YARD_CLAUSES);
            if (clause == NONE) {
                text.refuse(FAULT_CANNOT_STAND);
                return;
            }
            boolean outOfPlace = (clause == CLAUSE_YARD) != (number == 0);
            if (number >= MOST_YARD_CLAUSES || outOfPlace || isFull(clause)) {
                text.refuse(FAULT_CLAUSE);
                return;
            }
            text.advance();
            switch (clause) {
                case CLAUSE_YARD: readSize(); break;
                case CLAUSE_GRAVE: readGrave(); break;
                case CLAUSE_PAIR: readPair(); break;
                case CLAUSE_ROOT: readRoot(); break;
                case CLAUSE_HEAVY: readHeavy(); break;
                default: readFlood(); break;
            }
        }

        private boolean isFull(int clause) {
            switch (clause) {
                case CLAUSE_GRAVE: return told.graves >= MOST_GRAVES;
                case CLAUSE_ROOT: return told.roots >= MOST_ROOTS;
                case CLAUSE_FLOOD: return told.floods >= MOST_FLOODS;
                default: return false;
            }
        }

        private void readSize() {
            int lanes = text.numberFrom(1, MOST_LANES);
            text.advance();
            int cells = text.numberFrom(LEAST_CELLS, MOST_CELLS);
            text.advance();
            if (text.fault == 0) {
                told.lanes = lanes;
                told.cells = cells;
            }
        }

        private void readGrave() {
            int lane = text.numberFrom(0, told.lanes - 1);
            text.advance();
            int cell = text.numberFrom(0, told.cells - 1);
            if (text.fault == 0 && told.isTaken(lane, cell)) {
                text.refuse(FAULT_NUMBER);
            }
            text.advance();
            int kind = text.wordAmong(KINDS);
            if (kind == NONE) {
                text.refuse(FAULT_CANNOT_STAND);
            }
            text.advance();
            if (text.fault == 0) {
                told.addGrave(lane, cell, kind);
            }
        }

        private void readPair() {
            int one = readUnpaired(NONE);
            int other = readUnpaired(one);
            if (text.fault == 0) {
                told.addPair(one, other);
            }
        }

        private int readUnpaired(int first) {
            int grave = text.numberFrom(0, told.graves - 1);
            if (text.fault == 0 && (grave == first || told.pairOf(grave) != NONE)) {
                text.refuse(FAULT_NUMBER);
            }
            text.advance();
            return grave;
        }

        private void readRoot() {
            int lane = text.numberFrom(0, told.lanes - 1);
            text.advance();
            int cell = text.numberFrom(0, told.cells - 1);
            if (text.fault == 0 && told.rootAt(lane, cell) != 0) {
                text.refuse(FAULT_NUMBER);
            }
            text.advance();
            int years = text.numberFrom(1, MOST_ROOT_YEARS);
            text.advance();
            if (text.fault == 0) {
                told.addRoot(lane, cell, years);
            }
        }

        private void readHeavy() {
            int grave = text.numberFrom(0, told.graves - 1);
            text.advance();
            if (text.fault == 0) {
                told.makeHeavy(grave);
            }
        }

        private void readFlood() {
            int year = text.numberFrom(0, LAST_TOLD_YEAR);
            if (text.fault == 0 && told.isFlood(year)) {
                text.refuse(FAULT_NUMBER);
            }
            text.advance();
            if (text.fault == 0) {
                told.addFlood(year);
            }
        }
    }

    /** A RULE: of each CLAUSE the SUM and then the TEST, as programs for a stack of numbers. */
    private static final class Rule {
        private final int[] program = new int[TAPE_BYTES];
        private int size;
        private final int[] sumFrom = new int[MOST_RULE_CLAUSES];
        private final int[] testFrom = new int[MOST_RULE_CLAUSES];
        private final int[] clauseEnd = new int[MOST_RULE_CLAUSES];
        private int clauses;
        private final long[] stack = new long[STACK];

        void clear() {
            size = 0;
            clauses = 0;
        }

        void emit(int what) {
            if (size >= 0 && size < program.length) {
                program[size] = what;
                size++;
            }
        }

        void openClause() {
            if (clauses >= 0 && clauses < sumFrom.length) {
                sumFrom[clauses] = size;
            }
        }

        void openTest() {
            if (clauses >= 0 && clauses < testFrom.length) {
                testFrom[clauses] = size;
            }
        }

        void closeClause() {
            if (clauses >= 0 && clauses < clauseEnd.length) {
                clauseEnd[clauses] = size;
                clauses++;
            }
        }

        /** How many STEPS a GRAVE goes of which the WORDS are these. */
        int stepsBy(long[] words) {
            for (int i = 0; i < clauses && i < MOST_RULE_CLAUSES; i++) {
                boolean tested = testFrom[i] < clauseEnd[i];
                if (!tested || worth(testFrom[i], clauseEnd[i], words) != 0) {
                    long sum = worth(sumFrom[i], testFrom[i], words);
                    return (int) Math.max(0L, Math.min((long) MOST_STEPS, sum));
                }
            }
            return 0;
        }

        private long worth(int from, int to, long[] words) {
            int top = 0;
            for (int i = Math.max(0, from); i < to && i < program.length; i++) {
                int what = program[i];
                if (what >= NUMBERS || (what >= 0 && what < words.length)) {
                    if (top < stack.length) {
                        stack[top] = what >= NUMBERS ? what - NUMBERS : words[what];
                        top++;
                    }
                } else if (what == DO_NOT) {
                    if (top >= 1) {
                        stack[top - 1] = 1 - stack[top - 1];
                    }
                } else if (top >= 2) {
                    top--;
                    stack[top - 1] = join(what, stack[top - 1], stack[top]);
                }
            }
            return top >= 1 ? stack[0] : 0;
        }

        private static long join(int sign, long a, long b) {
            switch (sign) {
                case '+': return a + b;
                case '-': return a - b;
                case '*': return a * b;
                case '/': return b == 0 ? 0 : a / b;
                case '%': return b == 0 ? 0 : a % b;
                case '<': return a < b ? 1 : 0;
                case LESS_OR_EQUAL: return a <= b ? 1 : 0;
                case '=': return a == b ? 1 : 0;
                case GREATER_OR_EQUAL: return a >= b ? 1 : 0;
                case '>': return a > b ? 1 : 0;
                case DO_AND: return a & b;
                case DO_OR: return a | b;
                default: return 0;
            }
        }
    }

    /** Reads a RULE from the TAPE. */
    private static final class RuleReader {
        private final Text text;
        private Rule told;
        /** VALUES and FACTS made of a SIGN. */
        private int counted;

        RuleReader(Text text) {
            this.text = text;
            this.told = new Rule();
        }

        /** 0, or the FAULT. */
        int readRule(Rule into) {
            if (into != null) {
                told = into;
            }
            told.clear();
            counted = 0;
            text.rewind();
            boolean more = true;
            for (int i = 0; i <= MOST_RULE_CLAUSES && more; i++) {
                if (text.wordAmong("go") == NONE) {
                    text.refuse(FAULT_CANNOT_STAND);
                } else if (i >= MOST_RULE_CLAUSES) {
                    text.refuse(FAULT_CLAUSE);
                }
                text.advance();
                told.openClause();
                readSum();
                told.openTest();
                if (text.takeWord("if")) {
                    readTest(0);
                }
                told.closeClause();
                more = text.takeMore();
            }
            return text.fault;
        }

        /** The loops' bound: each round takes a byte of the TAPE at least, or is the last one. */
        private void readTest(int depth) {
            boolean more = true;
            for (int parts = 0; parts < TAPE_BYTES && more; parts++) {
                readFact(depth);
                for (int facts = 0; facts < TAPE_BYTES && text.takeWord("and"); facts++) {
                    readFact(depth);
                    told.emit(DO_AND);
                }
                if (parts > 0) {
                    told.emit(DO_OR);
                }
                more = text.takeWord("or");
            }
        }

        private void readFact(int depth) {
            boolean not = text.wordAmong("not") != NONE;
            boolean opens = not || text.isSign('[');
            if (opens && depth >= MOST_DEPTH) {
                text.refuse(FAULT_TOO_DEEP);
                return;
            }
            if (not) {
                text.advance();
                readFact(depth + 1);
                told.emit(DO_NOT);
                return;
            }
            if (opens) {
                text.advance();
                readTest(depth + 1);
                if (!text.isSign(']')) {
                    text.refuse(FAULT_CANNOT_STAND);
                }
                text.advance();
                return;
            }
            readSum();
            int sign = signAmong('<', LESS_OR_EQUAL, '=', GREATER_OR_EQUAL, '>');
            if (sign == NONE) {
                text.refuse(FAULT_CANNOT_STAND);
            }
            countOne();
            text.advance();
            readSum();
            told.emit(sign);
        }

        /** A sign waits until what it joins has been read: that of TERMS for a whole TERM. */
        private void readSum() {
            int ofTerms = NONE;
            int ofValues = NONE;
            boolean more = true;
            for (int i = 0; i < TAPE_BYTES && more; i++) {
                readValue();
                if (ofValues != NONE) {
                    told.emit(ofValues);
                }
                ofValues = signAmong('*', '/', '%', NONE, NONE);
                if (ofValues == NONE) {
                    if (ofTerms != NONE) {
                        told.emit(ofTerms);
                    }
                    ofTerms = signAmong('+', '-', NONE, NONE, NONE);
                }
                more = ofValues != NONE || ofTerms != NONE;
                if (more) {
                    text.advance();
                }
            }
        }

        private void readValue() {
            int what;
            if (text.token == TOKEN_NUMBER) {
                what = NUMBERS + text.numberFrom(0, LARGEST_NUMBER);
            } else {
                what = text.wordAmong(GRAVE_WORDS);
                if (what == NONE) {
                    text.refuse(FAULT_CANNOT_STAND);
                }
            }
            countOne();
            text.advance();
            told.emit(what);
        }

        private void countOne() {
            if (counted >= MOST_COUNTED) {
                text.refuse(FAULT_COUNTED);
            }
            counted++;
        }

        private int signAmong(int a, int b, int c, int d, int e) {
            int sign = text.token == TOKEN_SIGN ? text.value : NONE;
            return sign == a || sign == b || sign == c || sign == d || sign == e ? sign : NONE;
        }
    }

    /** GRAVES and STONES as they are at the begin of a YEAR. What fell, or is gone, is in NONE. */
    private static final class State {
        int year;
        int graves;
        int fallen;
        final int[] lane = new int[PLOTS];
        final int[] cell = new int[PLOTS];
        final int[] kind = new int[PLOTS];
        final int[] held = new int[PLOTS];
        final int[] fellIn = new int[PLOTS];
        final int[] dugIn = new int[PLOTS];
        final int[] rounds = new int[PLOTS];
        final int[] stoneLane = new int[PLOTS];
        final int[] stoneCell = new int[PLOTS];

        void copyFrom(State other) {
            year = other.year;
            graves = other.graves;
            fallen = other.fallen;
            System.arraycopy(other.lane, 0, lane, 0, PLOTS);
            System.arraycopy(other.cell, 0, cell, 0, PLOTS);
            System.arraycopy(other.kind, 0, kind, 0, PLOTS);
            System.arraycopy(other.held, 0, held, 0, PLOTS);
            System.arraycopy(other.fellIn, 0, fellIn, 0, PLOTS);
            System.arraycopy(other.dugIn, 0, dugIn, 0, PLOTS);
            System.arraycopy(other.rounds, 0, rounds, 0, PLOTS);
            System.arraycopy(other.stoneLane, 0, stoneLane, 0, PLOTS);
            System.arraycopy(other.stoneCell, 0, stoneCell, 0, PLOTS);
        }

        void startOf(Yard yard) {
            year = 0;
            graves = 0;
            fallen = 0;
            for (int g = 0; g < yard.graves && g < MOST_GRAVES; g++) {
                add(yard.lane[g], yard.cell[g], yard.kind[g]);
            }
        }

        /** One more GRAVE, its STONE with it, dug now. */
        void add(int l, int c, int k) {
            int g = graves;
            if (g < 0 || g >= PLOTS) {
                return;
            }
            lane[g] = l;
            cell[g] = c;
            kind[g] = k;
            held[g] = 0;
            fellIn[g] = NONE;
            dugIn[g] = year;
            rounds[g] = 0;
            stoneLane[g] = l;
            stoneCell[g] = c;
            graves = g + 1;
        }

        boolean has(int grave) {
            return grave >= 0 && grave < graves && grave < PLOTS;
        }

        boolean lies(int grave) {
            return grave >= 0 && grave < graves && grave < PLOTS && cell[grave] != NONE;
        }

        int graveAt(int l, int c) {
            if (c < 0) {
                return NONE;
            }
            for (int g = 0; g < graves && g < PLOTS; g++) {
                if (cell[g] == c && lane[g] == l) {
                    return g;
                }
            }
            return NONE;
        }

        int countBehind(int l, int c) {
            int behind = 0;
            for (int g = 0; g < graves && g < PLOTS; g++) {
                behind += lane[g] == l && cell[g] > c ? 1 : 0;
            }
            return behind;
        }

        int whoIsHeld() {
            int bits = 0;
            for (int g = 0; g < graves && g < PLOTS; g++) {
                bits |= held[g] > 0 ? 1 << g : 0;
            }
            return bits;
        }

        int allRounds() {
            int all = 0;
            for (int g = 0; g < graves && g < PLOTS; g++) {
                all += rounds[g];
            }
            return all;
        }
    }

    /** A YARD going on from some state, YEAR by YEAR. */
    private static final class Course {
        final State state = new State();
        /** Who fell since the start, in order. */
        final int[] fell = new int[PLOTS];
        int falls;
        int fallsByFlood;
        /** Whether the next YEAR is one of FLOOD besides those told. */
        boolean floodDrawn;
        private Yard yard = new Yard();
        private Rule rule;
        private boolean flood;
        private final int[] turns = new int[PLOTS];
        private final int[] places = new int[PLOTS];
        private int turnCount;
        private final long[] words = new long[WORDS];

        /** A null rule: none in force. */
        void start(Yard in, State from, Rule by) {
            yard = in == null ? yard : in;
            rule = by;
            falls = 0;
            fallsByFlood = 0;
            floodDrawn = false;
            if (from != null) {
                state.copyFrom(from);
            }
        }

        void goYear() {
            flood = floodDrawn || yard.isFlood(state.year);
            if (flood) {
                floodRows();
            }
            takeOrder();
            for (int i = 0; i < turnCount && i < PLOTS; i++) {
                takeTurn(turns[i]);
            }
            moveStones();
            state.year++;
        }

        private void floodRows() {
            takeOrder();
            for (int i = 0; i < turnCount && i < PLOTS; i++) {
                int grave = turns[i];
                if (state.lies(grave) && state.cell[grave] <= 1) {
                    drop(grave);
                    fallsByFlood++;
                }
            }
        }

        private void drop(int grave) {
            if (!state.lies(grave)) {
                return;
            }
            state.lane[grave] = NONE;
            state.cell[grave] = NONE;
            state.held[grave] = 0;
            state.fellIn[grave] = state.year;
            state.fallen++;
            if (falls >= 0 && falls < fell.length) {
                fell[falls] = grave;
                falls++;
            }
        }

        /** Nearest the sea first, of one CELL the least LANE first. */
        private void takeOrder() {
            turnCount = 0;
            for (int g = 0; g < state.graves && turnCount < PLOTS; g++) {
                if (state.lies(g)) {
                    int place = state.cell[g] * MOST_LANES + state.lane[g];
                    int i = turnCount;
                    while (i > 0 && places[i - 1] > place) {
                        places[i] = places[i - 1];
                        turns[i] = turns[i - 1];
                        i--;
                    }
                    places[i] = place;
                    turns[i] = g;
                    turnCount++;
                }
            }
        }

        private void takeTurn(int grave) {
            if (!state.lies(grave)) {
                return;
            }
            if (state.held[grave] > 0) {
                state.held[grave]--;
                return;
            }
            if (state.kind[grave] == STANDS || fartherBy(grave) > 0) {
                return;
            }
            int steps = state.kind[grave] == PLAIN ? 1 : 2;
            if (rule != null) {
                fillWords(grave);
                steps = rule.stepsBy(words);
            }
            boolean further = true;
            for (int i = 0; i < steps && i < MOST_STEPS && further; i++) {
                further = goStep(grave);
            }
        }

        /** CELLS that the other one of a pair is farther from the sea; 0 without, or if it fell. */
        private int fartherBy(int grave) {
            int other = yard.pairOf(grave);
            return state.lies(grave) && state.lies(other) ? state.cell[other] - state.cell[grave] : 0;
        }

        private void fillWords(int grave) {
            if (!state.has(grave)) {
                return;
            }
            int lane = state.lane[grave];
            int cell = state.cell[grave];
            words[WORD_GRAVE] = grave;
            words[WORD_LANE] = lane;
            words[WORD_CELL] = cell;
            words[WORD_YEAR] = state.year;
            words[WORD_AGE] = state.year - state.dugIn[grave];
            words[WORD_CHILD] = state.kind[grave] == CHILD ? 1 : 0;
            words[WORD_UNPAID] = state.kind[grave] == UNPAID ? 1 : 0;
            words[WORD_PAIR] = fartherBy(grave);
            words[WORD_AHEAD] = state.graveAt(lane, cell - 1) != NONE ? 1 : 0;
            words[WORD_BEHIND] = state.countBehind(lane, cell);
            words[WORD_FLOOD] = flood ? 1 : 0;
            words[WORD_FALLEN] = state.fallen;
        }

        /** Whether it may go further in this YEAR. */
        private boolean goStep(int grave) {
            if (!state.lies(grave)) {
                return false;
            }
            int cell = state.cell[grave] - 1;
            if (cell < 0) {
                drop(grave);
                return false;
            }
            int lane = state.lane[grave];
            int other = state.graveAt(lane, cell);
            if (other != NONE) {
                lane = laneRound(other, lane, cell);
                if (lane == NONE) {
                    return false;
                }
                state.rounds[grave]++;
            }
            comeTo(grave, lane, cell);
            return state.held[grave] == 0;
        }

        private int laneRound(int other, int lane, int cell) {
            if (!state.has(other) || state.kind[other] != STANDS) {
                return NONE;
            }
            if (lane > 0 && state.graveAt(lane - 1, cell) == NONE) {
                return lane - 1;
            }
            return lane + 1 < yard.lanes && state.graveAt(lane + 1, cell) == NONE ? lane + 1 : NONE;
        }

        private void comeTo(int grave, int lane, int cell) {
            if (state.has(grave)) {
                state.lane[grave] = lane;
                state.cell[grave] = cell;
                state.held[grave] = yard.rootAt(lane, cell);
            }
        }

        private void moveStones() {
            boolean even = state.year % 2 == 0;
            for (int g = 0; g < state.graves && g < PLOTS; g++) {
                boolean lags = !state.lies(g) || state.cell[g] < state.stoneCell[g];
                if (state.stoneCell[g] != NONE && lags && (even || !yard.isHeavy(g))) {
                    state.stoneCell[g]--;
                    state.stoneLane[g] = state.stoneCell[g] == NONE ? NONE : state.stoneLane[g];
                }
            }
        }

        /** FROST: how many GRAVES of a LANE went nearer the sea. */
        int freeze(int lane) {
            int nearer = 0;
            int free = 0;
            for (int cell = 0; cell < yard.cells; cell++) {
                int grave = state.graveAt(lane, cell);
                if (state.has(grave)) {
                    boolean stays = state.kind[grave] == STANDS || state.held[grave] > 0;
                    if (stays) {
                        free = cell;
                    } else if (free < cell) {
                        comeTo(grave, lane, free);
                        nearer++;
                    }
                    free++;
                }
            }
            return nearer;
        }
    }

    /** SIGHTS: a GRAVE was in a CELL at the begin of a YEAR. */
    private static final class Sights {
        int size;
        private final int[] grave = new int[MOST_SIGHTS];
        private final int[] cell = new int[MOST_SIGHTS];
        private final int[] year = new int[MOST_SIGHTS];

        void copyFrom(Sights other) {
            size = other.size;
            System.arraycopy(other.grave, 0, grave, 0, MOST_SIGHTS);
            System.arraycopy(other.cell, 0, cell, 0, MOST_SIGHTS);
            System.arraycopy(other.year, 0, year, 0, MOST_SIGHTS);
        }

        void add(int g, int c, int y) {
            if (size >= 0 && size < MOST_SIGHTS) {
                grave[size] = g;
                cell[size] = c;
                year[size] = y;
                size++;
            }
        }

        /** The last YEAR of one; NONE without any. */
        int last() {
            int latest = NONE;
            for (int i = 0; i < size && i < MOST_SIGHTS; i++) {
                latest = Math.max(latest, year[i]);
            }
            return latest;
        }

        /** Whether those of the YEAR that the state is in are so. */
        boolean agree(State state) {
            for (int i = 0; i < size && i < MOST_SIGHTS; i++) {
                if (year[i] == state.year
                        && (!state.lies(grave[i]) || state.cell[grave[i]] != cell[i])) {
                    return false;
                }
            }
            return true;
        }
    }

    /** All that an IMAGE keeps. */
    private static final class World {
        final Yard yard = new Yard();
        final State state = new State();
        final Sights sights = new Sights();
        int ruleInForce = NONE;
        int x;
        /** Of an IMAGE: whether it was made. */
        boolean made;

        void copyFrom(World other) {
            yard.copyFrom(other.yard);
            state.copyFrom(other.state);
            sights.copyFrom(other.sights);
            ruleInForce = other.ruleInForce;
            x = other.x;
        }
    }

    /** What was before each of the last ACTS, kept in a ring. */
    private static final class Acts {
        int size;
        private int next;
        private final State[] before = new State[MOST_UNDONE];

        Acts() {
            for (int i = 0; i < before.length; i++) {
                before[i] = new State();
            }
        }

        void keep(State state) {
            State free = nextOne();
            if (free == null) {
                return;
            }
            free.copyFrom(state);
            next = (next + 1) % MOST_UNDONE;
            size = Math.min(size + 1, MOST_UNDONE);
        }

        boolean takeBack(State state) {
            if (size <= 0) {
                return false;
            }
            next = (next + MOST_UNDONE - 1) % MOST_UNDONE;
            size--;
            State last = nextOne();
            if (last != null) {
                state.copyFrom(last);
            }
            return true;
        }

        private State nextOne() {
            return next >= 0 && next < before.length ? before[next] : null;
        }
    }

    /** The sets of GRAVES that can have been unpaid, as bits, and LOOK among them. */
    private static final class Sets {
        /** Whether they are those of what is told now: to find them is dear. */
        boolean known;
        int size;
        /** The YEAR in which they were parted last (NONE: not yet), and what came of it. */
        private int partedIn = NONE;
        int best;
        int bestAlike;
        private final int[] found = new int[MOST_SETS];
        /** GRAVES told as plain or unpaid. */
        private int open;
        private final int[] alike = new int[PLOTS * (MOST_CELLS + 1)];
        private Yard yard = new Yard();
        private Rule rule;
        private final State told = new State();

        void find(World world, Rule by, Course course) {
            if (known || world == null) {
                return;
            }
            yard = world.yard;
            rule = by;
            takeOpen();
            size = 0;
            for (int set = 0; set < MOST_SETS; set++) {
                if ((set & ~open) == 0 && isSeen(set, world.sights, course) && size < found.length) {
                    found[size] = set;
                    size++;
                }
            }
            partedIn = NONE;
            known = true;
        }

        private void takeOpen() {
            open = 0;
            for (int g = 0; g < yard.graves && g < PLOTS; g++) {
                open |= yard.kind[g] == PLAIN || yard.kind[g] == UNPAID ? 1 << g : 0;
            }
        }

        private void startWith(int set, Course course) {
            told.startOf(yard);
            for (int g = 0; g < told.graves && g < PLOTS; g++) {
                if ((open >> g & 1) != 0) {
                    told.kind[g] = (set >> g & 1) != 0 ? UNPAID : PLAIN;
                }
            }
            course.start(yard, told, rule);
        }

        private boolean isSeen(int set, Sights sights, Course course) {
            startWith(set, course);
            int last = sights.last();
            boolean agree = true;
            for (int year = 0; year <= last && agree; year++) {
                agree = sights.agree(course.state);
                if (year < last && agree) {
                    course.goYear();
                }
            }
            return agree;
        }

        int inAll() {
            int bits = size > 0 ? open : 0;
            for (int i = 0; i < size && i < found.length; i++) {
                bits &= found[i];
            }
            return bits;
        }

        int inNone() {
            int bits = size > 0 ? open : 0;
            for (int i = 0; i < size && i < found.length; i++) {
                bits &= ~found[i];
            }
            return bits;
        }

        /** Finds by whose CELL at the begin of a YEAR the sets part best. */
        void part(int year, Course course) {
            if (year == partedIn) {
                return;
            }
            partedIn = year;
            Arrays.fill(alike, 0);
            for (int i = 0; i < size && i < found.length; i++) {
                startWith(found[i], course);
                for (int y = 0; y < year && course.state.fallen < course.state.graves; y++) {
                    course.goYear();
                }
                countCells(course.state);
            }
            best = NONE;
            bestAlike = 0;
            for (int g = 0; g < yard.graves && g < PLOTS; g++) {
                int most = mostAlike(g);
                if (best == NONE || most < bestAlike) {
                    best = g;
                    bestAlike = most;
                }
            }
        }

        private void countCells(State state) {
            for (int g = 0; g < yard.graves && g < PLOTS; g++) {
                int at = g * (MOST_CELLS + 1) + (state.lies(g) ? state.cell[g] + 1 : 0);
                if (at >= 0 && at < alike.length) {
                    alike[at]++;
                }
            }
        }

        private int mostAlike(int grave) {
            int most = 0;
            for (int i = 0; i <= MOST_CELLS; i++) {
                int at = grave * (MOST_CELLS + 1) + i;
                if (at >= 0 && at < alike.length) {
                    most = Math.max(most, alike[at]);
                }
            }
            return most;
        }
    }
}
