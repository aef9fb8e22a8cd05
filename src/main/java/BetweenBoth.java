/**
 * Two parties contradict one another; what may stand between both is read from a refutation.
 * Sets of worlds are held as four words of 64 worlds each, so that a whole sentence is joined
 * to another one by four operations. All rows are made with the object and used again: no call
 * makes an object.
 */
public final class BetweenBoth {
    public static final int NONE = -1, UNKNOWN = -1000000001, OUTSIDE = -1000000002, NOT = -1000000003, FULL = -1000000004;

    private static final int LETTERS = 8, WORLDS = 256, SYSTEMS = 3, IMAGES = 2, PARTIES = 2;
    private static final int CLAUSES_MOST = 10, MADE_MOST = 30, STEPS_MOST = CLAUSES_MOST + MADE_MOST;
    private static final int FAULT_BASE = -10;
    private static final int COLOUR_A = 0, COLOUR_B = 1, COLOUR_SHARED = 2;
    private static final int PARTY_A = 0, PARTY_B = 1, PARTY_BOTH = 2;

    private final Text text = new Text();
    private final Marks marks = new Marks();
    private final Image[] images = new Image[IMAGES];
    private final Sentence reading = new Sentence();
    private final Sentence otherReading = new Sentence();
    private final Parts parts = new Parts();
    private final Look look = new Look();
    private final Sums weights = new Sums();
    private Steps steps = new Steps();
    private Steps spare = new Steps();
    private int faultAt = NONE;

    public BetweenBoth() {
        for (int i = 0; i < IMAGES; i++) {
            images[i] = new Image();
        }
    }

    // ---- what is told

    public int feed(int letter) {
        if (!within(letter, 0, 255)) {
            return OUTSIDE;
        }
        return text.add(letter) ? text.length : FULL;
    }

    public int parties() {
        int fault = text.readInto(spare);
        faultAt = fault == 0 ? NONE : text.faultAt;
        text.length = 0;
        if (fault != 0) {
            return FAULT_BASE - fault;
        }
        Steps read = spare;
        spare = steps;
        steps = read;
        marks.count = 0;
        for (int i = 0; i < IMAGES; i++) {
            images[i].kept = false;
        }
        return steps.count;
    }

    public int fault() {
        return faultAt;
    }

    public int told(int what) {
        switch (what) {
            case 0: return steps.clauses;
            case 1: return steps.count;
            case 2: return steps.firstEmpty();
            case 3: return steps.sharedLetters();
            case 4: return look.worldsOf(steps, PARTY_A);
            case 5: return look.worldsOf(steps, PARTY_B);
            case 6: return look.worldsOf(steps, PARTY_BOTH);
            case 7: return look.leastOf(steps);
            case 8: return text.length;
            case 9: return weights.count;
            case 10: return marks.count;
            default: return OUTSIDE;
        }
    }

    public int colour(int letter) {
        return within(letter, 0, LETTERS - 1) ? steps.colourOf(letter) : UNKNOWN;
    }

    public int step(int s, int what) {
        if (!steps.has(s)) {
            return UNKNOWN;
        }
        return within(what, 0, Steps.CELLS - 1) ? steps.cell(s, what) : OUTSIDE;
    }

    public int holds(int s, int world) {
        if (!steps.has(s)) {
            return UNKNOWN;
        }
        if (!within(world, 0, WORLDS - 1)) {
            return OUTSIDE;
        }
        boolean asItIs = (steps.cell(s, Steps.P) & world) != 0;
        boolean notSo = (steps.cell(s, Steps.N) & ~world) != 0;
        return asItIs || notSo ? 1 : 0;
    }

    // ---- what is done

    public int resolve(int i, int j, int letter) {
        if (!steps.has(i) || !steps.has(j) || i == j || !within(letter, 0, LETTERS - 1)) {
            return UNKNOWN;
        }
        if (!steps.canMake(i, j, letter)) {
            return NOT;
        }
        if (steps.noneMoreFits()) {
            return FULL;
        }
        marks.add(steps.count);
        return steps.make(i, j, letter);
    }

    public int seek() {
        int before = steps.count;
        steps.makeSought();
        int made = steps.count - before;
        if (made > 0) {
            marks.add(before);
        }
        return made;
    }

    public int undo() {
        if (marks.count == 0) {
            return NOT;
        }
        steps.count = marks.takeLatest();
        return marks.count;
    }

    // ---- sentences

    public int sentence(int system, int s, int world) {
        if (!steps.has(s)) {
            return UNKNOWN;
        }
        if (!isSystem(system) || !within(world, 0, WORLDS - 1)) {
            return OUTSIDE;
        }
        reading.read(steps, system, s);
        return reading.isSo(world) ? 1 : 0;
    }

    public int about(int system, int s, int what) {
        if (!steps.has(s)) {
            return UNKNOWN;
        }
        if (!isSystem(system) || !within(what, 0, 2)) {
            return OUTSIDE;
        }
        reading.read(steps, system, s);
        if (what == 0) {
            return reading.worldsSo();
        }
        return what == 1 ? reading.speaksOf() : parts.countOf(reading);
    }

    public int between(int system) {
        if (!isSystem(system)) {
            return OUTSIDE;
        }
        int empty = steps.firstEmpty();
        if (empty == NONE) {
            return NOT;
        }
        reading.read(steps, system, empty);
        int bits = look.partiesBear(steps, reading);
        boolean sharedAlone = (reading.speaksOf() & ~steps.sharedLetters()) == 0;
        return sharedAlone ? bits | 4 : bits;
    }

    public int saysMore(int s, int system, int other) {
        if (!steps.has(s)) {
            return UNKNOWN;
        }
        if (!isSystem(system) || !isSystem(other)) {
            return OUTSIDE;
        }
        reading.read(steps, system, s);
        otherReading.read(steps, other, s);
        return reading.isSoOnlyWhere(otherReading) ? 1 : 0;
    }

    public int needless() {
        int empty = steps.firstEmpty();
        return empty == NONE ? NOT : steps.madeButNotFor(empty);
    }

    // ---- sums

    public int sum(int party, int a, int b, int c, int d, int k) {
        if (!within(party, 0, PARTIES - 1) || !isNumber(a) || !isNumber(b) || !isNumber(c) || !isNumber(d)
                || !within(k, -99, 99)) {
            return OUTSIDE;
        }
        if (weights.count >= Sums.MOST) {
            return FULL;
        }
        return weights.add(party, a, b, c, d, k);
    }

    public int weigh(int s, int weight) {
        if (!within(s, 0, weights.count - 1)) {
            return UNKNOWN;
        }
        if (!within(weight, 0, 20)) {
            return OUTSIDE;
        }
        int was = weights.weight[s];
        weights.weight[s] = weight;
        return was;
    }

    public int weighed(int of, int what) {
        if (!within(of, 0, 1) || !within(what, 0, Sums.K)) {
            return OUTSIDE;
        }
        return of == 0 ? weights.whole(what) : weights.middle(what);
    }

    public int sums(int what) {
        switch (what) {
            case 0: return weights.refuted() ? 1 : 0;
            case 1: return weights.freeUnknowns();
            case 2: return weights.middleUnknowns();
            case 3: return (weights.middleUnknowns() & ~weights.freeUnknowns()) == 0 ? 1 : 0;
            default: return OUTSIDE;
        }
    }

    public int seekWeights() {
        if (!within(weights.count, 1, Sums.SOUGHT_MOST)) {
            return NOT;
        }
        return weights.findLeastWeights();
    }

    public int clear() {
        int were = weights.count;
        weights.count = 0;
        return were;
    }

    // ---- images

    public int keep(int i) {
        if (!within(i, 0, IMAGES - 1)) {
            return UNKNOWN;
        }
        images[i].steps.copyFrom(steps);
        images[i].kept = true;
        marks.count = 0;
        return steps.count;
    }

    public int goBack(int i) {
        if (!within(i, 0, IMAGES - 1)) {
            return UNKNOWN;
        }
        if (!images[i].kept) {
            return NOT;
        }
        steps.copyFrom(images[i].steps);
        marks.count = 0;
        return steps.count;
    }

    // ---- bounds

    private static boolean within(int number, int least, int most) {
        return number >= least && number <= most;
    }

    private static boolean isSystem(int system) {
        return within(system, 0, SYSTEMS - 1);
    }

    private static boolean isNumber(int number) {
        return within(number, -9, 9);
    }

    /** THE TEXT and the reading of it, which ends at its first fault. */
    private static final class Text {
        static final int MOST = 240;
        static final int CANNOT_STAND = 1, WRONG_NUMBER = 2, TOO_MANY = 3, CANNOT_BE = 4;
        static final int FIGURES_MOST = 3;

        final int[] letters = new int[MOST];
        int length;
        int at;
        int numberAt;
        int fault;
        int faultAt;

        boolean add(int letter) {
            if (length >= MOST) {
                return false;
            }
            letters[length] = letter;
            length++;
            return true;
        }

        /** Answers the fault's number, 0 if there is none. */
        int readInto(Steps into) {
            at = 0;
            fault = 0;
            into.forgetAll();
            skipBlanks();
            // a turn without a fault takes its word at least: the length is bound enough
            for (int turn = 0; turn < length && at < length && fault == 0; turn++) {
                readWord(into);
                skipBlanks();
            }
            return fault;
        }

        void readWord(Steps into) {
            int word = letters[at];
            boolean clausesMayCome = into.count == into.clauses;
            if (word == 'r') {
                readStep(into);
            } else if (word == 'a' && clausesMayCome) {
                readClause(into, PARTY_A);
            } else if (word == 'b' && clausesMayCome) {
                readClause(into, PARTY_B);
            } else {
                blame(CANNOT_STAND, at);
            }
        }

        void readClause(Steps into, int party) {
            if (into.clauses >= CLAUSES_MOST) {
                blame(TOO_MANY, at);
                return;
            }
            at++;
            int p = readNumber(255);
            int n = readNumber(255);
            if ((p & n) != 0) {
                blame(CANNOT_BE, numberAt);
            }
            readEnd();
            if (fault == 0) {
                into.addClause(party, p, n);
            }
        }

        void readStep(Steps into) {
            if (into.noneMoreFits()) {
                blame(TOO_MANY, at);
                return;
            }
            at++;
            int i = readNumber(into.count - 1);
            int j = readNumber(into.count - 1);
            int letter = readNumber(LETTERS - 1);
            if (fault == 0 && !into.canMake(i, j, letter)) {
                blame(CANNOT_BE, numberAt);
            }
            readEnd();
            if (fault == 0) {
                into.make(i, j, letter);
            }
        }

        /** Answers 0 behind a fault, so that nothing is found wrong with what was not read. */
        int readNumber(int most) {
            if (fault != 0) {
                return 0;
            }
            skipBlanks();
            numberAt = at;
            int number = 0;
            while (at < length && isFigure(letters[at])) {
                // figures beyond the third are a fault, whatever they would add
                if (at - numberAt < FIGURES_MOST) {
                    number = number * 10 + letters[at] - '0';
                }
                at++;
            }
            int figures = at - numberAt;
            if (figures == 0) {
                blame(CANNOT_STAND, at);
            } else if (figures > FIGURES_MOST || number > most) {
                blame(WRONG_NUMBER, numberAt);
            }
            return fault == 0 ? number : 0;
        }

        void readEnd() {
            if (fault != 0) {
                return;
            }
            skipBlanks();
            if (at < length && letters[at] == ';') {
                at++;
            } else {
                blame(CANNOT_STAND, at);
            }
        }

        void skipBlanks() {
            while (at < length && letters[at] == ' ') {
                at++;
            }
        }

        void blame(int number, int where) {
            fault = number;
            faultAt = where;
        }

        static boolean isFigure(int letter) {
            return letter >= '0' && letter <= '9';
        }
    }

    /** Clauses, and the steps made of them behind; a step's cells are numbered as step() asks for them. */
    private static final class Steps {
        static final int P = 0, N = 1, PARTY = 2, FIRST = 3, SECOND = 4, LETTER = 5, GROUND = 6, ROW = 7, CELLS = 8;

        final int[] cells = new int[STEPS_MOST * CELLS];
        int clauses;
        int count;
        int lettersOfA;
        int lettersOfB;

        boolean has(int s) {
            return s >= 0 && s < count;
        }

        int cell(int s, int what) {
            return cells[s * CELLS + what];
        }

        void forgetAll() {
            clauses = 0;
            count = 0;
            lettersOfA = 0;
            lettersOfB = 0;
        }

        void copyFrom(Steps other) {
            System.arraycopy(other.cells, 0, cells, 0, other.count * CELLS);
            clauses = other.clauses;
            count = other.count;
            lettersOfA = other.lettersOfA;
            lettersOfB = other.lettersOfB;
        }

        void addClause(int party, int p, int n) {
            int base = count * CELLS;
            cells[base + P] = p;
            cells[base + N] = n;
            cells[base + PARTY] = party;
            cells[base + FIRST] = NONE;
            cells[base + SECOND] = NONE;
            cells[base + LETTER] = NONE;
            cells[base + GROUND] = 1 << count;
            cells[base + ROW] = 1;
            if (party == PARTY_A) {
                lettersOfA |= p | n;
            } else {
                lettersOfB |= p | n;
            }
            clauses++;
            count++;
        }

        boolean noneMoreFits() {
            return count - clauses >= MADE_MOST;
        }

        boolean canMake(int i, int j, int letter) {
            int bit = 1 << letter;
            boolean letterMeets = (cell(i, P) & bit) != 0 && (cell(j, N) & bit) != 0;
            return letterMeets && (joined(i, j, P, letter) & joined(i, j, N, letter)) == 0;
        }

        int joined(int i, int j, int what, int letter) {
            return (cell(i, what) | cell(j, what)) & ~(1 << letter);
        }

        /** Only behind canMake and noneMoreFits; answers the step's number. */
        int make(int i, int j, int letter) {
            int made = count;
            int base = made * CELLS;
            cells[base + P] = joined(i, j, P, letter);
            cells[base + N] = joined(i, j, N, letter);
            cells[base + PARTY] = NONE;
            cells[base + FIRST] = i;
            cells[base + SECOND] = j;
            cells[base + LETTER] = letter;
            cells[base + GROUND] = cell(i, GROUND) | cell(j, GROUND);
            cells[base + ROW] = 1 + Math.max(cell(i, ROW), cell(j, ROW));
            count++;
            return made;
        }

        /** One walk is enough: what a step once covered stays covered, and new steps come behind. */
        void makeSought() {
            if (noneMoreFits()) {
                return;
            }
            for (int j = 1; j < STEPS_MOST && j < count; j++) {
                for (int i = 0; i < j; i++) {
                    if (meeting(i, j) != 0 && makeOfBoth(i, j)) {
                        return;
                    }
                }
            }
        }

        /** Letters that one has as they are and the other not: without them no step can be made. */
        int meeting(int i, int j) {
            return cell(i, P) & cell(j, N) | cell(i, N) & cell(j, P);
        }

        /** Answers whether seeking ends. */
        boolean makeOfBoth(int i, int j) {
            for (int letter = 0; letter < LETTERS; letter++) {
                if (makeIfNew(i, j, letter) || makeIfNew(j, i, letter)) {
                    return true;
                }
            }
            return false;
        }

        /** Answers whether seeking ends. */
        boolean makeIfNew(int i, int j, int letter) {
            if (!canMake(i, j, letter) || isCovered(joined(i, j, P, letter), joined(i, j, N, letter))) {
                return false;
            }
            return isEmpty(make(i, j, letter)) || noneMoreFits();
        }

        boolean isCovered(int p, int n) {
            for (int s = 0; s < count; s++) {
                if ((cell(s, P) & ~p) == 0 && (cell(s, N) & ~n) == 0) {
                    return true;
                }
            }
            return false;
        }

        boolean isEmpty(int s) {
            return (cell(s, P) | cell(s, N)) == 0;
        }

        int firstEmpty() {
            for (int s = 0; s < count; s++) {
                if (isEmpty(s)) {
                    return s;
                }
            }
            return NONE;
        }

        int sharedLetters() {
            return lettersOfA & lettersOfB;
        }

        int colourOf(int letter) {
            boolean ofA = (lettersOfA >> letter & 1) == 1;
            boolean ofB = (lettersOfB >> letter & 1) == 1;
            if (ofA) {
                return ofB ? COLOUR_SHARED : COLOUR_A;
            }
            return ofB ? COLOUR_B : NONE;
        }

        /** Counts the steps, no clauses, that goal was not made of; goal itself is needed. */
        int madeButNotFor(int goal) {
            long needed = 1L << goal;
            int neededMade = 0;
            for (int s = goal; s >= clauses; s--) {
                if ((needed >> s & 1L) == 1L) {
                    needed |= 1L << cell(s, FIRST) | 1L << cell(s, SECOND);
                    neededMade++;
                }
            }
            return count - clauses - neededMade;
        }
    }

    /** How many steps there were before each of the latest deeds. */
    private static final class Marks {
        static final int MOST = 8;

        final int[] before = new int[MOST];
        int count;

        void add(int mark) {
            if (count == MOST) {
                System.arraycopy(before, 1, before, 0, MOST - 1);
                count--;
            }
            before[count] = mark;
            count++;
        }

        /** Only if there is one. */
        int takeLatest() {
            count--;
            return before[count];
        }
    }

    private static final class Image {
        final Steps steps = new Steps();
        boolean kept;
    }

    /** Sets of worlds: world w is bit w % 64 of word w / 64, so letters 6 and 7 tell the word. */
    private static final class Worlds {
        static final int WORDS = 4, LETTERS_WITHIN = 6;
        private static final long[] SO_WITHIN = {
            0xAAAAAAAAAAAAAAAAL, 0xCCCCCCCCCCCCCCCCL, 0xF0F0F0F0F0F0F0F0L,
            0xFF00FF00FF00FF00L, 0xFFFF0000FFFF0000L, 0xFFFFFFFF00000000L};

        static long whereSo(int letter, int word) {
            if (letter < LETTERS_WITHIN) {
                return SO_WITHIN[letter];
            }
            return (word >> letter - LETTERS_WITHIN & 1) == 1 ? -1L : 0L;
        }

        static long whereClauseHolds(int p, int n, int word) {
            long where = 0L;
            for (int letter = 0; letter < LETTERS; letter++) {
                if ((p >> letter & 1) == 1) {
                    where |= whereSo(letter, word);
                }
                if ((n >> letter & 1) == 1) {
                    where |= ~whereSo(letter, word);
                }
            }
            return where;
        }
    }

    /** The sentence of a step by a system, read from the clauses on. */
    private static final class Sentence {
        static final int OF_A = 0, OF_NEITHER = 1, OF_B = 2;

        final long[] words = new long[STEPS_MOST * Worlds.WORDS];
        int base;

        void read(Steps steps, int system, int s) {
            for (int t = 0; t <= s; t++) {
                for (int word = 0; word < Worlds.WORDS; word++) {
                    words[t * Worlds.WORDS + word] = t < steps.clauses
                            ? ofClause(steps, system, t, word) : ofStep(steps, system, t, word);
                }
            }
            base = s * Worlds.WORDS;
        }

        static long ofClause(Steps steps, int system, int t, int word) {
            boolean ofA = steps.cell(t, Steps.PARTY) == PARTY_A;
            if (ofA && system != OF_A) {
                return 0L;
            }
            if (!ofA && system != OF_B) {
                return -1L;
            }
            int shared = steps.sharedLetters();
            long oneAsItIs = Worlds.whereClauseHolds(
                    steps.cell(t, Steps.P) & shared, steps.cell(t, Steps.N) & shared, word);
            return ofA ? oneAsItIs : ~oneAsItIs;
        }

        long ofStep(Steps steps, int system, int t, int word) {
            long first = words[steps.cell(t, Steps.FIRST) * Worlds.WORDS + word];
            long second = words[steps.cell(t, Steps.SECOND) * Worlds.WORDS + word];
            int letter = steps.cell(t, Steps.LETTER);
            int colour = steps.colourOf(letter);
            if (system == OF_NEITHER && colour == COLOUR_SHARED) {
                long so = Worlds.whereSo(letter, word);
                return so & second | ~so & first;
            }
            boolean either = system == OF_B ? colour != COLOUR_B : colour == COLOUR_A;
            return either ? first | second : first & second;
        }

        long word(int word) {
            return words[base + word];
        }

        boolean isSo(int world) {
            return (word(world >> Worlds.LETTERS_WITHIN) >>> (world & 63) & 1L) == 1L;
        }

        int worldsSo() {
            int many = 0;
            for (int word = 0; word < Worlds.WORDS; word++) {
                many += Long.bitCount(word(word));
            }
            return many;
        }

        boolean isSoOnlyWhere(Sentence other) {
            for (int word = 0; word < Worlds.WORDS; word++) {
                if ((word(word) & ~other.word(word)) != 0L) {
                    return false;
                }
            }
            return true;
        }

        int speaksOf() {
            int letters = 0;
            for (int letter = 0; letter < LETTERS; letter++) {
                for (int word = 0; word < Worlds.WORDS; word++) {
                    if (hangsOn(letter, word)) {
                        letters |= 1 << letter;
                    }
                }
            }
            return letters;
        }

        boolean hangsOn(int letter, int word) {
            if (letter >= Worlds.LETTERS_WITHIN) {
                return word(word) != word(word ^ 1 << letter - Worlds.LETTERS_WITHIN);
            }
            long unlike = word(word) ^ word(word) >>> (1 << letter);
            return (unlike & ~Worlds.whereSo(letter, word)) != 0L;
        }
    }

    /**
     * Counts the parts of a sentence from the last letter back: with letters below t told, what is
     * left is known by what it becomes as t is so or not, and is a part of its own if these differ.
     */
    private static final class Parts {
        // 0 and 1 name what is never and always so; a part's name is above
        static final int FIRST_NAME = 2;

        final int[] names = new int[WORLDS];
        final int[] pairs = new int[WORLDS];
        int count;

        int countOf(Sentence sentence) {
            for (int world = 0; world < WORLDS; world++) {
                names[world] = sentence.isSo(world) ? 1 : 0;
            }
            count = 0;
            for (int letter = LETTERS - 1; letter >= 0; letter--) {
                tellBack(letter);
            }
            return count;
        }

        void tellBack(int letter) {
            int firstHere = count;
            int bit = 1 << letter;
            for (int told = 0; told < bit; told++) {
                if (names[told] != names[told | bit]) {
                    names[told] = nameOf(names[told] * WORLDS + names[told | bit], firstHere);
                }
            }
        }

        /** Like pairs of another letter are other parts: only this letter's are looked through. */
        int nameOf(int pair, int firstHere) {
            for (int part = firstHere; part < count; part++) {
                if (pairs[part] == pair) {
                    return part + FIRST_NAME;
                }
            }
            pairs[count] = pair;
            count++;
            return count - 1 + FIRST_NAME;
        }
    }

    /** Looks at all worlds, by clauses alone. */
    private static final class Look {
        // worlds of a set of clauses stand in the row of its lowest clause; the last row is of no clause
        final long[] rows = new long[(CLAUSES_MOST + 1) * Worlds.WORDS];
        final long[] ofClauses = new long[CLAUSES_MOST * Worlds.WORDS];

        static long whereAllHold(Steps steps, int party, int word) {
            long where = -1L;
            for (int s = 0; s < steps.clauses; s++) {
                if (party == PARTY_BOTH || steps.cell(s, Steps.PARTY) == party) {
                    where &= Worlds.whereClauseHolds(steps.cell(s, Steps.P), steps.cell(s, Steps.N), word);
                }
            }
            return where;
        }

        int worldsOf(Steps steps, int party) {
            int many = 0;
            for (int word = 0; word < Worlds.WORDS; word++) {
                many += Long.bitCount(whereAllHold(steps, party, word));
            }
            return many;
        }

        /** Bits 1 and 2 of what stands between both. */
        int partiesBear(Steps steps, Sentence sentence) {
            int bits = 3;
            for (int word = 0; word < Worlds.WORDS; word++) {
                long so = sentence.word(word);
                if ((whereAllHold(steps, PARTY_A, word) & ~so) != 0L) {
                    bits &= ~1;
                }
                if ((whereAllHold(steps, PARTY_B, word) & so) != 0L) {
                    bits &= ~2;
                }
            }
            return bits;
        }

        /** Sets rise, so of like many clauses the least set comes first. */
        int leastOf(Steps steps) {
            readClauses(steps);
            int least = NONE;
            int fewest = CLAUSES_MOST + 1;
            for (int set = 1; set < 1 << steps.clauses; set++) {
                boolean contradicts = fillRow(set);
                if (contradicts && Integer.bitCount(set) < fewest) {
                    least = set;
                    fewest = Integer.bitCount(set);
                }
            }
            return least;
        }

        void readClauses(Steps steps) {
            for (int s = 0; s < steps.clauses; s++) {
                for (int word = 0; word < Worlds.WORDS; word++) {
                    ofClauses[s * Worlds.WORDS + word] = Worlds.whereClauseHolds(
                            steps.cell(s, Steps.P), steps.cell(s, Steps.N), word);
                }
            }
            for (int word = 0; word < Worlds.WORDS; word++) {
                rows[CLAUSES_MOST * Worlds.WORDS + word] = -1L;
            }
        }

        /**
         * As sets rise, the row of the set without its lowest clause still stands: between the two
         * come only sets with clauses below. Answers whether no world is left.
         */
        boolean fillRow(int set) {
            int lowest = lowestOf(set);
            int above = lowestOf(set & set - 1);
            long left = 0L;
            for (int word = 0; word < Worlds.WORDS; word++) {
                long where = rows[above * Worlds.WORDS + word] & ofClauses[lowest * Worlds.WORDS + word];
                rows[lowest * Worlds.WORDS + word] = where;
                left |= where;
            }
            return left == 0L;
        }

        static int lowestOf(int set) {
            return Math.min(Integer.numberOfTrailingZeros(set), CLAUSES_MOST);
        }
    }

    /** Weighed sums: a row has the numbers of unknowns 0 .. 3, then K. */
    private static final class Sums {
        static final int MOST = 8, SOUGHT_MOST = 6, WEIGHT_SOUGHT_MOST = 6, UNKNOWNS = 4, K = 4, ROW = 5;

        final int[] rows = new int[MOST * ROW];
        final int[] party = new int[MOST];
        final int[] weight = new int[MOST];
        int count;
        private final int[] tried = new int[SOUGHT_MOST];
        // all 0 between searches: what is added is taken off again
        private final int[] total = new int[ROW];
        // what sums from s on can add at least and at most, each with weight 1 at most
        private final int[] low = new int[(SOUGHT_MOST + 1) * ROW];
        private final int[] high = new int[(SOUGHT_MOST + 1) * ROW];

        int add(int ofParty, int a, int b, int c, int d, int k) {
            int base = count * ROW;
            rows[base] = a;
            rows[base + 1] = b;
            rows[base + 2] = c;
            rows[base + 3] = d;
            rows[base + K] = k;
            party[count] = ofParty;
            weight[count] = 0;
            count++;
            return count - 1;
        }

        int whole(int what) {
            int added = 0;
            for (int s = 0; s < count; s++) {
                added += rows[s * ROW + what] * weight[s];
            }
            return added;
        }

        int middle(int what) {
            int added = 0;
            for (int s = 0; s < count; s++) {
                if (party[s] == PARTY_A) {
                    added += rows[s * ROW + what] * weight[s];
                }
            }
            return added;
        }

        boolean refuted() {
            for (int unknown = 0; unknown < UNKNOWNS; unknown++) {
                if (whole(unknown) != 0) {
                    return false;
                }
            }
            return whole(K) < 0;
        }

        int unknownsOf(int ofParty) {
            int set = 0;
            for (int s = 0; s < count; s++) {
                for (int unknown = 0; unknown < UNKNOWNS; unknown++) {
                    if (party[s] == ofParty && rows[s * ROW + unknown] != 0) {
                        set |= 1 << unknown;
                    }
                }
            }
            return set;
        }

        int freeUnknowns() {
            int ofOneAlone = unknownsOf(PARTY_A) ^ unknownsOf(PARTY_B);
            return ~ofOneAlone & (1 << UNKNOWNS) - 1;
        }

        int middleUnknowns() {
            int set = 0;
            for (int unknown = 0; unknown < UNKNOWNS; unknown++) {
                if (middle(unknown) != 0) {
                    set |= 1 << unknown;
                }
            }
            return set;
        }

        /** Only for 1 to 6 sums; answers the greatest weight, or NONE. */
        int findLeastWeights() {
            boundWhatFollows();
            for (int most = 1; most <= WEIGHT_SOUGHT_MOST; most++) {
                if (findFrom(this, 0, most)) {
                    System.arraycopy(tried, 0, weight, 0, count);
                    // with less at most there was none: so one of them has it
                    return most;
                }
            }
            return NONE;
        }

        void boundWhatFollows() {
            for (int what = 0; what < ROW; what++) {
                low[count * ROW + what] = 0;
                high[count * ROW + what] = 0;
                for (int s = count - 1; s >= 0; s--) {
                    int number = rows[s * ROW + what];
                    low[s * ROW + what] = low[(s + 1) * ROW + what] + Math.min(number, 0);
                    high[s * ROW + what] = high[(s + 1) * ROW + what] + Math.max(number, 0);
                }
            }
        }

        /** Weights of sum s and on, the least first; s is the depth, 6 at most. */
        private static boolean findFrom(Sums sums, int s, int most) {
            if (!sums.canStillRefute(s, most)) {
                return false;
            }
            if (s >= sums.count) {
                return true;
            }
            for (int w = 0; w <= most; w++) {
                sums.tried[s] = w;
                sums.addToTotal(s, w);
                boolean found = findFrom(sums, s + 1, most);
                sums.addToTotal(s, -w);
                if (found) {
                    return true;
                }
            }
            return false;
        }

        /** With no sum left to come, this is just whether they are refuted. */
        private boolean canStillRefute(int s, int most) {
            int base = s * ROW;
            for (int unknown = 0; unknown < UNKNOWNS; unknown++) {
                if (total[unknown] + most * low[base + unknown] > 0 || total[unknown] + most * high[base + unknown] < 0) {
                    return false;
                }
            }
            return total[K] + most * low[base + K] < 0;
        }

        private void addToTotal(int s, int times) {
            for (int what = 0; what < ROW; what++) {
                total[what] += rows[s * ROW + what] * times;
            }
        }
    }
}
