/**
 * Poems of a few lines: words of kinds, scanned by metres with as few licences as can be, their
 * rhymes, and what would be if words were others. Answers are numbers; refusals are answers, too.
 */
public final class FeetAndRhymes {
    public static final int NONE = -1000000, BAD = -1000001, STATE = -1000002, FULL = -1000003;

    private static final int FINDINGS = -1000010;
    private static final int NULL_FOUND = 1, PLACE_FOUND = 2, KIND_FOUND = 3, SIZE_FOUND = 4, STORE_FOUND = 5;
    private static final int FAULT_PLACES = -1000100;
    private static final int MISPLACED = 1, UNTOLD_NUMBER = 2, LINE_TOO_MANY = 3, NO_VOWEL = 4;

    private static final int ROWS = 8, ITEMS = 40, LANES = 3;
    private static final int TAPE_BYTES = 130;
    private static final int LINES = 4, LINE_WORDS = 5, WORDS = 20, LETTERS = 8, SYLLABLES = 4;
    private static final int FIRST = 1, LAST = 2, EVEN = 3, SMALL = 4, MUTE = 5;
    private static final int LETTER_E = 4;
    private static final int VOWELS = 1 | 1 << LETTER_E | 1 << 8 | 1 << 14 | 1 << 20;
    private static final int METRE_FEET = 5;
    private static final int[] FOOT_SIZE = {2, 2, 3, 3};
    private static final int[] FOOT_HEAVY = {2, 1, 4, 1};
    private static final int[] FOOT_TURNED = {1, 0, 3, 2};
    private static final int[] FOOT_WEAK_END = {0, 1, 0, 2};
    private static final int SYLLABLES_OVER = 2;
    private static final int STRONG_IN_LIGHT = 2, WEAK_IN_HEAVY = 3;
    /** Four words of a line have a next one; each may run on or not, the first foot turned or not. */
    private static final int SCAN_OPTIONS = 32;
    private static final int ACTS = 24, IMAGES = 2, TRACE = 16;
    private static final int COST_LIMIT = 99, CHANCE_TENTHS = 10, CHANCE_SYLLABLES = 8;
    private static final int DRAWS = 20, SEED_LIMIT = 999999;
    private static final long DRAW_FACTOR = 16807L, DRAW_MODULUS = 2147483647L;
    private static final int[] KIND_ABOVE = {-1, 0, 1, 1, 0, 4};
    private static final int[] SIZE_BODIES = {10, 11, 12, 11, 13, 14};
    private static final int[] MARK_BODIES = {20, 21, 24, 22, 23, 23};
    private static final int BODY_DEPTH = 10;
    private static final int[] SCHEME_NAMES = {0x0011, 0x0101, 0x0110, 0x0000, 0x0121};

    private final Row[] rows = new Row[ROWS];
    private final Reader reader = new Reader();
    private final Poem verse;
    private final Poem draft;
    private final Poem[] images = new Poem[IMAGES];
    private final Acts acts;
    private final Ear ear = new Ear();
    private final int[] hits = new int[CHANCE_SYLLABLES + 1];
    private final int[] bodies = new int[TRACE];
    private int begun;
    private int latestFault;
    private int latestFinding;

    public FeetAndRhymes() {
        Spelling blank = new Spelling(new int[0], 0);
        for (int r = 0; r < ROWS; r++) {
            rows[r] = new Row();
        }
        verse = new Poem(blank);
        draft = new Poem(blank);
        for (int k = 0; k < IMAGES; k++) {
            images[k] = new Poem(blank);
        }
        acts = new Acts(blank);
    }

    // ---- rows

    public int row(int row, int lane, int n) {
        if (!isRow(row) || lane < 0 || lane >= LANES || n > ITEMS) {
            return BAD;
        }
        if (n < 0) {
            return found(SIZE_FOUND);
        }
        latestFinding = 0;
        rows[row].begin(lane, n);
        return n;
    }

    public int set(int row, int i, int v) {
        if (!isRow(row)) {
            return BAD;
        }
        Row r = rows[row];
        if (r.isMissing()) {
            return found(NULL_FOUND);
        }
        if (!r.holds(i, 1)) {
            return found(PLACE_FOUND);
        }
        latestFinding = 0;
        r.items[i] = r.narrowed(v);
        return r.items[i];
    }

    public int copy(int a, int i, int b, int j, int n) {
        if (!isRow(a) || !isRow(b)) {
            return BAD;
        }
        Row from = rows[a];
        Row to = rows[b];
        if (from.isMissing() || to.isMissing()) {
            return found(NULL_FOUND);
        }
        if (from.lane != to.lane) {
            return found(STORE_FOUND);
        }
        if (!from.holds(i, n) || !to.holds(j, n)) {
            return found(PLACE_FOUND);
        }
        latestFinding = 0;
        System.arraycopy(from.items, i, to.items, j, n);
        return n;
    }

    public int drop(int row) {
        if (!isRow(row)) {
            return BAD;
        }
        Row r = rows[row];
        if (r.isMissing()) {
            return found(NULL_FOUND);
        }
        latestFinding = 0;
        r.lane = Row.MISSING;
        return r.size;
    }

    // ---- what is told

    public int feed(int letter) {
        if (letter < 0 || letter > 255) {
            return BAD;
        }
        if (reader.length >= TAPE_BYTES) {
            return FULL;
        }
        reader.tape[reader.length] = letter;
        reader.length++;
        return reader.length;
    }

    public int poem() {
        reader.readInto(draft);
        reader.length = 0;
        if (reader.fault != 0) {
            latestFault = reader.fault;
            return FAULT_PLACES - reader.place;
        }
        verse.becomeAs(draft);
        acts.kept = 0;
        return verse.lines;
    }

    public int fault() {
        return latestFault;
    }

    public int undo() {
        if (acts.kept <= 0) {
            return STATE;
        }
        acts.undoLatest(verse);
        return acts.kept;
    }

    // ---- what is done

    public int become(int word, int kind) {
        if (!verse.hasWord(word) || !isKind(kind)) {
            return BAD;
        }
        int was = verse.kinds[word];
        if (was == kind) {
            return STATE;
        }
        acts.keep(Acts.BECAME, word, was);
        verse.kinds[word] = kind;
        return was;
    }

    public int put(int line, int place, int kind, int row, int n) {
        if (!verse.hasLine(line) || place < 0 || place > verse.sizes[line]) {
            return BAD;
        }
        if (!isKind(kind) || !isRow(row) || n < 1 || n > LETTERS) {
            return BAD;
        }
        if (verse.sizes[line] >= LINE_WORDS) {
            return FULL;
        }
        Row r = rows[row];
        if (r.isMissing()) {
            return found(NULL_FOUND);
        }
        if (!r.holds(0, n) || !areLetters(r.items, n)) {
            return found(PLACE_FOUND);
        }
        if (!hasVowel(r.items, n)) {
            return STATE;
        }
        latestFinding = 0;
        int number = verse.firstOf(line) + place;
        verse.insert(line, number, new Spelling(r.items, n), kind);
        acts.keep(Acts.PUT, number, line);
        return number;
    }

    public int take(int word) {
        if (!verse.hasWord(word)) {
            return BAD;
        }
        int line = verse.lineOf(word);
        if (verse.sizes[line] <= 1) {
            return STATE;
        }
        acts.keepTaken(word, line, verse.kinds[word], verse.spelled[word]);
        verse.remove(line, word);
        return verse.sizes[line];
    }

    public int swap(int a, int b) {
        if (!verse.hasWord(a) || !verse.hasWord(b)) {
            return BAD;
        }
        if (a == b) {
            return STATE;
        }
        verse.exchange(a, b);
        acts.keep(Acts.SWAPPED, a, b);
        return Math.abs(a - b) + 1;
    }

    public int metre(int foot, int feet) {
        if (verse.lines == 0) {
            return STATE;
        }
        if (!isMetre(foot, feet)) {
            return BAD;
        }
        int was = 10 * verse.foot + verse.feet;
        acts.keep(Acts.METRE, verse.foot, verse.feet);
        verse.foot = foot;
        verse.feet = feet;
        return was;
    }

    public int word(int word, int what) {
        if (!verse.hasWord(word)) {
            return BAD;
        }
        Spelling spelling = verse.spelled[word];
        if (what >= 10) {
            int i = what - 10;
            return i < spelling.length ? spelling.letters[i] : NONE;
        }
        int line = verse.lineOf(word);
        switch (what) {
            case 0: return line;
            case 1: return word - verse.firstOf(line);
            case 2: return spelling.length;
            case 3: return spelling.syllables;
            case 4: return verse.strongOnes(word);
            case 5: return verse.eitherOnes(word);
            default: return BAD;
        }
    }

    public int line(int line, int what) {
        if (!verse.hasLine(line)) {
            return BAD;
        }
        int last = verse.lastOf(line);
        if (what >= 10) {
            return verse.tailLetter(last, what - 10);
        }
        switch (what) {
            case 0: return verse.sizes[line];
            case 1: return verse.firstOf(line);
            case 2: return verse.syllablesOf(line);
            case 3: return verse.schemeNumber(line);
            case 4: return verse.tailLength(last);
            case 5: return verse.joinsOf(line);
            default: return BAD;
        }
    }

    // ---- scans

    public int scan(int line, int foot, int feet, int what) {
        if (!verse.hasLine(line) || !isMetre(foot, feet) || what < 0 || what > 1) {
            return BAD;
        }
        ear.hear(verse, line);
        int least = ear.leastBy(foot, feet);
        return what == 0 ? least : ear.ways;
    }

    public int nearest(int line, int what) {
        if (!verse.hasLine(line) || what < 0 || what > 2) {
            return BAD;
        }
        return nearestOf(line, line + 1, what);
    }

    public int whole(int what) {
        if (verse.lines == 0) {
            return STATE;
        }
        switch (what) {
            case 0: return verse.foot;
            case 1: return verse.feet;
            case 2: return together(0, verse.lines, verse.foot, verse.feet);
            case 3:
            case 4:
            case 5: return nearestOf(0, verse.lines, what - 3);
            case 6: return schemeName();
            case 7: return verse.tellScheme();
            default: return BAD;
        }
    }

    public int rhymes(int a, int b) {
        if (!verse.hasLine(a) || !verse.hasLine(b)) {
            return BAD;
        }
        return verse.tailsAlike(verse.lastOf(a), verse.lastOf(b)) ? 1 : 0;
    }

    // ---- foretold

    public int ends(int line, int other) {
        if (!verse.hasLine(line) || !verse.hasLine(other) || line == other) {
            return BAD;
        }
        int last = verse.lastOf(other);
        int bits = 0;
        for (int w = 0; w < verse.words; w++) {
            if (verse.tailsAlike(w, last)) {
                bits |= 1 << w;
            }
        }
        return bits;
    }

    public int kinds(int word, int v) {
        if (!verse.hasWord(word) || v < 0 || v > COST_LIMIT) {
            return BAD;
        }
        draft.becomeAs(verse);
        int line = draft.lineOf(word);
        int bits = 0;
        for (int k = FIRST; k <= MUTE; k++) {
            draft.kinds[word] = k;
            ear.hear(draft, line);
            if (ear.leastBy(draft.foot, draft.feet) == v) {
                bits |= 1 << k;
            }
        }
        return bits;
    }

    public int who(int word, int which, int row, int i) {
        if (!verse.hasWord(word) || which < 0 || which > 2 || !isRow(row)) {
            return BAD;
        }
        Row r = rows[row];
        if (r.isMissing()) {
            return found(NULL_FOUND);
        }
        if (!r.holds(i, verse.lines)) {
            return found(PLACE_FOUND);
        }
        latestFinding = 0;
        if (which == 0) {
            return feetAsTold(r, i);
        }
        return which == 1 ? footAsTold(r, i) : kindsAsTold(word, r, i);
    }

    public long stressed(int line, int v, int p, int what) {
        if (!verse.hasLine(line) || v < 0 || v > COST_LIMIT) {
            return BAD;
        }
        if (p < 0 || p > CHANCE_TENTHS || what < 0 || what > 1) {
            return BAD;
        }
        ear.hear(verse, line);
        int open = Integer.bitCount(ear.either);
        if (open > CHANCE_SYLLABLES) {
            return FULL;
        }
        countHits(v, open);
        long above = 0;
        for (int k = 0; k <= open; k++) {
            above += hits[k] * power(p, k) * power(CHANCE_TENTHS - p, open - k);
        }
        long below = power(CHANCE_TENTHS, open);
        long shared = Math.max(1L, commonDivisor(below, above));
        return what == 0 ? above / shared : below / shared;
    }

    public int drawn(int n, int seed, int what) {
        if (verse.lines == 0) {
            return STATE;
        }
        if (n < 0 || n > DRAWS || seed < 1 || seed > SEED_LIMIT || what < 0 || what > 1) {
            return BAD;
        }
        draft.becomeAs(verse);
        long x = seed;
        int sum = 0;
        int without = 0;
        for (int i = 0; i < n; i++) {
            x = x * DRAW_FACTOR % DRAW_MODULUS;
            int least = leastOfDrawn(x);
            if (least == NONE) {
                without++;
            } else {
                sum += least;
            }
        }
        return what == 0 ? sum : without;
    }

    public int image(int k) {
        if (k < 0 || k >= IMAGES) {
            return BAD;
        }
        if (verse.lines == 0) {
            return STATE;
        }
        images[k].becomeAs(verse);
        return 1;
    }

    public int restore(int k) {
        if (k < 0 || k >= IMAGES) {
            return BAD;
        }
        if (images[k].lines == 0) {
            return STATE;
        }
        verse.becomeAs(images[k]);
        acts.kept = 0;
        return 1;
    }

    // ---- asked

    public int kind(int one) {
        return verse.hasWord(one) ? verse.kinds[one] : BAD;
    }

    public int as(int one, int kind) {
        if (!verse.hasWord(one) || kind < 0 || kind > MUTE) {
            return BAD;
        }
        if (!isAlso(verse.kinds[one], kind)) {
            return found(KIND_FOUND);
        }
        latestFinding = 0;
        return one;
    }

    public int ask(int one, int what) {
        if (!verse.hasWord(one) || what < 0 || what > 1) {
            return BAD;
        }
        begun = 0;
        return answerOf(bodyOf(verse.kinds[one], what), one, 0);
    }

    public int trace(int i) {
        return i >= 0 && i < begun ? bodies[i] : NONE;
    }

    public int count(int what) {
        switch (what) {
            case 0: return rowsThere();
            case 1: return verse.words;
            case 2: return verse.lines;
            case 3: return verse.allLetters();
            case 4: return verse.allSyllables();
            case 5: return acts.kept;
            case 6: return reader.length;
            default: return BAD;
        }
    }

    public int status() {
        return latestFinding;
    }

    // ---- what numbers may be

    private static boolean isRow(int row) {
        return row >= 0 && row < ROWS;
    }

    private static boolean isKind(int kind) {
        return kind >= FIRST && kind <= MUTE;
    }

    private static boolean isMetre(int foot, int feet) {
        return foot >= 0 && foot < FOOT_SIZE.length && feet >= 1 && feet <= METRE_FEET;
    }

    private static boolean isVowel(int letter) {
        return letter >= 0 && letter < 26 && (VOWELS >> letter & 1) == 1;
    }

    private static boolean areLetters(int[] items, int n) {
        for (int i = 0; i < n && i < items.length; i++) {
            if (items[i] < 0 || items[i] > 25) {
                return false;
            }
        }
        return true;
    }

    private static boolean hasVowel(int[] items, int n) {
        for (int i = 0; i < n && i < items.length; i++) {
            if (isVowel(items[i])) {
                return true;
            }
        }
        return false;
    }

    private static boolean isAlso(int kind, int asked) {
        int k = kind;
        for (int step = 0; step < KIND_ABOVE.length && k >= 0 && k < KIND_ABOVE.length; step++) {
            if (k == asked) {
                return true;
            }
            k = KIND_ABOVE[k];
        }
        return false;
    }

    private int found(int finding) {
        latestFinding = finding;
        return FINDINGS - finding;
    }

    private int rowsThere() {
        int there = 0;
        for (int r = 0; r < ROWS; r++) {
            if (!rows[r].isMissing()) {
                there++;
            }
        }
        return there;
    }

    // ---- scans of several lines

    private int together(int from, int to, int foot, int feet) {
        int sum = 0;
        for (int l = from; l < to && l < LINES; l++) {
            ear.hear(verse, l);
            int least = ear.leastBy(foot, feet);
            if (least == NONE) {
                return NONE;
            }
            sum += least;
        }
        return sum;
    }

    private int nearestOf(int from, int to, int what) {
        int best = NONE;
        int bestFoot = NONE;
        int bestFeet = NONE;
        for (int foot = 0; foot < FOOT_SIZE.length; foot++) {
            for (int feet = 1; feet <= METRE_FEET; feet++) {
                int sum = together(from, to, foot, feet);
                if (sum != NONE && (best == NONE || sum < best)) {
                    best = sum;
                    bestFoot = foot;
                    bestFeet = feet;
                }
            }
        }
        if (what == 0) {
            return bestFoot;
        }
        return what == 1 ? bestFeet : best;
    }

    private int schemeName() {
        if (verse.lines != LINES) {
            return 0;
        }
        verse.tellScheme();
        int told = 0;
        for (int l = 0; l < LINES; l++) {
            told = told << 4 | verse.scheme[l];
        }
        for (int name = 0; name < SCHEME_NAMES.length; name++) {
            if (SCHEME_NAMES[name] == told) {
                return name + 1;
            }
        }
        return 0;
    }

    // ---- what would be

    private int feetAsTold(Row told, int from) {
        int bits = 0;
        for (int feet = 1; feet <= METRE_FEET; feet++) {
            if (isAsTold(verse, verse.foot, feet, told, from)) {
                bits |= 1 << feet;
            }
        }
        return bits;
    }

    private int footAsTold(Row told, int from) {
        int bits = 0;
        for (int foot = 0; foot < FOOT_SIZE.length; foot++) {
            if (isAsTold(verse, foot, verse.feet, told, from)) {
                bits |= 1 << foot;
            }
        }
        return bits;
    }

    private int kindsAsTold(int word, Row told, int from) {
        draft.becomeAs(verse);
        int bits = 0;
        for (int k = FIRST; k <= MUTE; k++) {
            draft.kinds[word] = k;
            if (isAsTold(draft, draft.foot, draft.feet, told, from)) {
                bits |= 1 << k;
            }
        }
        return bits;
    }

    private boolean isAsTold(Poem poem, int foot, int feet, Row told, int from) {
        if (!told.holds(from, poem.lines)) {
            return false;
        }
        for (int l = 0; l < poem.lines; l++) {
            ear.hear(poem, l);
            int least = ear.leastBy(foot, feet);
            if (told.items[from + l] != (least == NONE ? -1 : least)) {
                return false;
            }
        }
        return true;
    }

    /** By how many of the line's open syllables are strong: in how many cases it costs v or less. */
    private void countHits(int v, int open) {
        for (int k = 0; k < hits.length; k++) {
            hits[k] = 0;
        }
        ear.fit(verse.foot, verse.feet);
        int chosen = 0;
        for (int c = 0; c < 1 << open; c++) {
            int strong = ear.strong | chosen;
            ear.judge(strong, ~strong);
            if (ear.least != NONE && ear.least <= v) {
                hits[Integer.bitCount(c)]++;
            }
            // The next larger set of bits within those of either: there is none left out.
            chosen = chosen - ear.either & ear.either;
        }
    }

    private static long power(int base, int exponent) {
        long product = 1;
        for (int i = 0; i < exponent; i++) {
            product *= base;
        }
        return product;
    }

    private static long commonDivisor(long a, long b) {
        long x = a;
        long y = b;
        // Both stay below 10^9, where Euclid's way has far fewer than 100 steps.
        for (int step = 0; step < 100 && y != 0; step++) {
            long rest = x % y;
            x = y;
            y = rest;
        }
        return x;
    }

    private int leastOfDrawn(long x) {
        if (draft.words < 1) {
            return NONE;
        }
        int word = (int) (x % draft.words);
        if (!draft.hasWord(word)) {
            return NONE;
        }
        draft.kinds[word] = (int) (x / 16 % 5) + 1;
        ear.hear(draft, draft.lineOf(word));
        return ear.leastBy(draft.foot, draft.feet);
    }

    // ---- bodies of asks

    private void leave(int body) {
        if (begun < TRACE) {
            bodies[begun] = body;
            begun++;
        }
    }

    private static int bodyOf(int kind, int what) {
        if (kind < 0 || kind > MUTE) {
            return what == 0 ? 10 : 20;
        }
        return what == 0 ? SIZE_BODIES[kind] : MARK_BODIES[kind];
    }

    /** A body goes on with the ones that it names; size and mark within it begin anew by the kind. */
    private int answerOf(int body, int one, int depth) {
        if (depth > BODY_DEPTH || !verse.hasWord(one)) {
            return 0;
        }
        leave(body);
        int deeper = depth + 1;
        int kind = verse.kinds[one];
        switch (body) {
            case 10: return verse.spelled[one].length;
            case 11: return answerOf(10, one, deeper) + answerOf(bodyOf(kind, 1), one, deeper);
            case 12: return 0 - answerOf(11, one, deeper);
            case 13: return answerOf(10, one, deeper) - 100;
            case 14: return 2 * answerOf(13, one, deeper);
            case 21: return answerOf(20, one, deeper) + verse.spelled[one].syllables;
            case 22: return answerOf(21, one, deeper) - 1000;
            case 23: return answerOf(20, one, deeper) - answerOf(bodyOf(kind, 0), one, deeper);
            case 24: return 2 * answerOf(21, one, deeper);
            default: return one;
        }
    }

    // ---- what it is made of

    private static final class Row {
        static final int MISSING = -1;
        final int[] items = new int[ITEMS];
        int lane = MISSING;
        int size;

        boolean isMissing() {
            return lane == MISSING;
        }

        boolean holds(int from, int n) {
            return from >= 0 && n >= 0 && from <= size && n <= size - from;
        }

        void begin(int newLane, int n) {
            lane = newLane;
            size = n;
            for (int i = 0; i < ITEMS; i++) {
                items[i] = 0;
            }
        }

        int narrowed(int v) {
            if (lane == 0) {
                return (byte) v;
            }
            return lane == 1 ? (short) v : v;
        }
    }

    /** The letters of a word and where its syllables have their vowels; it never changes. */
    private static final class Spelling {
        final int length;
        final int[] letters;
        final int syllables;
        final int[] starts = new int[SYLLABLES];
        /** How many letters there are up to an e that is no run of its own. */
        final int sounding;

        Spelling(int[] source, int n) {
            length = Math.max(0, Math.min(Math.min(n, LETTERS), source.length));
            letters = new int[length];
            int runs = 0;
            boolean inRun = false;
            for (int i = 0; i < length; i++) {
                letters[i] = source[i];
                boolean vowel = isVowel(letters[i]);
                if (vowel && !inRun && runs < SYLLABLES) {
                    starts[runs] = i;
                    runs++;
                }
                inRun = vowel;
            }
            boolean dumb = runs > 1 && letters[length - 1] == LETTER_E && starts[runs - 1] == length - 1;
            syllables = dumb ? runs - 1 : runs;
            sounding = dumb ? length - 1 : length;
        }

        boolean beginsWithVowel() {
            return length > 0 && isVowel(letters[0]);
        }

        boolean endsOnVowel() {
            return length > 0 && sounding == length && isVowel(letters[length - 1]);
        }
    }

    private static final class Poem {
        int foot;
        int feet;
        /** None only where there is no poem. */
        int lines;
        int words;
        final int[] sizes = new int[LINES];
        final int[] kinds = new int[WORDS];
        final Spelling[] spelled = new Spelling[WORDS];
        final int[] scheme = new int[LINES];

        Poem(Spelling blank) {
            for (int w = 0; w < WORDS; w++) {
                spelled[w] = blank;
            }
        }

        boolean hasWord(int word) {
            return word >= 0 && word < words;
        }

        boolean hasLine(int line) {
            return line >= 0 && line < lines;
        }

        void becomeAs(Poem other) {
            foot = other.foot;
            feet = other.feet;
            lines = other.lines;
            words = other.words;
            for (int l = 0; l < LINES; l++) {
                sizes[l] = other.sizes[l];
            }
            for (int w = 0; w < WORDS; w++) {
                kinds[w] = other.kinds[w];
                spelled[w] = other.spelled[w];
            }
        }

        void beginLine() {
            if (lines < LINES) {
                sizes[lines] = 0;
                lines++;
            }
        }

        int firstOf(int line) {
            int first = 0;
            for (int l = 0; l < line && l < LINES; l++) {
                first += sizes[l];
            }
            return first;
        }

        int lastOf(int line) {
            return firstOf(line) + sizes[line] - 1;
        }

        int lineOf(int word) {
            int behind = 0;
            for (int l = 0; l < lines; l++) {
                behind += sizes[l];
                if (word < behind) {
                    return l;
                }
            }
            return 0;
        }

        void insert(int line, int number, Spelling spelling, int kind) {
            if (words >= WORDS || !hasLine(line) || number < 0 || number > words) {
                return;
            }
            for (int w = words; w > number; w--) {
                kinds[w] = kinds[w - 1];
                spelled[w] = spelled[w - 1];
            }
            kinds[number] = kind;
            spelled[number] = spelling;
            sizes[line]++;
            words++;
        }

        void remove(int line, int number) {
            if (!hasWord(number) || !hasLine(line)) {
                return;
            }
            for (int w = number; w < words - 1; w++) {
                kinds[w] = kinds[w + 1];
                spelled[w] = spelled[w + 1];
            }
            sizes[line]--;
            words--;
        }

        void exchange(int a, int b) {
            if (!hasWord(a) || !hasWord(b)) {
                return;
            }
            int kind = kinds[a];
            Spelling spelling = spelled[a];
            kinds[a] = kinds[b];
            spelled[a] = spelled[b];
            kinds[b] = kind;
            spelled[b] = spelling;
        }

        int strongOnes(int word) {
            int n = spelled[word].syllables;
            int all = (1 << n) - 1;
            switch (kinds[word]) {
                case FIRST: return 1 & all;
                case LAST: return all ^ all >> 1;
                case EVEN: return 0x55555555 & all;
                default: return 0;
            }
        }

        int eitherOnes(int word) {
            return kinds[word] == SMALL ? (1 << spelled[word].syllables) - 1 : 0;
        }

        int syllablesOf(int line) {
            int first = firstOf(line);
            int sum = 0;
            for (int w = first; w < first + sizes[line] && w < WORDS; w++) {
                sum += spelled[w].syllables;
            }
            return sum;
        }

        int joinsOf(int line) {
            int first = firstOf(line);
            int bits = 0;
            for (int i = 0; i + 1 < sizes[line] && first + i + 1 < WORDS; i++) {
                if (spelled[first + i].endsOnVowel() && spelled[first + i + 1].beginsWithVowel()) {
                    bits |= 1 << i;
                }
            }
            return bits;
        }

        int tailStart(int word) {
            int strong = strongOnes(word);
            Spelling spelling = spelled[word];
            for (int s = spelling.syllables - 1; s >= 0 && strong != 0; s--) {
                if ((strong >> s & 1) == 1) {
                    return spelling.starts[s];
                }
            }
            return spelling.syllables > 0 ? spelling.starts[spelling.syllables - 1] : 0;
        }

        int tailLength(int word) {
            return spelled[word].sounding - tailStart(word);
        }

        int tailLetter(int word, int i) {
            int start = tailStart(word);
            return i >= 0 && i < spelled[word].sounding - start ? spelled[word].letters[start + i] : NONE;
        }

        boolean tailsAlike(int a, int b) {
            int startA = tailStart(a);
            int startB = tailStart(b);
            int length = spelled[a].sounding - startA;
            if (length != spelled[b].sounding - startB) {
                return false;
            }
            for (int i = 0; i < length; i++) {
                if (spelled[a].letters[startA + i] != spelled[b].letters[startB + i]) {
                    return false;
                }
            }
            return true;
        }

        /** Answers how many numbers the scheme has. */
        int tellScheme() {
            int numbers = 0;
            for (int l = 0; l < lines; l++) {
                int first = l;
                for (int e = l - 1; e >= 0; e--) {
                    if (tailsAlike(lastOf(e), lastOf(l))) {
                        first = e;
                    }
                }
                if (first == l) {
                    scheme[l] = numbers;
                    numbers++;
                } else {
                    scheme[l] = scheme[first];
                }
            }
            return numbers;
        }

        int schemeNumber(int line) {
            tellScheme();
            return scheme[line];
        }

        int allLetters() {
            int sum = 0;
            for (int w = 0; w < words; w++) {
                sum += spelled[w].length;
            }
            return sum;
        }

        int allSyllables() {
            int sum = 0;
            for (int w = 0; w < words; w++) {
                sum += spelled[w].syllables;
            }
            return sum;
        }
    }

    /** The acts that can be undone, in a ring, so that the oldest is forgotten where one more comes. */
    private static final class Acts {
        static final int BECAME = 0, PUT = 1, TAKEN = 2, SWAPPED = 3, METRE = 4;
        final int[] sorts = new int[ACTS];
        final int[] firsts = new int[ACTS];
        final int[] seconds = new int[ACTS];
        final int[] takenKinds = new int[ACTS];
        final Spelling[] takenSpellings = new Spelling[ACTS];
        int next;
        int kept;

        Acts(Spelling blank) {
            for (int a = 0; a < ACTS; a++) {
                takenSpellings[a] = blank;
            }
        }

        void keep(int sort, int first, int second) {
            sorts[next] = sort;
            firsts[next] = first;
            seconds[next] = second;
            next = next + 1 < ACTS ? next + 1 : 0;
            kept = Math.min(kept + 1, ACTS);
        }

        void keepTaken(int word, int line, int kind, Spelling spelling) {
            takenKinds[next] = kind;
            takenSpellings[next] = spelling;
            keep(TAKEN, word, line);
        }

        void undoLatest(Poem poem) {
            next = next > 0 ? next - 1 : ACTS - 1;
            kept--;
            int first = firsts[next];
            int second = seconds[next];
            switch (sorts[next]) {
                case BECAME:
                    if (poem.hasWord(first)) {
                        poem.kinds[first] = second;
                    }
                    break;
                case PUT:
                    poem.remove(second, first);
                    break;
                case TAKEN:
                    poem.insert(second, first, takenSpellings[next], takenKinds[next]);
                    break;
                case SWAPPED:
                    poem.exchange(first, second);
                    break;
                default:
                    poem.foot = first;
                    poem.feet = second;
                    break;
            }
        }
    }

    /**
     * Has the tape and reads it from its first byte on; it goes no further than the first fault, as
     * that one alone is told.
     */
    private static final class Reader {
        final int[] letters = new int[LETTERS];
        final int[] tape = new int[TAPE_BYTES];
        int length;
        int at;
        int fault;
        int place;

        void readInto(Poem poem) {
            at = 0;
            fault = 0;
            place = 0;
            poem.lines = 0;
            poem.words = 0;
            boolean good = readLaw(poem) && readLine(poem);
            for (int l = 1; l <= LINES && good && at < length; l++) {
                good = readLine(poem);
            }
        }

        int byteAt(int i) {
            return i >= 0 && i < length && i < TAPE_BYTES ? tape[i] : -1;
        }

        boolean isFigure(int i) {
            return byteAt(i) >= '0' && byteAt(i) <= '9';
        }

        boolean isLetter(int i) {
            return byteAt(i) >= 'a' && byteAt(i) <= 'z';
        }

        boolean failAt(int where, int number) {
            fault = number;
            place = where;
            return false;
        }

        boolean readSign(int sign) {
            if (byteAt(at) != sign) {
                return failAt(at, MISPLACED);
            }
            at++;
            return true;
        }

        /** Answers NONE where there is a fault. */
        int readNumber(int low, int high) {
            boolean longRun = isFigure(at) && isFigure(at + 1) && isFigure(at + 2);
            if (!isFigure(at) || longRun) {
                failAt(at, MISPLACED);
                return NONE;
            }
            int figures = isFigure(at + 1) ? 2 : 1;
            int number = byteAt(at) - '0';
            if (figures == 2) {
                number = 10 * number + byteAt(at + 1) - '0';
            }
            if (number < low || number > high) {
                failAt(at, UNTOLD_NUMBER);
                return NONE;
            }
            at += figures;
            return number;
        }

        boolean readLaw(Poem poem) {
            if (!readSign('q')) {
                return false;
            }
            poem.foot = readNumber(0, FOOT_SIZE.length - 1);
            if (fault != 0 || !readSign(',')) {
                return false;
            }
            poem.feet = readNumber(1, METRE_FEET);
            return fault == 0 && readSign(';');
        }

        boolean readLine(Poem poem) {
            boolean room = poem.lines < LINES;
            int begin = at;
            int kind = readNumber(FIRST, MUTE);
            if (fault != 0) {
                return false;
            }
            if (!room) {
                return failAt(begin, LINE_TOO_MANY);
            }
            poem.beginLine();
            for (int w = 1; w <= LINE_WORDS; w++) {
                if (!readLetters(poem, kind)) {
                    return false;
                }
                if (w == LINE_WORDS || byteAt(at) != ',') {
                    break;
                }
                at++;
                kind = readNumber(FIRST, MUTE);
                if (fault != 0) {
                    return false;
                }
            }
            return readSign(';');
        }

        boolean readLetters(Poem poem, int kind) {
            int begin = at;
            int n = 0;
            for (int i = 0; i < LETTERS && isLetter(at); i++) {
                letters[i] = byteAt(at) - 'a';
                n++;
                at++;
            }
            if (n == 0) {
                return failAt(begin, MISPLACED);
            }
            if (!hasVowel(letters, n)) {
                return failAt(begin, NO_VOWEL);
            }
            if (isLetter(at)) {
                return failAt(at, MISPLACED);
            }
            poem.insert(poem.lines - 1, poem.words, new Spelling(letters, n), kind);
            return true;
        }
    }

    /**
     * Scans one line. An option is a scan with its stresses left open: which syllables would stand
     * in heavy places, which in light ones, which beyond them, and what is paid in any case; so one
     * and the same table serves every way to stress the line.
     */
    private static final class Ear {
        int words;
        int syllables;
        int strong;
        int either;
        int joins;
        int singles;
        final int[] lastAt = new int[LINE_WORDS];
        int options;
        final int[] fees = new int[SCAN_OPTIONS];
        final int[] heavy = new int[SCAN_OPTIONS];
        final int[] light = new int[SCAN_OPTIONS];
        final int[] over = new int[SCAN_OPTIONS];
        int least;
        int ways;

        void hear(Poem poem, int line) {
            int first = poem.firstOf(line);
            words = Math.min(poem.sizes[line], LINE_WORDS);
            joins = poem.joinsOf(line);
            syllables = 0;
            strong = 0;
            either = 0;
            singles = 0;
            for (int i = 0; i < words && first + i < WORDS; i++) {
                int n = poem.spelled[first + i].syllables;
                strong |= poem.strongOnes(first + i) << syllables;
                either |= poem.eitherOnes(first + i) << syllables;
                if (n == 1) {
                    singles |= 1 << i;
                }
                syllables += n;
                lastAt[i] = syllables - 1;
            }
        }

        int leastBy(int foot, int feet) {
            fit(foot, feet);
            judge(strong, ~(strong | either));
            return least;
        }

        void fit(int foot, int feet) {
            options = 0;
            if (!isMetre(foot, feet)) {
                return;
            }
            int straight = heavyPlaces(foot, foot, feet);
            int turned = heavyPlaces(FOOT_TURNED[foot], foot, feet);
            for (int set = 0; set < 1 << words; set++) {
                boolean toBothSides = (set & set << 1 & singles) != 0;
                if ((set & ~joins) == 0 && !toBothSides) {
                    addOption(set, foot, feet, straight, 0);
                    if (feet >= 2) {
                        addOption(set, foot, feet, turned, 1);
                    }
                }
            }
        }

        static int heavyPlaces(int firstFoot, int foot, int feet) {
            int bits = FOOT_HEAVY[firstFoot];
            for (int f = 1; f < feet; f++) {
                bits |= FOOT_HEAVY[foot] << f * FOOT_SIZE[foot];
            }
            return bits;
        }

        void addOption(int set, int foot, int feet, int heavyBits, int fee) {
            int left = syllables - Integer.bitCount(set);
            int places = feet * FOOT_SIZE[foot];
            int more = left - places;
            if (more < -FOOT_WEAK_END[foot] || more > SYLLABLES_OVER || options >= SCAN_OPTIONS) {
                return;
            }
            int there = (1 << left) - 1;
            int placed = there & (1 << places) - 1;
            fees[options] = fee + Integer.bitCount(set) + Math.abs(more);
            heavy[options] = spread(placed & heavyBits, set);
            light[options] = spread(placed & ~heavyBits, set);
            over[options] = spread(there & ~placed, set);
            options++;
        }

        /** Makes room in the bits for the syllables that the set's words lose to the next one. */
        int spread(int bits, int set) {
            int wide = bits;
            for (int i = 0; i < words; i++) {
                if ((set >> i & 1) == 1) {
                    int low = (1 << lastAt[i]) - 1;
                    wide = wide & low | (wide & ~low) << 1;
                }
            }
            return wide;
        }

        void judge(int strongOnes, int weakOnes) {
            least = NONE;
            ways = 0;
            for (int o = 0; o < options; o++) {
                if ((strongOnes & over[o]) == 0) {
                    int cost = fees[o] + STRONG_IN_LIGHT * Integer.bitCount(strongOnes & light[o])
                            + WEAK_IN_HEAVY * Integer.bitCount(weakOnes & heavy[o]);
                    if (least == NONE || cost < least) {
                        least = cost;
                        ways = 0;
                    }
                    if (cost == least) {
                        ways++;
                    }
                }
            }
        }
    }
}
