import java.util.Arrays;
import java.util.NoSuchElementException;

/** A district whose sets of persons must each have their share of every mark; the document says how. */
public final class OboeDistrict {
    public static final int NONE = -1;

    // The sorts of what has a NAME. The same numbers are those of the words that begin their lines.
    private static final int STREET = 0;
    private static final int TRAM = 1;
    private static final int PERSON = 2;
    private static final int MARK = 3;
    private static final int SORTS = 4;
    private static final int MOST_STREETS = 4;
    private static final int MOST_TRAMS = 3;
    private static final int MOST_PERSONS = 10;
    private static final int MOST_MARKS = 3;
    private static final int[] MOST_OF = {MOST_STREETS, MOST_TRAMS, MOST_PERSONS, MOST_MARKS};
    private static final int NAMES_A_SORT = 10;

    private static final int FIRST_STREET_SET = 5;
    private static final int MOST_SETS = FIRST_STREET_SET + MOST_STREETS + MOST_TRAMS;
    private static final int EVEN_NUMBERS = 0x155;
    private static final int ODD_NUMBERS = 0x2AA;

    // A word's number is its place in this list; the constants below follow it.
    private static final String WORDS = "street tram person mark rides has hates man woman away gets loses moves leaves comes year or and not in minds marks number ";
    private static final int WORD_COUNT = 23;
    private static final int RIDES = 4;
    private static final int HAS = 5;
    private static final int HATES = 6;
    private static final int MAN = 7;
    private static final int WOMAN = 8;
    private static final int AWAY = 9;
    private static final int GETS = 10;
    private static final int LOSES = 11;
    private static final int MOVES = 12;
    private static final int LEAVES = 13;
    private static final int COMES = 14;
    private static final int YEAR = 15;
    private static final int OR = 16;
    private static final int AND = 17;
    private static final int NOT = 18;
    private static final int IN = 19;
    private static final int MINDS = 20;
    private static final int MARKS = 21;
    private static final int NUMBER_OF = 22;

    // The kinds of tokens.
    private static final int NO_TOKEN = 0;
    private static final int TEXT_END = 1;
    private static final int SIGN = 2;
    private static final int NUMBER = 3;
    private static final int WORD = 4;
    private static final int NAME = 5;

    // The kinds of FAULTS.
    private static final int CANNOT_COME = 1;
    private static final int WRONG_NUMBER = 2;
    private static final int WRONG_NAME = 3;
    private static final int TOO_MANY = 4;

    private static final int TAPE_BYTES = 940;
    private static final int MOST_TOKENS = TAPE_BYTES + 1;
    private static final int BYTES_A_FEED = 20;
    private static final int DISTRICT_BYTES = 900;
    private static final int BOOK_BYTES = 400;
    private static final int SENTENCE_BYTES = 200;
    private static final int WORD_LETTERS = 7;
    private static final int NUMBER_DIGITS = 3;
    private static final int MOST_NUMBER = 999;
    private static final int LETTER_BITS = 5;
    private static final int LETTER_MASK = 31;

    private static final int MOST_MINDS = 20;
    private static final int MOST_HATE = 20;
    private static final int MOST_SHARE = 40;
    private static final int MOST_BOOK_LINES = 40;
    private static final int MOST_ONES = 20;
    private static final int MOST_WITHIN = 8;
    private static final int SENTENCE_STEPS = 2 * MOST_ONES;

    private static final int ALL_YEARS = 200;
    private static final int YEARS_A_CALL = 60;
    private static final int MOST_SEEDS = 30;
    private static final int YEARS_OF_ODDS = 10;
    private static final int MOST_SPARING = 99;
    private static final int FEW_YEARS_LEFT = 51;
    private static final int NEITHER_JUDGED_NOR_LIVED = -1000;

    private static final int MOST_GROUPS = 1 << MOST_PERSONS;
    private static final int FAMILY_WORDS = 1 << (MOST_SETS - 5);
    // For each of the five lowest bits: which of 32 numbers lack it.
    private static final int[] LACKS_BIT = {0x55555555, 0x33333333, 0x0F0F0F0F, 0x00FF00FF, 0x0000FFFF};
    private static final int MOST_OFF = 1000;
    private static final int MOST_COUNTS = 8;
    private static final int SIZES = MOST_PERSONS + 1;
    private static final int PLATE_BYTES = 64;
    private static final int PAST_KEPT = 8;
    private static final int IMAGES = 2;

    private final Tape tape = new Tape();
    private final Life life;
    private final Life trial;
    private final Past past;
    private final Life[] images = new Life[IMAGES];
    private final boolean[] imaged = new boolean[IMAGES];
    private final Sentence[] imagedSentences = new Sentence[IMAGES];
    private final DistrictReader districtReader = new DistrictReader(tape);
    private final SentenceReader sentenceReader = new SentenceReader(tape);
    private final Book latestBook = new Book();
    private final Search search = new Search();
    private final Tally tally = new Tally();
    private final Plate latestPlate = new Plate();
    private Sentence nowSaid;
    private int faultKind;

    public OboeDistrict() {
        Town empty = new Town();
        life = new Life(empty);
        trial = new Life(empty);
        past = new Past(empty);
        for (int k = 0; k < IMAGES; k++) {
            images[k] = new Life(empty);
        }
    }

    // ---- the tape ----

    public int feed(int a, int b, int c, int d, int e) {
        if (tape.size + BYTES_A_FEED > TAPE_BYTES) {
            return NONE;
        }
        tape.putNumber(a);
        tape.putNumber(b);
        tape.putNumber(c);
        tape.putNumber(d);
        tape.putNumber(e);
        return tape.size;
    }

    public boolean end(int n) {
        if (n < 0 || n > tape.size) {
            return false;
        }
        tape.size = n;
        return true;
    }

    // ---- texts ----

    public int district() {
        int told = districtReader.read(trial);
        faultKind = tape.fault;
        tape.size = 0;
        if (faultKind != 0) {
            return -1 - tape.faultPlace;
        }
        life.copyFrom(trial);
        past.forget();
        nowSaid = null;
        return told;
    }

    public int fault() {
        return faultKind;
    }

    public int book(int lives) {
        if (lives != 0 && lives != 1) {
            return NEITHER_JUDGED_NOR_LIVED;
        }
        boolean read = latestBook.read(tape, life.town);
        faultKind = tape.fault;
        tape.size = 0;
        if (!read) {
            return -2 - tape.faultPlace;
        }
        trial.copyFrom(life);
        int wrong = latestBook.liveOn(trial);
        if (lives == 1) {
            past.keep(life);
            life.copyFrom(trial);
        }
        return wrong;
    }

    public int told(int what) {
        return latestBook.tell(what);
    }

    public int sentence() {
        Sentence read = new Sentence();
        int ones = sentenceReader.read(read, life.town);
        faultKind = tape.fault;
        tape.size = 0;
        if (faultKind != 0) {
            return -1 - tape.faultPlace;
        }
        nowSaid = read;
        return ones;
    }

    public int said(int k) {
        if (nowSaid == null || k < NONE) {
            return NONE;
        }
        int ofWhom = nowSaid.trueOf(life);
        if (k == NONE) {
            return Integer.bitCount(ofWhom);
        }
        int nth = 0;
        for (int p = 0; p < MOST_PERSONS; p++) {
            if (isIn(ofWhom, p)) {
                if (nth == k) {
                    return p;
                }
                nth++;
            }
        }
        return NONE;
    }

    // ---- what is so ----

    public int count(int what) {
        switch (what) {
            case 0:
            case 1:
            case 2:
            case 3:
                return life.town.counts[what];
            case 4:
                return life.town.setCount();
            case 5:
                return tape.size;
            default:
                return NONE;
        }
    }

    public int person(int p, int what) throws NoSuchElementException {
        if (!isPerson(p)) {
            throw new NoSuchElementException("no such person");
        }
        switch (what) {
            case 0:
                return life.street[p];
            case 1:
                return isIn(life.town.women, p) ? 1 : 0;
            case 2:
                return life.town.minds[p];
            case 3:
                return isIn(life.away, p) ? 1 : 0;
            case 4:
                return life.marksOf(p);
            case 5:
                return life.town.tramsOf(p);
            case 6:
                return life.burdensOf(p);
            default:
                throw new NoSuchElementException("nothing such of a person");
        }
    }

    public int burden(int p, int m) {
        return isPerson(p) && isMark(m) ? life.town.burdenFor(p, m) : NONE;
    }

    public int members(int s) {
        return isSet(s) ? life.insiders[s] : NONE;
    }

    public int due(int s, int m) {
        return isSet(s) && isMark(m) ? life.dueOf(s, m) : NONE;
    }

    public int have(int s, int m) {
        return isSet(s) && isMark(m) ? Integer.bitCount(life.insiders[s] & life.holders[m]) : NONE;
    }

    public int rest(int s, int m) {
        return isSet(s) && isMark(m) ? life.town.leftOver(Integer.bitCount(life.insiders[s]), m) : NONE;
    }

    public int off(int m) {
        return isMark(m) ? life.offNow(m) : NONE;
    }

    public int now(int what) {
        switch (what) {
            case 0:
                return life.year;
            case 1:
                return life.away;
            case 2:
                return life.wrongs;
            case 3:
                return life.offOfAll();
            case 4:
                return life.burdensOfAll();
            case 5:
                return life.changesMade;
            default:
                return NONE;
        }
    }

    public int plate(int p) {
        return isPerson(p) ? latestPlate.write(life, p) : NONE;
    }

    public int byteAt(int i) {
        return i >= 0 && i < latestPlate.length ? latestPlate.bytes[i] : NONE;
    }

    // ---- acts ----

    public int give(int p, int m) {
        return isPerson(p) && isMark(m) ? doneOrWhyNot(GETS, p, m) : NONE;
    }

    public int take(int p, int m) {
        return isPerson(p) && isMark(m) ? doneOrWhyNot(LOSES, p, m) : NONE;
    }

    public int move(int p, int street) {
        return isPerson(p) && isStreet(street) ? doneOrWhyNot(MOVES, p, street) : NONE;
    }

    public int leave(int p) {
        return isPerson(p) ? doneOrWhyNot(LEAVES, p, 0) : NONE;
    }

    public int come(int p) {
        return isPerson(p) ? doneOrWhyNot(COMES, p, 0) : NONE;
    }

    public int years(int n) {
        if (!isWithin(n, 1, YEARS_A_CALL)) {
            return NONE;
        }
        trial.copyFrom(life);
        int gone = life.goYears(n);
        if (gone > 0) {
            past.keep(trial);
        }
        return gone;
    }

    public int drawn(int n, int seed) {
        if (!isWithin(n, 1, YEARS_A_CALL) || life.town.counts[PERSON] == 0) {
            return NONE;
        }
        trial.copyFrom(life);
        int gone = life.goYearsDrawn(n, seed);
        if (gone > 0) {
            past.keep(trial);
        }
        return gone;
    }

    public int undo() {
        return past.takeBack(life);
    }

    public boolean image(int k) {
        if (!isWithin(k, 0, IMAGES - 1)) {
            return false;
        }
        images[k].copyFrom(life);
        imagedSentences[k] = nowSaid;
        imaged[k] = true;
        return true;
    }

    public boolean restore(int k) {
        if (!isWithin(k, 0, IMAGES - 1) || !imaged[k]) {
            return false;
        }
        life.copyFrom(images[k]);
        nowSaid = imagedSentences[k];
        past.forget();
        return true;
    }

    // ---- what would be ----

    public int least(int m) {
        return isMark(m) ? search.tellLeast(life, m) : NONE;
    }

    public int who() {
        return search.leastWho;
    }

    public int burdens() {
        return search.leastBurdens;
    }

    public int family(int m) {
        return isMark(m) ? search.tellFamily(life, m) : NONE;
    }

    public int familyOf() {
        return search.familySets;
    }

    public int changes(int m) {
        return isMark(m) ? search.tellChanges(life, m) : NONE;
    }

    public int changed() {
        return search.changedWho;
    }

    public int house(int p) {
        if (!isPerson(p) || isIn(life.away, p)) {
            return NONE;
        }
        trial.copyFrom(life);
        int best = life.street[p];
        int leastOff = life.offOfAll();
        for (int s = 0; s < life.town.counts[STREET]; s++) {
            trial.street[p] = s;
            trial.gatherSets();
            int off = trial.offOfAll();
            if (off < leastOff) {
                leastOff = off;
                best = s;
            }
        }
        return best;
    }

    public int both(int m, int k) {
        return isMark(m) && isMark(k) && m != k ? search.fewestWithBoth(life, m, k) : NONE;
    }

    public int spared(int p, int m, int n) {
        if (!isPerson(p) || !isMark(m) || !isWithin(n, 0, MOST_SPARING)) {
            return NONE;
        }
        return search.isSpared(life, p, m, n);
    }

    public int counts() {
        int left = tally.countGroups(life, tape);
        tape.size = 0;
        return left;
    }

    public int surely() {
        return tally.inEach;
    }

    public int look() {
        return tally.nextSet;
    }

    public int cut(int t, int m) {
        return isTram(t) && isMark(m) ? life.cutsOf(t, m) : NONE;
    }

    public int settles() {
        trial.copyFrom(life);
        for (int i = 0; i < YEARS_A_CALL && trial.year < ALL_YEARS; i++) {
            if (trial.goYear() == 0) {
                return trial.year - 1;
            }
        }
        return NONE;
    }

    public int odds(int m, int n, int seed) {
        if (!isMark(m) || !isWithin(n, 1, MOST_SEEDS) || life.town.counts[PERSON] == 0) {
            return NONE;
        }
        int right = 0;
        for (int i = 0; i < n; i++) {
            trial.copyFrom(life);
            trial.goYearsDrawn(YEARS_OF_ODDS, seed + i);
            if (trial.offNow(m) == 0) {
                right++;
            }
        }
        return right;
    }

    // ---- helpers ----

    private int doneOrWhyNot(int verb, int p, int what) {
        trial.copyFrom(life);
        int why = life.act(verb, p, what);
        if (why == 0) {
            past.keep(trial);
        }
        return why;
    }

    private boolean isPerson(int p) {
        return p >= 0 && p < life.town.counts[PERSON];
    }

    private boolean isMark(int m) {
        return m >= 0 && m < life.town.counts[MARK];
    }

    private boolean isStreet(int s) {
        return s >= 0 && s < life.town.counts[STREET];
    }

    private boolean isTram(int t) {
        return t >= 0 && t < life.town.counts[TRAM];
    }

    private boolean isSet(int s) {
        return s >= 0 && s < life.town.setCount();
    }

    private static boolean isIn(int bits, int i) {
        return (bits >>> i & 1) != 0;
    }

    private static boolean isWithin(int n, int least, int most) {
        return n >= least && n <= most;
    }

    /** The bytes fed so far, and the tokens of the text that they are. */
    private static final class Tape {
        final byte[] bytes = new byte[TAPE_BYTES];
        final long[] wordCodes = new long[WORD_COUNT];
        int size;
        // All tokens of the text; the last one is its end, or what is no token.
        final byte[] kinds = new byte[MOST_TOKENS];
        final int[] starts = new int[MOST_TOKENS];
        final int[] values = new int[MOST_TOKENS];
        final long[] codes = new long[MOST_TOKENS];
        int tokens;
        int scanned;
        // The token that is looked at.
        int at;
        int kind;
        int value;
        long code;
        int fault;
        int faultPlace;

        Tape() {
            int word = 0;
            long letters = 0;
            for (int i = 0; i < WORDS.length() && word < WORD_COUNT; i++) {
                char c = WORDS.charAt(i);
                if (c == ' ') {
                    wordCodes[word] = letters;
                    letters = 0;
                    word++;
                } else {
                    letters = withLetter(letters, c);
                }
            }
        }

        void putNumber(int n) {
            for (int shift = 24; shift >= 0 && size < TAPE_BYTES; shift -= 8) {
                bytes[size] = (byte) (n >>> shift);
                size++;
            }
        }

        /** The text is read from its start; it may have so many bytes. */
        void begin(int most) {
            scanned = 0;
            boolean goesOn = true;
            for (tokens = 0; goesOn && tokens < MOST_TOKENS; tokens++) {
                kinds[tokens] = (byte) scanToken(most);
                goesOn = kinds[tokens] != TEXT_END && kinds[tokens] != NO_TOKEN;
            }
            fault = 0;
            faultPlace = 0;
            at = NONE;
            advance();
        }

        private int scanToken(int most) {
            while (scanned < size && isBlank(bytes[scanned])) {
                scanned++;
            }
            values[tokens] = 0;
            codes[tokens] = 0;
            starts[tokens] = scanned;
            if (size > most && scanned >= most) {
                // Not even the end can come here.
                starts[tokens] = most;
                return NO_TOKEN;
            }
            if (scanned >= size) {
                return TEXT_END;
            }
            int c = bytes[scanned];
            if (isDigit(c) || isLetter(c)) {
                return scanRun();
            }
            scanned++;
            values[tokens] = c;
            return isSignByte(c) ? SIGN : NO_TOKEN;
        }

        private int scanRun() {
            int letters = 0;
            int digits = 0;
            int number = 0;
            long name = 0;
            while (scanned < size && (isDigit(bytes[scanned]) || isLetter(bytes[scanned]))) {
                int c = bytes[scanned];
                if (isLetter(c)) {
                    letters++;
                    name = withLetter(name, c);
                } else {
                    digits++;
                    number = number * 10 + c - '0';
                }
                scanned++;
            }
            if (digits == 0 && letters <= WORD_LETTERS) {
                codes[tokens] = name;
                values[tokens] = wordOf(name);
                return values[tokens] == NONE ? NAME : WORD;
            }
            values[tokens] = number;
            return letters == 0 && digits <= NUMBER_DIGITS ? NUMBER : NO_TOKEN;
        }

        private int wordOf(long letters) {
            for (int i = 0; i < WORD_COUNT; i++) {
                if (wordCodes[i] == letters) {
                    return i;
                }
            }
            return NONE;
        }

        void advance() {
            if (at + 1 < tokens) {
                at++;
                kind = kinds[at];
                value = values[at];
                code = codes[at];
            }
        }

        /** Notes a fault at the token that is looked at; false, for the reader to hand on. */
        boolean fail(int why) {
            fault = why;
            faultPlace = starts[at];
            return false;
        }

        boolean isAtSign(char c) {
            return kind == SIGN && value == c;
        }

        boolean isAtWord(int word) {
            return kind == WORD && value == word;
        }

        boolean passSign(char c) {
            if (!isAtSign(c)) {
                return fail(CANNOT_COME);
            }
            advance();
            return true;
        }

        /** A number of this range, which is passed; NONE with a fault. */
        int passNumber(int least, int most) {
            if (kind != NUMBER) {
                fail(CANNOT_COME);
                return NONE;
            }
            int n = value;
            if (!isWithin(n, least, most)) {
                fail(WRONG_NUMBER);
                return NONE;
            }
            advance();
            return n;
        }

        /** Which one of a sort is named here; NONE with a fault. The name is not passed, so that it can still be at fault. */
        int named(Town town, int sort) {
            if (kind != NAME) {
                fail(CANNOT_COME);
                return NONE;
            }
            int n = town.numberOf(code, sort);
            if (n == NONE) {
                fail(WRONG_NAME);
            }
            return n;
        }

        private static long withLetter(long letters, int c) {
            return letters << LETTER_BITS | (c - 'a' + 1);
        }

        private static boolean isBlank(int c) {
            return c == ' ' || c == '\n';
        }

        private static boolean isDigit(int c) {
            return c >= '0' && c <= '9';
        }

        private static boolean isLetter(int c) {
            return c >= 'a' && c <= 'z';
        }

        private static boolean isSignByte(int c) {
            return c == ';' || c == '<' || c == '=' || c == '>' || c == '(' || c == ')';
        }
    }

    /** What a district's text tells and no act changes; nothing changes it once it has been read. */
    private static final class Town {
        final int[] counts = new int[SORTS];
        final long[] names = new long[SORTS * NAMES_A_SORT];
        final int[] minds = new int[MOST_PERSONS];
        final int[] hates = new int[MOST_PERSONS * MOST_MARKS];
        final int[] riders = new int[MOST_TRAMS];
        final int[] part = new int[MOST_MARKS];
        final int[] whole = new int[MOST_MARKS];
        int women;

        boolean isFull(int sort) {
            return counts[sort] >= MOST_OF[sort];
        }

        int addName(long name, int sort) {
            int n = counts[sort];
            names[sort * NAMES_A_SORT + n] = name;
            counts[sort] = n + 1;
            return n;
        }

        long nameOf(int sort, int n) {
            return names[sort * NAMES_A_SORT + n];
        }

        int numberOf(long name, int sort) {
            for (int n = 0; n < counts[sort]; n++) {
                if (names[sort * NAMES_A_SORT + n] == name) {
                    return n;
                }
            }
            return NONE;
        }

        boolean isTold(long name) {
            for (int sort = 0; sort < SORTS; sort++) {
                if (numberOf(name, sort) != NONE) {
                    return true;
                }
            }
            return false;
        }

        int setCount() {
            return FIRST_STREET_SET + counts[STREET] + counts[TRAM];
        }

        int everybody() {
            return (1 << counts[PERSON]) - 1;
        }

        int burdenFor(int p, int m) {
            return minds[p] + hates[p * MOST_MARKS + m];
        }

        int tramsOf(int p) {
            int trams = 0;
            for (int t = 0; t < counts[TRAM]; t++) {
                if (isIn(riders[t], p)) {
                    trams |= 1 << t;
                }
            }
            return trams;
        }

        /** How many of so many should have a mark. */
        int dueOfMany(int many, int m) {
            int all = whole[m];
            return all > 0 ? (2 * many * part[m] + all) / (2 * all) : 0;
        }

        int leftOver(int many, int m) {
            int all = whole[m];
            return all > 0 ? many * part[m] % all : 0;
        }
    }

    /** All that acts and years change in a town, and the sets that follow from it. */
    private static final class Life {
        Town town;
        int away;
        int year;
        int wrongs;
        int changesMade;
        int drawState;
        final int[] street = new int[MOST_PERSONS];
        final int[] holders = new int[MOST_MARKS];
        // These follow from who is here and where; gatherSets() makes them anew.
        final int[] insiders = new int[MOST_SETS];
        final int[] setsOf = new int[MOST_PERSONS];
        final int[] dues = new int[MOST_MARKS * MOST_SETS];

        Life(Town town) {
            this.town = town;
        }

        void beginIn(Town newTown) {
            town = newTown;
            away = 0;
            year = 0;
            wrongs = 0;
            changesMade = 0;
            Arrays.fill(street, 0);
            Arrays.fill(holders, 0);
        }

        void copyFrom(Life other) {
            town = other.town;
            away = other.away;
            year = other.year;
            wrongs = other.wrongs;
            changesMade = other.changesMade;
            System.arraycopy(other.street, 0, street, 0, MOST_PERSONS);
            System.arraycopy(other.holders, 0, holders, 0, MOST_MARKS);
            System.arraycopy(other.insiders, 0, insiders, 0, MOST_SETS);
            System.arraycopy(other.setsOf, 0, setsOf, 0, MOST_PERSONS);
            System.arraycopy(other.dues, 0, dues, 0, MOST_MARKS * MOST_SETS);
        }

        void gatherSets() {
            int here = town.everybody() & ~away;
            int streets = town.counts[STREET];
            Arrays.fill(insiders, 0);
            insiders[0] = here;
            insiders[1] = here & ~town.women;
            insiders[2] = here & town.women;
            insiders[3] = here & EVEN_NUMBERS;
            insiders[4] = here & ODD_NUMBERS;
            for (int p = 0; p < town.counts[PERSON]; p++) {
                if (isIn(here, p)) {
                    insiders[FIRST_STREET_SET + street[p]] |= 1 << p;
                }
            }
            for (int t = 0; t < town.counts[TRAM]; t++) {
                insiders[FIRST_STREET_SET + streets + t] = here & town.riders[t];
            }
            gatherSetsOfEach();
            gatherDues();
        }

        private void gatherSetsOfEach() {
            Arrays.fill(setsOf, 0);
            for (int s = 0; s < town.setCount(); s++) {
                for (int p = 0; p < town.counts[PERSON]; p++) {
                    if (isIn(insiders[s], p)) {
                        setsOf[p] |= 1 << s;
                    }
                }
            }
        }

        private void gatherDues() {
            for (int m = 0; m < town.counts[MARK]; m++) {
                for (int s = 0; s < town.setCount(); s++) {
                    dues[m * MOST_SETS + s] = town.dueOfMany(Integer.bitCount(insiders[s]), m);
                }
            }
        }

        int dueOf(int s, int m) {
            return dues[m * MOST_SETS + s];
        }

        int marksOf(int p) {
            int marks = 0;
            for (int m = 0; m < town.counts[MARK]; m++) {
                if (isIn(holders[m], p)) {
                    marks |= 1 << m;
                }
            }
            return marks;
        }

        int burdensOf(int p) {
            int sum = 0;
            for (int m = 0; m < town.counts[MARK]; m++) {
                if (isIn(holders[m], p)) {
                    sum += town.burdenFor(p, m);
                }
            }
            return sum;
        }

        int burdensOfAll() {
            int sum = 0;
            for (int p = 0; p < town.counts[PERSON]; p++) {
                if (!isIn(away, p)) {
                    sum += burdensOf(p);
                }
            }
            return sum;
        }

        /** OFF of a mark, if these had it. */
        int offIf(int group, int m) {
            int off = 0;
            int sets = town.setCount();
            int first = m * MOST_SETS;
            for (int s = 0; s < sets; s++) {
                off += Math.abs(Integer.bitCount(insiders[s] & group) - dues[first + s]);
            }
            return off;
        }

        /** The sets, as bits, that are as is DUE, if these had a mark. */
        int rightIf(int group, int m) {
            int right = 0;
            int sets = town.setCount();
            int first = m * MOST_SETS;
            for (int s = 0; s < sets; s++) {
                if (Integer.bitCount(insiders[s] & group) == dues[first + s]) {
                    right |= 1 << s;
                }
            }
            return right;
        }

        int offNow(int m) {
            return offIf(holders[m], m);
        }

        int offOfAll() {
            int off = 0;
            for (int m = 0; m < town.counts[MARK]; m++) {
                off += offNow(m);
            }
            return off;
        }

        /** Does what a verb tells: 0, or why not. */
        int act(int verb, int p, int what) {
            boolean isAway = isIn(away, p);
            if (isAway != (verb == COMES)) {
                return 1;
            }
            switch (verb) {
                case GETS:
                    return turnMark(p, what, false);
                case LOSES:
                    return turnMark(p, what, true);
                case MOVES:
                    if (street[p] == what) {
                        return 2;
                    }
                    street[p] = what;
                    break;
                default:
                    away ^= 1 << p;
                    break;
            }
            gatherSets();
            return 0;
        }

        private int turnMark(int p, int m, boolean hasItFirst) {
            if (isIn(holders[m], p) != hasItFirst) {
                return 2;
            }
            holders[m] ^= 1 << p;
            return 0;
        }

        int goYears(int n) {
            int gone = 0;
            for (int i = 0; i < n && year < ALL_YEARS; i++) {
                goYear();
                gone++;
            }
            return gone;
        }

        int goYearsDrawn(int n, int seed) {
            drawState = seed;
            int gone = 0;
            for (int i = 0; i < n && year < ALL_YEARS; i++) {
                actByDraws();
                goYear();
                gone++;
            }
            return gone;
        }

        private void actByDraws() {
            int p = drawOf(town.counts[PERSON]);
            switch (drawOf(4)) {
                case 0:
                    act(LEAVES, p, 0);
                    break;
                case 1:
                    act(COMES, p, 0);
                    break;
                case 2:
                    act(MOVES, p, drawOf(town.counts[STREET]));
                    break;
                default:
                    turnMarkByDraw(p);
                    break;
            }
        }

        private void turnMarkByDraw(int p) {
            if (town.counts[MARK] > 0) {
                int m = drawOf(town.counts[MARK]);
                act(isIn(holders[m], p) ? LOSES : GETS, p, m);
            }
        }

        private int drawOf(int n) {
            drawState = drawState * 1103515245 + 12345;
            return n > 0 ? (drawState >>> 8) % n : 0;
        }

        /** One year goes by: how many changes were made. */
        int goYear() {
            int made = 0;
            for (int m = 0; m < town.counts[MARK]; m++) {
                int p = bestChange(m);
                if (p != NONE) {
                    holders[m] ^= 1 << p;
                    made++;
                }
                wrongs += town.setCount() - Integer.bitCount(rightIf(holders[m], m));
            }
            changesMade += made;
            year++;
            return made;
        }

        /** Who should get or lose a mark so that OFF is less by it; NONE: nobody. */
        private int bestChange(int m) {
            // One more makes a full set worse and all others better, one fewer likewise a scant set.
            int full = 0;
            int scant = 0;
            for (int s = 0; s < town.setCount(); s++) {
                int over = Integer.bitCount(insiders[s] & holders[m]) - dueOf(s, m);
                if (over >= 0) {
                    full |= 1 << s;
                }
                if (over <= 0) {
                    scant |= 1 << s;
                }
            }
            int best = NONE;
            int leastMore = 0;
            for (int p = 0; p < town.counts[PERSON]; p++) {
                // Who is away is in no set: nothing is less by him.
                int worse = setsOf[p] & (isIn(holders[m], p) ? scant : full);
                int more = 2 * Integer.bitCount(worse) - Integer.bitCount(setsOf[p]);
                if (more < leastMore) {
                    leastMore = more;
                    best = p;
                }
            }
            return best;
        }

        /** Behind how many of a tram's persons it can be cut, as bits. */
        int cutsOf(int t, int m) {
            int riding = insiders[FIRST_STREET_SET + town.counts[STREET] + t];
            int all = Integer.bitCount(riding);
            int allHave = Integer.bitCount(riding & holders[m]);
            int cuts = 0;
            int front = 0;
            int frontHave = 0;
            for (int p = 0; p <= MOST_PERSONS; p++) {
                boolean isRight = frontHave == town.dueOfMany(front, m)
                        && allHave - frontHave == town.dueOfMany(all - front, m);
                if (isRight) {
                    cuts |= 1 << front;
                }
                if (isIn(riding, p)) {
                    front++;
                    frontHave += isIn(holders[m], p) ? 1 : 0;
                }
            }
            return cuts;
        }
    }

    /** The lives ahead of the latest acts, for undoing them. */
    private static final class Past {
        final Life[] lives = new Life[PAST_KEPT];
        int kept;

        Past(Town town) {
            for (int i = 0; i < PAST_KEPT; i++) {
                lives[i] = new Life(town);
            }
        }

        void forget() {
            kept = 0;
        }

        void keep(Life life) {
            if (kept == PAST_KEPT) {
                dropOldest();
            }
            lives[kept].copyFrom(life);
            kept++;
        }

        private void dropOldest() {
            Life oldest = lives[0];
            for (int i = 1; i < PAST_KEPT; i++) {
                lives[i - 1] = lives[i];
            }
            lives[PAST_KEPT - 1] = oldest;
            kept--;
        }

        int takeBack(Life life) {
            if (kept == 0) {
                return NONE;
            }
            kept--;
            life.copyFrom(lives[kept]);
            return kept;
        }
    }

    /** Reads the text of a district. */
    private static final class DistrictReader {
        final Tape tape;
        Town town;
        Life life;

        DistrictReader(Tape tape) {
            this.tape = tape;
        }

        /** The life is the new district's: how many lines it has; with a fault it is of no use. */
        int read(Life fresh) {
            town = new Town();
            life = fresh;
            life.beginIn(town);
            tape.begin(DISTRICT_BYTES);
            for (int lines = 0; lines < TAPE_BYTES; lines++) {
                if (tape.kind == TEXT_END) {
                    life.gatherSets();
                    return lines;
                }
                if (!readLine()) {
                    return NONE;
                }
            }
            return NONE;
        }

        private boolean readLine() {
            int word = tape.value;
            if (tape.kind != WORD || word > HATES) {
                return tape.fail(CANNOT_COME);
            }
            if (word <= MARK && town.isFull(word)) {
                return tape.fail(TOO_MANY);
            }
            tape.advance();
            boolean isRead = word <= MARK ? readNew(word) : readTie(word);
            return isRead && tape.passSign(';');
        }

        private boolean readNew(int sort) {
            if (tape.kind != NAME) {
                return tape.fail(CANNOT_COME);
            }
            if (town.isTold(tape.code)) {
                return tape.fail(WRONG_NAME);
            }
            int n = town.addName(tape.code, sort);
            tape.advance();
            if (sort == PERSON) {
                return readPerson(n);
            }
            return sort != MARK || readShare(n);
        }

        private boolean readPerson(int p) {
            int street = tape.named(town, STREET);
            if (street == NONE) {
                return false;
            }
            life.street[p] = street;
            tape.advance();
            if (tape.isAtWord(WOMAN)) {
                town.women |= 1 << p;
            } else if (!tape.isAtWord(MAN)) {
                return tape.fail(CANNOT_COME);
            }
            tape.advance();
            town.minds[p] = tape.passNumber(0, MOST_MINDS);
            if (town.minds[p] == NONE) {
                return false;
            }
            if (tape.isAtWord(AWAY)) {
                life.away |= 1 << p;
                tape.advance();
            }
            return true;
        }

        private boolean readShare(int m) {
            int part = tape.passNumber(0, MOST_SHARE);
            if (part == NONE) {
                return false;
            }
            town.part[m] = part;
            town.whole[m] = tape.passNumber(Math.max(part, 1), MOST_SHARE);
            return town.whole[m] != NONE;
        }

        /** A line that ties a person to a tram or a mark. */
        private boolean readTie(int word) {
            int p = tape.named(town, PERSON);
            if (p == NONE) {
                return false;
            }
            tape.advance();
            int other = tape.named(town, word == RIDES ? TRAM : MARK);
            if (other == NONE) {
                return false;
            }
            if (isTied(word, p, other)) {
                return tape.fail(WRONG_NAME);
            }
            tape.advance();
            return tie(word, p, other);
        }

        private boolean isTied(int word, int p, int other) {
            switch (word) {
                case RIDES:
                    return isIn(town.riders[other], p);
                case HAS:
                    return isIn(life.holders[other], p);
                default:
                    return town.hates[p * MOST_MARKS + other] != 0;
            }
        }

        private boolean tie(int word, int p, int other) {
            if (word == RIDES) {
                town.riders[other] |= 1 << p;
                return true;
            }
            if (word == HAS) {
                life.holders[other] |= 1 << p;
                return true;
            }
            int hate = tape.passNumber(1, MOST_HATE);
            town.hates[p * MOST_MARKS + other] = hate;
            return hate != NONE;
        }
    }

    /** The lines of a book, and what the latest book that had no fault told. */
    private static final class Book {
        final int[] verbs = new int[MOST_BOOK_LINES];
        final int[] persons = new int[MOST_BOOK_LINES];
        final int[] whats = new int[MOST_BOOK_LINES];
        int lineCount;
        boolean isAnyTold;
        int whyWrong;
        int rightLines;
        int yearThen;
        int offThen;

        boolean read(Tape tape, Town town) {
            lineCount = 0;
            tape.begin(BOOK_BYTES);
            for (int i = 0; i < TAPE_BYTES; i++) {
                if (tape.kind == TEXT_END) {
                    return true;
                }
                if (!readLine(tape, town)) {
                    return false;
                }
            }
            return false;
        }

        private boolean readLine(Tape tape, Town town) {
            boolean isYear = tape.isAtWord(YEAR);
            int p = isYear ? 0 : tape.named(town, PERSON);
            if (p == NONE) {
                return false;
            }
            if (lineCount >= MOST_BOOK_LINES) {
                return tape.fail(TOO_MANY);
            }
            tape.advance();
            persons[lineCount] = p;
            boolean isRead = isYear ? readYear(tape) : readDeed(tape, town);
            lineCount++;
            return isRead && tape.passSign(';');
        }

        private boolean readYear(Tape tape) {
            int n = tape.passNumber(1, YEARS_A_CALL);
            verbs[lineCount] = YEAR;
            whats[lineCount] = n;
            return n != NONE;
        }

        private boolean readDeed(Tape tape, Town town) {
            int verb = tape.value;
            if (tape.kind != WORD || !isWithin(verb, GETS, COMES)) {
                return tape.fail(CANNOT_COME);
            }
            tape.advance();
            verbs[lineCount] = verb;
            whats[lineCount] = 0;
            if (verb == LEAVES || verb == COMES) {
                return true;
            }
            int what = tape.named(town, verb == MOVES ? STREET : MARK);
            if (what == NONE) {
                return false;
            }
            whats[lineCount] = what;
            tape.advance();
            return true;
        }

        /** The lines are lived as far as none is wrong: the one that is; NONE: none. */
        int liveOn(Life life) {
            whyWrong = 0;
            rightLines = 0;
            for (int i = 0; i < lineCount && whyWrong == 0; i++) {
                whyWrong = liveLine(life, i);
                if (whyWrong == 0) {
                    rightLines++;
                }
            }
            isAnyTold = true;
            yearThen = life.year;
            offThen = life.offOfAll();
            return whyWrong == 0 ? NONE : rightLines;
        }

        private int liveLine(Life life, int i) {
            int verb = verbs[i];
            if (verb == YEAR) {
                if (whats[i] > ALL_YEARS - life.year) {
                    return FEW_YEARS_LEFT;
                }
                life.goYears(whats[i]);
                return 0;
            }
            int why = life.act(verb, persons[i], whats[i]);
            return why == 0 ? 0 : why + 10 * (verb - GETS);
        }

        int tell(int what) {
            if (!isAnyTold) {
                return NONE;
            }
            switch (what) {
                case 0:
                    return whyWrong;
                case 1:
                    return rightLines;
                case 2:
                    return yearThen;
                case 3:
                    return offThen;
                default:
                    return NONE;
            }
        }
    }

    /** A sentence as steps on a stack of groups of persons: 'and' comes behind both that it joins. */
    private static final class Sentence {
        final int[] ops = new int[SENTENCE_STEPS];
        final int[] signs = new int[SENTENCE_STEPS];
        final int[] numbers = new int[SENTENCE_STEPS];
        final int[] stack = new int[SENTENCE_STEPS];
        int steps;

        void addStep(int op, int sign, int number) {
            if (steps < SENTENCE_STEPS) {
                ops[steps] = op;
                signs[steps] = sign;
                numbers[steps] = number;
                steps++;
            }
        }

        /** The persons, as bits, of whom it may be said. */
        int trueOf(Life life) {
            int top = 0;
            for (int i = 0; i < steps; i++) {
                int op = ops[i];
                if (op == NOT && top >= 1) {
                    stack[top - 1] = life.town.everybody() & ~stack[top - 1];
                } else if (op == AND && top >= 2) {
                    top--;
                    stack[top - 1] &= stack[top];
                } else if (op == OR && top >= 2) {
                    top--;
                    stack[top - 1] |= stack[top];
                } else if (top < SENTENCE_STEPS) {
                    stack[top] = groupOf(life, i);
                    top++;
                }
            }
            return top > 0 ? stack[0] : 0;
        }

        private int groupOf(Life life, int i) {
            Town town = life.town;
            switch (ops[i]) {
                case AWAY:
                    return life.away;
                case MAN:
                    return town.everybody() & ~town.women;
                case WOMAN:
                    return town.women;
                case HAS:
                    return life.holders[numbers[i]];
                case RIDES:
                    return town.riders[numbers[i]];
                default:
                    return groupByNumbers(life, i);
            }
        }

        private int groupByNumbers(Life life, int i) {
            int group = 0;
            for (int p = 0; p < life.town.counts[PERSON]; p++) {
                int n = numberFor(life, ops[i], p);
                boolean isSo = signs[i] == '<' ? n < numbers[i] : signs[i] == '>' ? n > numbers[i] : n == numbers[i];
                if (isSo) {
                    group |= 1 << p;
                }
            }
            return group;
        }

        private static int numberFor(Life life, int op, int p) {
            switch (op) {
                case IN:
                    return life.street[p];
                case MINDS:
                    return life.town.minds[p];
                case MARKS:
                    return Integer.bitCount(life.marksOf(p));
                default:
                    return p;
            }
        }
    }

    /** Reads the text of a sentence. */
    private static final class SentenceReader {
        final Tape tape;
        Town town;
        Sentence sentence;
        int ones;

        SentenceReader(Tape tape) {
            this.tape = tape;
        }

        /** How many ONES; with a fault the sentence is of no use. */
        int read(Sentence fresh, Town ofTown) {
            town = ofTown;
            sentence = fresh;
            ones = 0;
            tape.begin(SENTENCE_BYTES);
            if (readCond(1) && tape.kind != TEXT_END) {
                tape.fail(CANNOT_COME);
            }
            return ones;
        }

        private boolean readCond(int depth) {
            if (!readAll(depth)) {
                return false;
            }
            for (int i = 0; i < SENTENCE_BYTES && tape.isAtWord(OR); i++) {
                tape.advance();
                if (!readAll(depth)) {
                    return false;
                }
                sentence.addStep(OR, 0, 0);
            }
            return true;
        }

        private boolean readAll(int depth) {
            if (!readOne(depth)) {
                return false;
            }
            for (int i = 0; i < SENTENCE_BYTES && tape.isAtWord(AND); i++) {
                tape.advance();
                if (!readOne(depth)) {
                    return false;
                }
                sentence.addStep(AND, 0, 0);
            }
            return true;
        }

        private boolean readOne(int depth) {
            boolean isBracket = tape.isAtSign('(');
            int word = tape.value;
            if (!isBracket && (tape.kind != WORD || !beginsOne(word))) {
                return tape.fail(CANNOT_COME);
            }
            if (ones >= MOST_ONES || depth > MOST_WITHIN) {
                return tape.fail(TOO_MANY);
            }
            ones++;
            tape.advance();
            if (isBracket) {
                return readCond(depth + 1) && tape.passSign(')');
            }
            if (word == NOT) {
                boolean isRead = readOne(depth + 1);
                sentence.addStep(NOT, 0, 0);
                return isRead;
            }
            switch (word) {
                case HAS:
                    return readNamed(word, MARK);
                case IN:
                    return readNamed(word, STREET);
                case RIDES:
                    return readNamed(word, TRAM);
                case MINDS:
                case MARKS:
                case NUMBER_OF:
                    return readComparison(word);
                default:
                    sentence.addStep(word, 0, 0);
                    return true;
            }
        }

        private static boolean beginsOne(int word) {
            return isWithin(word, NOT, NUMBER_OF) || isWithin(word, MAN, AWAY) || word == HAS || word == RIDES;
        }

        private boolean readNamed(int word, int sort) {
            int n = tape.named(town, sort);
            if (n == NONE) {
                return false;
            }
            sentence.addStep(word, '=', n);
            tape.advance();
            return true;
        }

        private boolean readComparison(int word) {
            if (!tape.isAtSign('<') && !tape.isAtSign('=') && !tape.isAtSign('>')) {
                return tape.fail(CANNOT_COME);
            }
            int sign = tape.value;
            tape.advance();
            int n = tape.passNumber(0, MOST_NUMBER);
            sentence.addStep(word, sign, n);
            return n != NONE;
        }
    }

    /** Looks through all groups of persons here that could have a mark. */
    private static final class Search {
        int leastWho = NONE;
        int leastBurdens = NONE;
        int familySets = NONE;
        int changedWho = NONE;
        final int[] offs = new int[MOST_GROUPS];
        final int[] shared = new int[MOST_GROUPS];
        final int[] possible = new int[FAMILY_WORDS];
        final int[] burdenRow = new int[MOST_PERSONS];
        int foundWho;
        int foundBurdens;

        int tellLeast(Life life, int m) {
            fillBurdens(life.town, m);
            int off = fillOffs(life, m);
            findLeast(life, off);
            leastWho = foundWho;
            leastBurdens = foundBurdens;
            return off;
        }

        int isSpared(Life life, int p, int m, int n) {
            fillBurdens(life.town, m);
            int off = fillOffs(life, m);
            findLeast(life, off);
            if (!isIn(foundWho, p)) {
                return NONE;
            }
            burdenRow[p] = n;
            findLeast(life, off);
            return isIn(foundWho, p) ? 0 : 1;
        }

        private void fillBurdens(Town town, int m) {
            for (int p = 0; p < town.counts[PERSON]; p++) {
                burdenRow[p] = town.burdenFor(p, m);
            }
        }

        /** OFF for each group: the least. A group with one who is away is off by more than any can be. */
        private int fillOffs(Life life, int m) {
            int least = MOST_OFF;
            int groups = 1 << life.town.counts[PERSON];
            for (int x = 0; x < groups; x++) {
                offs[x] = (x & life.away) != 0 ? MOST_OFF : life.offIf(x, m);
                least = Math.min(least, offs[x]);
            }
            return least;
        }

        private void findLeast(Life life, int off) {
            foundWho = NONE;
            foundBurdens = NONE;
            int groups = 1 << life.town.counts[PERSON];
            for (int x = 0; x < groups; x++) {
                if (offs[x] == off) {
                    int sum = sumOfBurdens(x);
                    if (foundWho == NONE || sum < foundBurdens) {
                        foundWho = x;
                        foundBurdens = sum;
                    }
                }
            }
        }

        private int sumOfBurdens(int group) {
            int sum = 0;
            for (int p = 0; p < MOST_PERSONS; p++) {
                if (isIn(group, p)) {
                    sum += burdenRow[p];
                }
            }
            return sum;
        }

        int tellChanges(Life life, int m) {
            int off = fillOffs(life, m);
            int has = life.holders[m] & ~life.away;
            int fewest = MOST_PERSONS + 1;
            int groups = 1 << life.town.counts[PERSON];
            // By who changes, not by who has it then: so the first of like ones is the least as bits.
            for (int x = 0; x < groups; x++) {
                if ((x & life.away) == 0 && offs[x ^ has] == off && Integer.bitCount(x) < fewest) {
                    fewest = Integer.bitCount(x);
                    changedWho = x;
                }
            }
            return fewest;
        }

        int fewestWithBoth(Life life, int m, int k) {
            int groups = 1 << life.town.counts[PERSON];
            int off = fillOffs(life, k);
            for (int x = 0; x < groups; x++) {
                shared[x] = offs[x] == off ? 0 : MOST_OFF;
            }
            fillShared(life.town.counts[PERSON]);
            off = fillOffs(life, m);
            int fewest = MOST_OFF;
            for (int x = 0; x < groups; x++) {
                if (offs[x] == off) {
                    fewest = Math.min(fewest, shared[x]);
                }
            }
            return fewest;
        }

        /** From 0 at each group that is allowed: how few of a group are in an allowed one, person by person. */
        private void fillShared(int persons) {
            int groups = 1 << persons;
            for (int p = 0; p < persons; p++) {
                int bit = 1 << p;
                for (int x = 0; x < groups; x++) {
                    if ((x & bit) == 0) {
                        int without = shared[x];
                        int with = shared[x | bit];
                        shared[x] = Math.min(without, with);
                        shared[x | bit] = Math.min(without, with + 1);
                    }
                }
            }
        }

        int tellFamily(Life life, int m) {
            int sets = life.town.setCount();
            fillPossible(life, m);
            int fewest = MOST_SETS + 1;
            int families = 1 << sets;
            for (int f = 0; f < families; f++) {
                if (!isIn(possible[f >>> 5], f & 31) && Integer.bitCount(f) < fewest) {
                    fewest = Integer.bitCount(f);
                    familySets = f;
                }
            }
            return fewest > MOST_SETS ? NONE : fewest;
        }

        /** Which families of sets can all be right together, a bit for each family. */
        private void fillPossible(Life life, int m) {
            Arrays.fill(possible, 0);
            int groups = 1 << life.town.counts[PERSON];
            for (int x = 0; x < groups; x++) {
                if ((x & life.away) == 0) {
                    int right = life.rightIf(x, m);
                    possible[right >>> 5] |= 1 << (right & 31);
                }
            }
            // What is in a family that can be right can be right, too.
            for (int b = 0; b < LACKS_BIT.length; b++) {
                for (int w = 0; w < FAMILY_WORDS; w++) {
                    possible[w] |= possible[w] >>> (1 << b) & LACKS_BIT[b];
                }
            }
            for (int bit = 1; bit < FAMILY_WORDS; bit <<= 1) {
                for (int w = 0; w < FAMILY_WORDS; w++) {
                    if ((w & bit) == 0) {
                        possible[w] |= possible[w | bit];
                    }
                }
            }
        }
    }

    /** Which groups may have something by counts of sets. */
    private static final class Tally {
        int inEach = NONE;
        int nextSet = NONE;
        final int[] groups = new int[MOST_GROUPS];
        final int[] ofSize = new int[SIZES];
        int left;

        int countGroups(Life life, Tape tape) {
            if (!isAsTold(life.town, tape)) {
                return NONE;
            }
            left = 0;
            int all = 1 << life.town.counts[PERSON];
            for (int x = 0; x < all; x++) {
                if ((x & life.away) == 0 && isCounted(life, tape, x)) {
                    groups[left] = x;
                    left++;
                }
            }
            if (left > 0) {
                findInEach();
                findNextSet(life);
            }
            return left;
        }

        private static boolean isAsTold(Town town, Tape tape) {
            if (tape.size % 2 != 0 || !isWithin(tape.size, 2, 2 * MOST_COUNTS)) {
                return false;
            }
            for (int i = 0; i < tape.size; i += 2) {
                if ((tape.bytes[i] & 255) >= town.setCount()) {
                    return false;
                }
            }
            return true;
        }

        private static boolean isCounted(Life life, Tape tape, int group) {
            for (int i = 0; i + 1 < tape.size; i += 2) {
                int set = life.insiders[tape.bytes[i] & 255];
                if (Integer.bitCount(set & group) != (tape.bytes[i + 1] & 255)) {
                    return false;
                }
            }
            return true;
        }

        private void findInEach() {
            inEach = groups[0];
            for (int i = 1; i < left; i++) {
                inEach &= groups[i];
            }
        }

        private void findNextSet(Life life) {
            int least = MOST_GROUPS + 1;
            for (int s = 0; s < life.town.setCount(); s++) {
                int most = mostLeftBy(life.insiders[s]);
                if (most < least) {
                    least = most;
                    nextSet = s;
                }
            }
        }

        /** How many groups can still be left when a set has been counted. */
        private int mostLeftBy(int set) {
            Arrays.fill(ofSize, 0);
            int most = 0;
            for (int i = 0; i < left; i++) {
                int size = Integer.bitCount(groups[i] & set);
                ofSize[size]++;
                most = Math.max(most, ofSize[size]);
            }
            return most;
        }
    }

    /** The latest plate. */
    private static final class Plate {
        final int[] bytes = new int[PLATE_BYTES];
        int length;

        int write(Life life, int p) {
            Town town = life.town;
            length = 0;
            putName(town.nameOf(PERSON, p));
            if (isIn(life.away, p)) {
                putText(" is away");
                return length;
            }
            int marks = life.marksOf(p);
            putText(marks == 0 ? " has none" : " has ");
            boolean isFirst = true;
            for (int m = 0; m < town.counts[MARK]; m++) {
                if (isIn(marks, m)) {
                    putText(isFirst ? "" : " and ");
                    putName(town.nameOf(MARK, m));
                    isFirst = false;
                }
            }
            return length;
        }

        private void putName(long name) {
            for (int shift = (WORD_LETTERS - 1) * LETTER_BITS; shift >= 0; shift -= LETTER_BITS) {
                int letter = (int) (name >>> shift) & LETTER_MASK;
                if (letter != 0) {
                    putByte('a' + letter - 1);
                }
            }
        }

        private void putText(String text) {
            for (int i = 0; i < text.length(); i++) {
                putByte(text.charAt(i));
            }
        }

        private void putByte(int c) {
            if (length < PLATE_BYTES) {
                bytes[length] = c;
                length++;
            }
        }
    }
}
