import java.util.Arrays;
import java.util.NoSuchElementException;

/** A house of tuners: its rules, pianos and tuners, and what was done and found, with the answers drawn from them. */
public final class TunerRounds {
    public static final int NONE = -1;

    private static final int NOT_SUCH = -2;
    private static final int DAYS = 364;
    private static final int WEEKS = 52;
    private static final int NOTES = 12;
    private static final int SORTS = 4;
    private static final int IMAGES = 2;

    private final Tape tape;
    private final House house;
    private final Records records;
    private final HouseText houseText;
    private final RecordText recordText;
    private final Standing standing;
    private final Findings findings;
    private final Books books;
    private final Rounds rounds;
    private final StringBag strings;
    private final Lessons lessons;
    private final House[] keptHouses;
    private final Records[] keptRecords;
    private final int[] isKept;
    private int faultKind;

    public TunerRounds() {
        tape = new Tape();
        house = new House();
        records = new Records();
        houseText = new HouseText(tape);
        recordText = new RecordText(tape, house, records);
        standing = new Standing(house, records);
        findings = new Findings(house, records);
        books = new Books(house, records, standing);
        rounds = new Rounds(house, records, standing);
        strings = new StringBag(house);
        lessons = new Lessons(house);
        keptHouses = new House[IMAGES];
        keptRecords = new Records[IMAGES];
        isKept = new int[IMAGES];
        for (int k = 0; k < IMAGES; k++) {
            keptHouses[k] = new House();
            keptRecords[k] = new Records();
        }
        faultKind = 0;
    }

    public int feed(int a, int b, int c, int d, int e) {
        if (!tape.hasRoom(20)) {
            return NONE;
        }
        tape.add(a);
        tape.add(b);
        tape.add(c);
        tape.add(d);
        tape.add(e);
        return tape.length;
    }

    public boolean end(int n) {
        return tape.isCut(n);
    }

    public int house() {
        try {
            houseText.readAll();
            house.copyFrom(houseText.draft);
            records.size = 0;
        } catch (IllegalStateException fault) {
            // The tape holds where and what the FAULT is.
        }
        tape.empty();
        faultKind = tape.faultKind;
        return faultKind == 0 ? house.lines : -1 - tape.faultPlace;
    }

    public int records() {
        try {
            records.size = recordText.readAll();
        } catch (IllegalStateException fault) {
            // The tape holds where and what the FAULT is.
        }
        tape.empty();
        faultKind = tape.faultKind;
        return faultKind == 0 ? records.size : -1 - tape.faultPlace;
    }

    public int fault() {
        return faultKind;
    }

    public int piano(int p, int what) throws NoSuchElementException {
        if (!house.hasPiano(p) || !isWithin(what, House.FACTS)) {
            throw new NoSuchElementException();
        }
        return house.fact(p, what);
    }

    public int week(int w, int what) {
        if (!isWithin(w, WEEKS) || !isWithin(what, 2)) {
            return NONE;
        }
        return what == 0 ? house.damp[w] : house.term[w];
    }

    public int beats(int note, int what) {
        if (!isWithin(note, NOTES) || !isWithin(what, House.CHORDS) || !house.hasTable()) {
            return NONE;
        }
        return house.beatsOf(note, what);
    }

    public int wolf(int what) {
        if (!isWithin(what, House.CHORDS) || !house.hasTable()) {
            return NONE;
        }
        return house.wildest(what);
    }

    public int offset(int p, int note, int day, int known) throws NoSuchElementException {
        if (!isAsked(p, day, known) || !isWithin(note, NOTES)) {
            throw new NoSuchElementException();
        }
        standing.look(p, day, known);
        if (!standing.wasTuned()) {
            throw new NoSuchElementException();
        }
        return standing.offsetAt(note, day, 0);
    }

    public int off(int p, int day, int known) {
        if (!isAsked(p, day, known)) {
            return NOT_SUCH;
        }
        standing.look(p, day, known);
        return standing.wasTuned() ? standing.greatestAt(day, 0) : NONE;
    }

    public int due(int p, int day, int known, int how) {
        if (!isAsked(p, day, known) || !isWithin(how, 3)) {
            return NOT_SUCH;
        }
        standing.look(p, day, known);
        return standing.firstBeyond(day, how == 2 ? -1 : how);
    }

    public int slips(int p, int known) {
        if (!house.hasPiano(p) || !isKnowing(known)) {
            return NOT_SUCH;
        }
        return findings.mostSlipping(p, known);
    }

    public int slipped(int what) throws NoSuchElementException {
        if (!isWithin(what, 2) || findings.slipBelow == 0) {
            throw new NoSuchElementException();
        }
        return what == 0 ? findings.slipAbove : findings.slipBelow;
    }

    public long stove(int known, int what) throws NoSuchElementException {
        if (!isKnowing(known) || !isWithin(what, 2) || !findings.weighStoves(known)) {
            throw new NoSuchElementException();
        }
        return what == 0 ? findings.above : findings.below;
    }

    public int lean(int tuner, int note, int known, int what) throws NoSuchElementException {
        if (!house.hasTuner(tuner) || !isWithin(note, NOTES) || !isKnowing(known) || !isWithin(what, 2)) {
            throw new NoSuchElementException();
        }
        if (!findings.weighLean(tuner, note, known)) {
            throw new NoSuchElementException();
        }
        return (int) (what == 0 ? findings.above : findings.below);
    }

    public int batch(int known) {
        return isKnowing(known) ? findings.worstBatch(known) : NONE;
    }

    public int cracked(int p, int known) {
        if (!house.hasPiano(p) || !isKnowing(known)) {
            return NONE;
        }
        return findings.isCracked(p, known) ? 1 : 0;
    }

    public int weight(int p, int day) {
        if (!house.hasPiano(p) || !isWithin(day, DAYS)) {
            return NONE;
        }
        return rounds.weightOf(p, day);
    }

    public int round(int tuner, int day) {
        int n = tape.movePianos(rounds.pianos, house.pianos);
        if (n < 0 || !house.hasTuner(tuner) || !isWithin(day, DAYS)) {
            return NONE;
        }
        return rounds.best(n, tuner, day);
    }

    public int roundAt(int i) {
        return isWithin(i, rounds.orderLength) ? rounds.order[i] : NONE;
    }

    public int home() {
        return rounds.orderHome;
    }

    public int walked(int tuner, int day) {
        int n = tape.movePianos(rounds.pianos, house.pianos);
        if (n < 0 || !house.hasTuner(tuner) || !isWithin(day, DAYS)) {
            return NONE;
        }
        return rounds.walkAsTold(n, tuner, day);
    }

    public int two(int one, int other, int day) {
        int n = tape.movePianos(rounds.pianos, house.pianos);
        if (n < 0 || !house.hasTuner(one) || !house.hasTuner(other) || one == other || !isWithin(day, DAYS)) {
            return NONE;
        }
        return rounds.bestOfTwo(n, one, other, day);
    }

    public int festival(int day) {
        int n = tape.movePianos(rounds.pianos, house.pianos);
        if (n < 0 || !isWithin(day, DAYS)) {
            return NOT_SUCH;
        }
        return rounds.fewestTuners(n, day);
    }

    public int unready(int p, int known) {
        if (!house.isHall(p) || !isKnowing(known)) {
            return NONE;
        }
        return books.unreadyConcerts(p, known);
    }

    public int whose(int p, int k, int known) {
        if (!house.isHall(p) || !isKnowing(known)) {
            return NONE;
        }
        int concert = books.concertAt(p, k, known);
        return concert < 0 ? NONE : books.blame(concert, known);
    }

    public int fee(int p, int day) {
        if (!house.hasPiano(p) || !isWithin(day, DAYS)) {
            return NONE;
        }
        return house.feeOf(p, day);
    }

    public int owed(int p, int day, int known) throws NoSuchElementException {
        if (!isAsked(p, day, known)) {
            throw new NoSuchElementException();
        }
        return books.debt(p, day, known);
    }

    public int free(int p, int day, int known) {
        return isAsked(p, day, known) ? books.freeTunings(p, day, known) : NONE;
    }

    public int tunings(int p, int day, int known) {
        return isAsked(p, day, known) ? standing.tuningsFrom(p, day, known) : NONE;
    }

    public int past(int p, int day, int known) {
        if (!isAsked(p, day, known)) {
            return NONE;
        }
        int cost = standing.tuningsFrom(p, day, known) * house.feeOf(p, day);
        return cost > house.fact(p, House.WORTH) ? 1 : 0;
    }

    public int bag(int n) {
        int m = tape.movePianos(strings.pianos, house.pianos);
        if (m < 1 || !isWithin(n, StringBag.MOST + 1)) {
            return NONE;
        }
        return strings.pack(m, n);
    }

    public long chance() {
        return strings.packedChance;
    }

    public int pupils() {
        if (house.pupils == 0 || house.tuners == 0) {
            return NONE;
        }
        return lessons.share();
    }

    public int pupilOf(int k) {
        return isWithin(k, lessons.shared) ? lessons.tunerOf[k] : NONE;
    }

    public boolean image(int k) {
        if (!isWithin(k, IMAGES)) {
            return false;
        }
        keptHouses[k].copyFrom(house);
        keptRecords[k].copyFrom(records);
        isKept[k] = 1;
        return true;
    }

    public boolean restore(int k) {
        if (!isWithin(k, IMAGES) || isKept[k] == 0) {
            return false;
        }
        house.copyFrom(keptHouses[k]);
        records.copyFrom(keptRecords[k]);
        return true;
    }

    public int count(int what) {
        switch (what) {
            case 0:
                return house.pianos;
            case 1:
                return house.tuners;
            case 2:
                return house.pupils;
            case 3:
                return records.size;
            case 4:
                return tape.length;
            case 5:
                return records.concertsTold();
            case 6:
                return house.fees;
            default:
                return NONE;
        }
    }

    private boolean isAsked(int p, int day, int known) {
        return house.hasPiano(p) && isWithin(day, DAYS) && isKnowing(known);
    }

    private static boolean isKnowing(int known) {
        return known == NONE || isWithin(known, DAYS);
    }

    private static boolean isWithin(int i, int bound) {
        return i >= 0 && i < bound;
    }

    private static int weekOf(int day) {
        return day / 7;
    }

    /** The bytes fed, and the TOKENS read from them one at a time. */
    private static final class Tape {
        static final int BYTES = 1240;

        static final int END_OF_TEXT = 0;
        static final int NO_TOKEN = 1;
        static final int WORD = 2;
        static final int NUMBER = 3;
        static final int SEMICOLON = 4;
        static final int MINUS = 5;

        static final int NOT_A_KEYWORD = -1;
        static final int TABLE = 0;
        static final int DAMP = 1;
        static final int TERM = 2;
        static final int FEE = 3;
        static final int SURE = 4;
        static final int CAKE = 5;
        static final int WALK = 6;
        static final int WORK = 7;
        static final int DAY = 8;
        static final int PIANO = 9;
        static final int TUNER = 10;
        static final int PUPIL = 11;
        static final int TEACH = 12;
        static final int FORK = 13;
        static final int HOME = 14;
        static final int HALL = 16;
        static final int STOVE = 17;
        static final int SLIP = 18;
        static final int FRAIL = 19;
        static final int OPEN = 20;
        static final int TUNED = 21;
        static final int MOVED = 27;
        static final int ON = 28;
        static final int KNOWN = 29;
        static final int KEYWORDS = 30;
        private static final String KEYWORD_TEXT =
            "table damp term fee sure cake walk work day piano tuner pupil teach fork home school hall stove slip frail open tuned found broke paid ate concert moved on known ";

        private static final int LETTERS_AT_MOST = 8;
        private static final int DIGITS_AT_MOST = 5;

        final byte[] bytes = new byte[BYTES];
        final long[] keywords = new long[KEYWORDS];
        int length;
        int limit;
        int next;
        int start;
        int kind;
        int value;
        long word;
        int faultKind;
        int faultPlace;

        Tape() {
            long code = 0;
            int k = 0;
            for (int i = 0; i < KEYWORD_TEXT.length() && k < KEYWORDS; i++) {
                char sign = KEYWORD_TEXT.charAt(i);
                if (sign == ' ') {
                    keywords[k] = code;
                    k++;
                    code = 0;
                } else {
                    code = withLetter(code, sign);
                }
            }
        }

        // Eight letters of five bits fit in one long, and no letter is 0, so unlike WORDS have unlike codes.
        private static long withLetter(long code, int sign) {
            return code * 32 + (sign - 'a' + 1);
        }

        boolean hasRoom(int more) {
            return length + more <= BYTES;
        }

        void add(int four) {
            for (int shift = 24; shift >= 0 && length < BYTES; shift -= 8) {
                bytes[length] = (byte) (four >>> shift);
                length++;
            }
        }

        boolean isCut(int n) {
            if (n < 0 || n > length) {
                return false;
            }
            length = n;
            return true;
        }

        void empty() {
            length = 0;
        }

        /** Moves the tape into a row of unlike PIANOS: how many; NONE if they are not such. The tape is empty then. */
        int movePianos(int[] into, int pianos) {
            int n = length;
            length = 0;
            if (n > into.length) {
                return NONE;
            }
            int seen = 0;
            for (int i = 0; i < n; i++) {
                int p = bytes[i] & 255;
                if (p >= pianos || (seen >> p & 1) == 1) {
                    return NONE;
                }
                seen |= 1 << p;
                into[i] = p;
            }
            return n;
        }

        void begin(int most) {
            limit = most;
            next = 0;
            start = 0;
            faultKind = 0;
            faultPlace = 0;
        }

        void take() {
            while (next < length && isBlank(bytes[next])) {
                next++;
            }
            if (length > limit && next >= limit) {
                start = limit;
                kind = NO_TOKEN;
                return;
            }
            start = next;
            if (next >= length) {
                kind = END_OF_TEXT;
                return;
            }
            int sign = bytes[next];
            if (isLetter(sign) || isDigit(sign)) {
                takeRun();
                return;
            }
            next++;
            kind = sign == ';' ? SEMICOLON : sign == '-' ? MINUS : NO_TOKEN;
        }

        private void takeRun() {
            int letters = 0;
            int digits = 0;
            word = 0;
            value = 0;
            for (; next < length; next++) {
                int sign = bytes[next];
                if (isLetter(sign)) {
                    letters++;
                    word = withLetter(word, sign);
                } else if (isDigit(sign)) {
                    digits++;
                    value = value * 10 + (sign - '0');
                } else {
                    break;
                }
            }
            if (digits == 0 && letters <= LETTERS_AT_MOST) {
                kind = WORD;
            } else if (letters == 0 && digits <= DIGITS_AT_MOST) {
                kind = NUMBER;
            } else {
                kind = NO_TOKEN;
            }
        }

        private static boolean isBlank(int sign) {
            return sign == 32 || sign == 10;
        }

        private static boolean isLetter(int sign) {
            return sign >= 'a' && sign <= 'z';
        }

        private static boolean isDigit(int sign) {
            return sign >= '0' && sign <= '9';
        }

        int takeNumber(int least, int most) {
            take();
            return numberHere(least, most);
        }

        int takeSigned(int most) {
            take();
            boolean isBelow = kind == MINUS;
            if (isBelow) {
                take();
            }
            int size = numberHere(0, most);
            return isBelow ? -size : size;
        }

        int numberHere(int least, int most) {
            if (kind != NUMBER) {
                fail(1);
            }
            if (value < least || value > most) {
                fail(2);
            }
            return value;
        }

        int keywordHere() {
            if (kind != WORD) {
                return NOT_A_KEYWORD;
            }
            for (int k = 0; k < KEYWORDS; k++) {
                if (keywords[k] == word) {
                    return k;
                }
            }
            return NOT_A_KEYWORD;
        }

        int takeKind() {
            take();
            int keyword = keywordHere();
            if (keyword < HOME || keyword > HALL) {
                fail(1);
            }
            return keyword - HOME;
        }

        long takeName() {
            take();
            if (kind != WORD || keywordHere() != NOT_A_KEYWORD) {
                fail(1);
            }
            return word;
        }

        void fail(int fault) {
            faultKind = fault;
            faultPlace = start;
            throw new IllegalStateException();
        }
    }

    /** The rules, PIANOS, TUNERS and PUPILS as told. */
    private static final class House {
        static final int PIANOS = 16;
        static final int TUNERS = 6;
        static final int PUPILS = 6;
        static final int FEES = 16;
        static final int CHORDS = 4;

        static final int FACTS = 10;
        static final int KIND = 0;
        static final int X = 1;
        static final int Y = 2;
        static final int EAR = 3;
        static final int AGE = 4;
        static final int WORTH = 5;
        static final int BATCH = 6;
        static final int STOVE = 7;
        static final int OPEN_FROM = 8;
        static final int OPEN_TO = 9;
        static final int SCHOOL = 1;
        static final int HALL = 2;

        static final int RULES = 6;
        static final int SURE = 0;
        static final int CAKE = 1;
        static final int WALK = 2;
        static final int WORK = 3;
        static final int DAY_FROM = 4;
        static final int DAY_TO = 5;
        private static final int[] RULES_UNTOLD = {0, 0, 5, 60, 480, 1080};

        private static final int USUAL_DAMP = 20;
        private static final int USUAL_SLIP = 1;
        private static final int DAY_ENDS = 1440;
        private static final int[] CHORD_STEPS = {7, 4, 3, 5};
        private static final int[] CHORD_TIMES = {3, 5, 6, 4};

        final int[] table = new int[NOTES];
        final int[] damp = new int[WEEKS];
        final int[] term = new int[WEEKS];
        final int[] rules = new int[RULES];
        final int[] feeRows = new int[FEES * 3];
        final int[] facts = new int[PIANOS * FACTS];
        final int[] slip = new int[PIANOS * NOTES];
        final int[] frail = new int[PIANOS * SORTS];
        final int[] tunerRows = new int[TUNERS * 3];
        final int[] teach = new int[TUNERS * PUPILS];
        final long[] pianoNames = new long[PIANOS];
        final long[] tunerNames = new long[TUNERS];
        final long[] pupilNames = new long[PUPILS];
        int pianos;
        int tuners;
        int pupils;
        int fees;
        int lines;

        House() {
            clear();
        }

        void clear() {
            Arrays.fill(table, 0);
            Arrays.fill(damp, USUAL_DAMP);
            Arrays.fill(term, 0);
            Arrays.fill(teach, 0);
            System.arraycopy(RULES_UNTOLD, 0, rules, 0, RULES);
            pianos = 0;
            tuners = 0;
            pupils = 0;
            fees = 0;
            lines = 0;
        }

        void copyFrom(House other) {
            System.arraycopy(other.table, 0, table, 0, NOTES);
            System.arraycopy(other.damp, 0, damp, 0, WEEKS);
            System.arraycopy(other.term, 0, term, 0, WEEKS);
            System.arraycopy(other.rules, 0, rules, 0, RULES);
            System.arraycopy(other.feeRows, 0, feeRows, 0, FEES * 3);
            System.arraycopy(other.facts, 0, facts, 0, PIANOS * FACTS);
            System.arraycopy(other.slip, 0, slip, 0, PIANOS * NOTES);
            System.arraycopy(other.frail, 0, frail, 0, PIANOS * SORTS);
            System.arraycopy(other.tunerRows, 0, tunerRows, 0, TUNERS * 3);
            System.arraycopy(other.teach, 0, teach, 0, TUNERS * PUPILS);
            System.arraycopy(other.pianoNames, 0, pianoNames, 0, PIANOS);
            System.arraycopy(other.tunerNames, 0, tunerNames, 0, TUNERS);
            System.arraycopy(other.pupilNames, 0, pupilNames, 0, PUPILS);
            pianos = other.pianos;
            tuners = other.tuners;
            pupils = other.pupils;
            fees = other.fees;
            lines = other.lines;
        }

        /** The next PIANO, with all that a LINE may leave out as it is when left out. */
        int addPiano(long name) {
            int p = pianos;
            pianoNames[p] = name;
            pianos++;
            for (int note = 0; note < NOTES; note++) {
                slip[p * NOTES + note] = USUAL_SLIP;
            }
            for (int g = 0; g < SORTS; g++) {
                frail[p * SORTS + g] = 0;
            }
            tell(p, STOVE, 0);
            tell(p, OPEN_FROM, 0);
            tell(p, OPEN_TO, DAY_ENDS);
            return p;
        }

        void tell(int p, int what, int value) {
            facts[p * FACTS + what] = value;
        }

        int fact(int p, int what) {
            return facts[p * FACTS + what];
        }

        boolean hasPiano(int p) {
            return p >= 0 && p < pianos;
        }

        boolean hasTuner(int t) {
            return t >= 0 && t < tuners;
        }

        boolean isHall(int p) {
            return hasPiano(p) && fact(p, KIND) == HALL;
        }

        boolean isShut(int p, int day) {
            return fact(p, KIND) == SCHOOL && term[weekOf(day)] == 1;
        }

        int tunerX(int t) {
            return tunerRows[t * 3];
        }

        int tunerY(int t) {
            return tunerRows[t * 3 + 1];
        }

        int forkOf(int t) {
            return tunerRows[t * 3 + 2];
        }

        int pianoNamed(long name) {
            return placeOf(pianoNames, pianos, name);
        }

        int tunerNamed(long name) {
            return placeOf(tunerNames, tuners, name);
        }

        int pupilNamed(long name) {
            return placeOf(pupilNames, pupils, name);
        }

        boolean isNameTold(long name) {
            return pianoNamed(name) >= 0 || tunerNamed(name) >= 0 || pupilNamed(name) >= 0;
        }

        private static int placeOf(long[] names, int size, long name) {
            for (int i = 0; i < size; i++) {
                if (names[i] == name) {
                    return i;
                }
            }
            return NONE;
        }

        int feeOf(int p, int day) {
            int fee = 0;
            int latest = NONE;
            for (int i = 0; i < fees; i++) {
                int from = feeRows[i * 3 + 2];
                if (feeRows[i * 3] == fact(p, KIND) && from <= day && from >= latest) {
                    latest = from;
                    fee = feeRows[i * 3 + 1];
                }
            }
            return fee;
        }

        boolean hasTable() {
            return table[0] > 0;
        }

        int beatsOf(int note, int chord) {
            int above = note + CHORD_STEPS[chord];
            int tone = above < NOTES ? table[above] : 2 * table[above - NOTES];
            int times = CHORD_TIMES[chord];
            return Math.abs(times * table[note] - (times - 1) * tone);
        }

        int wildest(int chord) {
            int wildest = 0;
            for (int note = 1; note < NOTES; note++) {
                if (beatsOf(note, chord) > beatsOf(wildest, chord)) {
                    wildest = note;
                }
            }
            return wildest;
        }
    }

    /** What was done and found, in the order told. */
    private static final class Records {
        static final int MOST = 200;
        static final int TUNED = 0;
        static final int FOUND = 1;
        static final int BROKE = 2;
        static final int PAID = 3;
        static final int ATE = 4;
        static final int CONCERT = 5;
        static final int MOVED = 6;

        final int[] kind = new int[MOST];
        final int[] piano = new int[MOST];
        final int[] on = new int[MOST];
        final int[] known = new int[MOST];
        final int[] first = new int[MOST];
        final int[] second = new int[MOST];
        final int[] told = new int[MOST];
        final int[] left = new int[MOST * NOTES];
        int size;

        void copyFrom(Records other) {
            size = other.size;
            System.arraycopy(other.kind, 0, kind, 0, size);
            System.arraycopy(other.piano, 0, piano, 0, size);
            System.arraycopy(other.on, 0, on, 0, size);
            System.arraycopy(other.known, 0, known, 0, size);
            System.arraycopy(other.first, 0, first, 0, size);
            System.arraycopy(other.second, 0, second, 0, size);
            System.arraycopy(other.told, 0, told, 0, size);
            System.arraycopy(other.left, 0, left, 0, size * NOTES);
        }

        /** Makes row i bare, so that a NOTE that is not told in it was left at 0. */
        void begin(int i, int itsKind, int itsPiano) {
            kind[i] = itsKind;
            piano[i] = itsPiano;
            first[i] = 0;
            second[i] = 0;
            told[i] = 0;
            for (int note = 0; note < NOTES; note++) {
                left[i * NOTES + note] = 0;
            }
        }

        boolean isTold(int i, int note) {
            return (told[i] >> note & 1) == 1;
        }

        int leftOf(int i, int note) {
            return left[i * NOTES + note];
        }

        boolean isKnown(int i, int day) {
            return day == NONE || known[i] <= day;
        }

        boolean isOf(int i, int itsKind, int itsPiano, int day) {
            return kind[i] == itsKind && piano[i] == itsPiano && (day == NONE || known[i] <= day);
        }

        /** The RECORD of a kind and PIANO OF a day AS KNOWN; NONE without one. */
        int latest(int itsKind, int itsPiano, int day, int knownOn) {
            int latest = NONE;
            for (int i = 0; i < size; i++) {
                if (isOf(i, itsKind, itsPiano, knownOn) && on[i] <= day && (latest < 0 || on[i] >= on[latest])) {
                    latest = i;
                }
            }
            return latest;
        }

        /** Whether there is one of that kind on one of the days from .. to. */
        boolean hasWithin(int itsKind, int itsPiano, int from, int to, int knownOn) {
            for (int i = 0; i < size; i++) {
                if (isOf(i, itsKind, itsPiano, knownOn) && on[i] >= from && on[i] <= to) {
                    return true;
                }
            }
            return false;
        }

        int concertsTold() {
            int concerts = 0;
            for (int i = 0; i < size; i++) {
                if (kind[i] == CONCERT) {
                    concerts++;
                }
            }
            return concerts;
        }
    }

    /** Reads the tape as a HOUSE into a draft, so that a FAULT leaves the HOUSE that stands alone. */
    private static final class HouseText {
        private static final int BYTES = 1200;

        final Tape tape;
        final House draft;
        private int toldOnce;

        HouseText(Tape tape) {
            this.tape = tape;
            draft = new House();
        }

        void readAll() {
            draft.clear();
            toldOnce = 0;
            tape.begin(BYTES);
            // A LINE has two bytes at least, so the text ends ahead of this bound.
            for (int i = 0; i < BYTES; i++) {
                tape.take();
                if (tape.kind == Tape.END_OF_TEXT) {
                    return;
                }
                int keyword = tape.keywordHere();
                if (keyword <= Tape.DAY) {
                    readRuleLine(keyword);
                } else {
                    readNameLine(keyword);
                }
                if (tape.kind != Tape.SEMICOLON) {
                    tape.fail(1);
                }
                draft.lines++;
            }
        }

        /** Each kind of LINE is read up to the TOKEN behind it, which is taken. */
        private void readRuleLine(int keyword) {
            switch (keyword) {
                case Tape.TABLE:
                    readTable();
                    break;
                case Tape.DAMP:
                    readDamp();
                    break;
                case Tape.TERM:
                    readTerm();
                    break;
                case Tape.FEE:
                    readFee();
                    break;
                case Tape.SURE:
                    readRule(keyword, House.SURE, 0, 99);
                    break;
                case Tape.CAKE:
                    readRule(keyword, House.CAKE, 0, 999);
                    break;
                case Tape.WALK:
                    readRule(keyword, House.WALK, 1, 20);
                    break;
                case Tape.WORK:
                    readRule(keyword, House.WORK, 10, 120);
                    break;
                case Tape.DAY:
                    readDay();
                    break;
                default:
                    tape.fail(1);
            }
        }

        private void readNameLine(int keyword) {
            switch (keyword) {
                case Tape.PIANO:
                    mustHaveRoom(draft.pianos, House.PIANOS);
                    readPiano(takeNewName());
                    readMore(draft.pianos - 1);
                    break;
                case Tape.TUNER:
                    mustHaveRoom(draft.tuners, House.TUNERS);
                    readTuner(takeNewName());
                    break;
                case Tape.PUPIL:
                    mustHaveRoom(draft.pupils, House.PUPILS);
                    draft.pupilNames[draft.pupils] = takeNewName();
                    draft.pupils++;
                    tape.take();
                    break;
                case Tape.TEACH:
                    readTeach();
                    break;
                default:
                    tape.fail(1);
            }
        }

        private void readTable() {
            toldOnce = withTold(toldOnce, Tape.TABLE);
            int tone = tape.takeNumber(1000, 99999);
            int most = Math.min(99999, 2 * tone - 1);
            draft.table[0] = tone;
            for (int note = 1; note < NOTES; note++) {
                tone = tape.takeNumber(tone + 1, most);
                draft.table[note] = tone;
            }
            tape.take();
        }

        private void readDamp() {
            int from = tape.takeNumber(0, WEEKS - 1);
            int to = tape.takeNumber(from, WEEKS - 1);
            int damp = tape.takeNumber(0, 40);
            for (int week = from; week <= to; week++) {
                draft.damp[week] = damp;
            }
            tape.take();
        }

        private void readTerm() {
            int from = tape.takeNumber(0, WEEKS - 1);
            int to = tape.takeNumber(from, WEEKS - 1);
            for (int week = from; week <= to; week++) {
                draft.term[week] = 1;
            }
            tape.take();
        }

        private void readFee() {
            mustHaveRoom(draft.fees, House.FEES);
            int row = draft.fees * 3;
            draft.feeRows[row] = tape.takeKind();
            draft.feeRows[row + 1] = tape.takeNumber(0, 9999);
            draft.feeRows[row + 2] = tape.takeNumber(0, DAYS - 1);
            draft.fees++;
            tape.take();
        }

        private void readRule(int keyword, int rule, int least, int most) {
            toldOnce = withTold(toldOnce, keyword);
            draft.rules[rule] = tape.takeNumber(least, most);
            tape.take();
        }

        private void readDay() {
            toldOnce = withTold(toldOnce, Tape.DAY);
            int from = tape.takeNumber(0, 1440);
            draft.rules[House.DAY_FROM] = from;
            draft.rules[House.DAY_TO] = tape.takeNumber(from + 1, 1440);
            tape.take();
        }

        private void mustHaveRoom(int there, int most) {
            if (there >= most) {
                tape.fail(4);
            }
        }

        private long takeNewName() {
            long name = tape.takeName();
            if (draft.isNameTold(name)) {
                tape.fail(3);
            }
            return name;
        }

        private void readPiano(long name) {
            int p = draft.addPiano(name);
            draft.tell(p, House.KIND, tape.takeKind());
            draft.tell(p, House.X, tape.takeNumber(0, 99));
            draft.tell(p, House.Y, tape.takeNumber(0, 99));
            draft.tell(p, House.EAR, tape.takeNumber(1, 999));
            draft.tell(p, House.AGE, tape.takeNumber(0, 200));
            draft.tell(p, House.WORTH, tape.takeNumber(0, 9999));
            draft.tell(p, House.BATCH, tape.takeNumber(0, 9));
        }

        private void readMore(int p) {
            int words = 0;
            int notes = 0;
            int sorts = 0;
            for (int i = 0; i < BYTES; i++) {
                tape.take();
                switch (tape.keywordHere()) {
                    case Tape.STOVE:
                        words = withTold(words, Tape.STOVE);
                        draft.tell(p, House.STOVE, 1);
                        break;
                    case Tape.OPEN:
                        words = withTold(words, Tape.OPEN);
                        int from = tape.takeNumber(0, 1440);
                        draft.tell(p, House.OPEN_FROM, from);
                        draft.tell(p, House.OPEN_TO, tape.takeNumber(from + 1, 1440));
                        break;
                    case Tape.SLIP:
                        int note = tape.takeNumber(0, NOTES - 1);
                        notes = withTold(notes, note);
                        draft.slip[p * NOTES + note] = tape.takeNumber(0, 99);
                        break;
                    case Tape.FRAIL:
                        int sort = tape.takeNumber(0, SORTS - 1);
                        sorts = withTold(sorts, sort);
                        draft.frail[p * SORTS + sort] = tape.takeNumber(0, 20);
                        break;
                    default:
                        return;
                }
            }
        }

        /** What was told with one more; a FAULT at the TOKEN just taken if it was told already. */
        private int withTold(int told, int one) {
            if ((told >> one & 1) == 1) {
                tape.fail(3);
            }
            return told | 1 << one;
        }

        private void readTuner(long name) {
            int t = draft.tuners;
            draft.tunerNames[t] = name;
            draft.tuners++;
            draft.tunerRows[t * 3] = tape.takeNumber(0, 99);
            draft.tunerRows[t * 3 + 1] = tape.takeNumber(0, 99);
            draft.tunerRows[t * 3 + 2] = 0;
            tape.take();
            if (tape.keywordHere() == Tape.FORK) {
                draft.tunerRows[t * 3 + 2] = tape.takeSigned(99);
                tape.take();
            }
        }

        private void readTeach() {
            int tuner = draft.tunerNamed(tape.takeName());
            if (tuner < 0) {
                tape.fail(3);
            }
            int pupil = draft.pupilNamed(tape.takeName());
            if (pupil < 0) {
                tape.fail(3);
            }
            draft.teach[tuner * House.PUPILS + pupil] = tape.takeNumber(0, 99);
            tape.take();
        }
    }

    /** Reads the tape as RECORDS into the rows behind those that there are; they count only when all are read. */
    private static final class RecordText {
        private static final int BYTES = 700;

        final Tape tape;
        final House house;
        final Records records;

        RecordText(Tape tape, House house, Records records) {
            this.tape = tape;
            this.house = house;
            this.records = records;
        }

        /** How many RECORDS there are then in all. */
        int readAll() {
            tape.begin(BYTES);
            int row = records.size;
            for (int i = 0; i < BYTES; i++) {
                tape.take();
                if (tape.kind == Tape.END_OF_TEXT) {
                    return row;
                }
                int keyword = tape.keywordHere();
                if (keyword < Tape.TUNED || keyword > Tape.MOVED) {
                    tape.fail(1);
                }
                if (row >= Records.MOST) {
                    tape.fail(4);
                }
                readLine(row, keyword - Tape.TUNED);
                if (tape.kind != Tape.SEMICOLON) {
                    tape.fail(1);
                }
                row++;
            }
            return row;
        }

        /** A LINE is read up to the TOKEN behind it, which is taken. */
        private void readLine(int row, int kind) {
            int p = takePiano(kind == Records.CONCERT);
            records.begin(row, kind, p);
            if (kind == Records.TUNED) {
                records.first[row] = takeTuner();
            } else if (kind == Records.BROKE) {
                records.first[row] = tape.takeNumber(0, SORTS - 1);
            } else if (kind == Records.PAID) {
                records.first[row] = tape.takeNumber(1, 9999);
            } else if (kind == Records.MOVED) {
                records.first[row] = tape.takeNumber(0, 99);
                records.second[row] = tape.takeNumber(0, 99);
            }
            readWhen(row, kind == Records.CONCERT);
            if (kind == Records.FOUND) {
                readNote(row);
            }
            boolean hasNotes = kind == Records.TUNED || kind == Records.FOUND;
            // One NOTE more than there are is a FAULT.
            for (int i = 0; i <= NOTES && hasNotes && tape.kind == Tape.NUMBER; i++) {
                readNote(row);
            }
        }

        private int takePiano(boolean isForConcert) {
            int p = house.pianoNamed(tape.takeName());
            if (p < 0 || (isForConcert && !house.isHall(p))) {
                tape.fail(3);
            }
            return p;
        }

        private int takeTuner() {
            int tuner = house.tunerNamed(tape.takeName());
            if (tuner < 0) {
                tape.fail(3);
            }
            return tuner;
        }

        private void readWhen(int row, boolean isConcert) {
            tape.take();
            if (tape.keywordHere() != Tape.ON) {
                tape.fail(1);
            }
            int on = tape.takeNumber(0, DAYS - 1);
            int least = isConcert ? 0 : on;
            records.on[row] = on;
            records.known[row] = least;
            tape.take();
            if (tape.keywordHere() == Tape.KNOWN) {
                records.known[row] = tape.takeNumber(least, DAYS - 1);
                tape.take();
            }
        }

        private void readNote(int row) {
            int note = tape.numberHere(0, NOTES - 1);
            if (records.isTold(row, note)) {
                tape.fail(3);
            }
            records.told[row] |= 1 << note;
            records.left[row * NOTES + note] = tape.takeSigned(999);
            tape.take();
        }
    }

    /** Where the strings of one PIANO stand on each day, by the RECORDS OF one day AS KNOWN. */
    private static final class Standing {
        private static final int MOVED_DAYS = 21;
        private static final int MOVED_TIMES = 3;
        private static final int STOVE_FALL = 2;
        private static final int STOVE_LAST_WEEK = 8;
        private static final int STOVE_FIRST_WEEK = 44;
        private static final int DAMP_TIMES = 5;

        final House house;
        final Records records;
        // Sums from day 0 up to each day: how many times the slip falls, and what the stove takes.
        private final int[] slipTimes = new int[DAYS];
        private final int[] stoveFall = new int[DAYS];
        private final int[] left = new int[NOTES];
        private int piano;
        private int tunedDay;

        Standing(House house, Records records) {
            this.house = house;
            this.records = records;
        }

        void look(int p, int day, int known) {
            piano = p;
            int tuned = records.latest(Records.TUNED, p, day, known);
            tunedDay = tuned < 0 ? NONE : records.on[tuned];
            for (int note = 0; note < NOTES; note++) {
                left[note] = tuned < 0 ? 0 : records.leftOf(tuned, note) + house.forkOf(records.first[tuned]);
            }
            sumSlipTimes(day, known);
            sumStoveFall();
        }

        private void sumSlipTimes(int day, int known) {
            Arrays.fill(slipTimes, 1);
            for (int i = 0; i < records.size; i++) {
                if (records.isOf(i, Records.MOVED, piano, known) && records.on[i] <= day) {
                    int last = Math.min(DAYS - 1, records.on[i] + MOVED_DAYS);
                    for (int x = records.on[i] + 1; x <= last; x++) {
                        slipTimes[x] = MOVED_TIMES;
                    }
                }
            }
            for (int x = 1; x < DAYS; x++) {
                slipTimes[x] += slipTimes[x - 1];
            }
        }

        private void sumStoveFall() {
            int fall = house.fact(piano, House.STOVE) * STOVE_FALL;
            int sum = 0;
            for (int x = 0; x < DAYS; x++) {
                int week = weekOf(x);
                if (week <= STOVE_LAST_WEEK || week >= STOVE_FIRST_WEEK) {
                    sum += fall;
                }
                stoveFall[x] = sum;
            }
        }

        boolean wasTuned() {
            return tunedDay >= 0;
        }

        int tunedOn() {
            return tunedDay;
        }

        /** What was left of a NOTE, with the fork. */
        int leftAt(int note) {
            return left[note];
        }

        int ear() {
            return house.fact(piano, House.EAR);
        }

        /** OFFSET, with the slip by so much more; only where it was TUNED. */
        int offsetAt(int note, int day, int more) {
            return offsetUndamped(note, day, more) + dampFrom(day);
        }

        private int offsetUndamped(int note, int day, int more) {
            if (tunedDay < 0) {
                return 0;
            }
            int slip = Math.max(0, house.slip[piano * NOTES + note] + more);
            int times = slipTimes[day] - slipTimes[tunedDay];
            return left[note] - slip * times - (stoveFall[day] - stoveFall[tunedDay]);
        }

        private int dampFrom(int day) {
            if (tunedDay < 0) {
                return 0;
            }
            return DAMP_TIMES * (house.damp[weekOf(day)] - house.damp[weekOf(tunedDay)]);
        }

        int greatestAt(int day, int more) {
            int damp = dampFrom(day);
            int greatest = 0;
            for (int note = 0; note < NOTES; note++) {
                greatest = Math.max(greatest, Math.abs(offsetUndamped(note, day, more) + damp));
            }
            return greatest;
        }

        int greatestUndamped(int day) {
            int greatest = 0;
            for (int note = 0; note < NOTES; note++) {
                greatest = Math.max(greatest, Math.abs(offsetUndamped(note, day, 0)));
            }
            return greatest;
        }

        boolean isBeyond(int day, int more) {
            return tunedDay < 0 || greatestAt(day, more) > ear();
        }

        int firstBeyond(int from, int more) {
            for (int day = from; day < DAYS; day++) {
                if (isBeyond(day, more)) {
                    return day;
                }
            }
            return NONE;
        }

        int tuningsFrom(int p, int from, int known) {
            look(p, from, known);
            int tunings = 0;
            for (int day = from; day < DAYS; day++) {
                if (isBeyond(day, 0)) {
                    tunings++;
                    tunedDay = day;
                    Arrays.fill(left, 0);
                }
            }
            return tunings;
        }
    }

    /** What the RECORDS tell of strings, stoves, TUNERS and batches. */
    private static final class Findings {
        private static final int BATCHES = 10;
        private static final int CRACK_DAYS = 30;
        private static final int CRACK_LEAST = 300;
        private static final int CRACK_NOTES = 3;
        private static final int GCD_STEPS = 200;

        final House house;
        final Records records;
        private final int[] falls = new int[NOTES];
        private final int[] fallDays = new int[NOTES];
        private final int[] broke = new int[BATCHES];
        private final int[] pianos = new int[BATCHES];
        private final int[] inOrder = new int[Records.MOST];
        int slipAbove;
        int slipBelow;
        long above;
        long below;

        Findings(House house, Records records) {
            this.house = house;
            this.records = records;
        }

        private void keepLeast(long over, long under) {
            long a = Math.abs(over);
            long b = under;
            for (int i = 0; i < GCD_STEPS && b != 0; i++) {
                long rest = a % b;
                a = b;
                b = rest;
            }
            above = a == 0 ? over : over / a;
            below = a == 0 ? under : under / a;
        }

        private void clearFalls() {
            Arrays.fill(falls, 0);
            Arrays.fill(fallDays, 0);
        }

        private void addPairs(int p, int known) {
            for (int i = 0; i < records.size; i++) {
                if (records.isOf(i, Records.FOUND, p, known)) {
                    int tuned = records.latest(Records.TUNED, p, records.on[i], known);
                    if (tuned >= 0 && records.on[tuned] < records.on[i]) {
                        addPair(tuned, i);
                    }
                }
            }
        }

        private void addPair(int tuned, int found) {
            for (int note = 0; note < NOTES; note++) {
                if (records.isTold(found, note)) {
                    falls[note] += records.leftOf(tuned, note) - records.leftOf(found, note);
                    fallDays[note] += records.on[found] - records.on[tuned];
                }
            }
        }

        int mostSlipping(int p, int known) {
            clearFalls();
            addPairs(p, known);
            int most = NONE;
            for (int note = 0; note < NOTES; note++) {
                if (fallDays[note] > 0 && (most < 0 || isFaster(note, most))) {
                    most = note;
                }
            }
            if (most >= 0) {
                keepLeast(falls[most], fallDays[most]);
                slipAbove = (int) above;
                slipBelow = (int) below;
            }
            return most;
        }

        private boolean isFaster(int note, int other) {
            return (long) falls[note] * fallDays[other] > (long) falls[other] * fallDays[note];
        }

        /** STOVE into above and below; false without PAIRS of those with a stove, or of those without. */
        boolean weighStoves(int known) {
            sumFallsOf(1, known);
            long withFall = sumOf(falls);
            long withDays = sumOf(fallDays);
            sumFallsOf(0, known);
            long bareFall = sumOf(falls);
            long bareDays = sumOf(fallDays);
            if (withDays == 0 || bareDays == 0) {
                return false;
            }
            keepLeast(withFall * bareDays - bareFall * withDays, withDays * bareDays);
            return true;
        }

        private void sumFallsOf(int stove, int known) {
            clearFalls();
            for (int p = 0; p < house.pianos; p++) {
                if (house.fact(p, House.STOVE) == stove) {
                    addPairs(p, known);
                }
            }
        }

        private static long sumOf(int[] row) {
            long sum = 0;
            for (int i = 0; i < row.length; i++) {
                sum += row[i];
            }
            return sum;
        }

        /** LEAN into above and below; false if none is told. */
        boolean weighLean(int tuner, int note, int known) {
            int sum = 0;
            int times = 0;
            for (int i = 0; i < records.size; i++) {
                boolean isHis = records.kind[i] == Records.TUNED && records.first[i] == tuner;
                if (isHis && records.isKnown(i, known) && records.isTold(i, note)) {
                    sum += records.leftOf(i, note);
                    times++;
                }
            }
            if (times == 0) {
                return false;
            }
            keepLeast(sum, times);
            return true;
        }

        int worstBatch(int known) {
            Arrays.fill(broke, 0);
            Arrays.fill(pianos, 0);
            for (int p = 0; p < house.pianos; p++) {
                pianos[house.fact(p, House.BATCH)]++;
            }
            for (int i = 0; i < records.size; i++) {
                if (records.kind[i] == Records.BROKE && records.isKnown(i, known)) {
                    broke[house.fact(records.piano[i], House.BATCH)]++;
                }
            }
            int worst = NONE;
            for (int b = 0; b < BATCHES; b++) {
                if (pianos[b] > 0 && (worst < 0 || broke[b] * pianos[worst] > broke[worst] * pianos[b])) {
                    worst = b;
                }
            }
            return worst;
        }

        boolean isCracked(int p, int known) {
            int size = 0;
            for (int i = 0; i < records.size; i++) {
                if (records.isOf(i, Records.FOUND, p, known)) {
                    putInOrder(i, size);
                    size++;
                }
            }
            for (int k = 1; k < size; k++) {
                if (isCrack(inOrder[k - 1], inOrder[k])) {
                    return true;
                }
            }
            return false;
        }

        private void putInOrder(int found, int size) {
            int at = size;
            for (; at > 0 && records.on[inOrder[at - 1]] > records.on[found]; at--) {
                inOrder[at] = inOrder[at - 1];
            }
            inOrder[at] = found;
        }

        private boolean isCrack(int one, int other) {
            if (records.on[other] - records.on[one] > CRACK_DAYS) {
                return false;
            }
            int both = 0;
            int up = 0;
            int down = 0;
            for (int note = 0; note < NOTES; note++) {
                if (records.isTold(one, note) && records.isTold(other, note)) {
                    int change = records.leftOf(other, note) - records.leftOf(one, note);
                    both++;
                    up += change >= CRACK_LEAST ? 1 : 0;
                    down += change <= -CRACK_LEAST ? 1 : 0;
                }
            }
            return both >= CRACK_NOTES && (up == both || down == both);
        }
    }

    /** Concerts and whose their faults were, and what is owed. */
    private static final class Books {
        private static final int READY_DAYS = 2;
        private static final int HOUSE_DAYS = 7;

        final House house;
        final Records records;
        final Standing standing;

        Books(House house, Records records, Standing standing) {
            this.house = house;
            this.records = records;
            this.standing = standing;
        }

        int unreadyConcerts(int p, int known) {
            int unready = 0;
            for (int i = 0; i < records.size; i++) {
                if (records.isOf(i, Records.CONCERT, p, known) && !isReady(i, known)) {
                    unready++;
                }
            }
            return unready;
        }

        private boolean isReady(int concert, int known) {
            int day = records.on[concert];
            standing.look(records.piano[concert], day, known);
            return standing.wasTuned() && day - standing.tunedOn() <= READY_DAYS && !standing.isBeyond(day, 0);
        }

        /** The RECORD of the k-th concert of a hall AS KNOWN; NONE without one. */
        int concertAt(int p, int k, int known) {
            int seen = 0;
            for (int i = 0; i < records.size; i++) {
                if (records.isOf(i, Records.CONCERT, p, known)) {
                    if (seen == k) {
                        return i;
                    }
                    seen++;
                }
            }
            return NONE;
        }

        int blame(int concert, int known) {
            int day = records.on[concert];
            standing.look(records.piano[concert], day, known);
            if (!standing.isBeyond(day, 0)) {
                return 0;
            }
            if (!standing.wasTuned() || day - standing.tunedOn() > HOUSE_DAYS) {
                return 1;
            }
            for (int note = 0; note < NOTES; note++) {
                if (Math.abs(standing.leftAt(note)) > standing.ear()) {
                    return 2;
                }
            }
            return standing.greatestUndamped(day) <= standing.ear() ? 3 : 4;
        }

        private boolean isFree(int tuned, int known) {
            int sure = house.rules[House.SURE];
            int day = records.on[tuned];
            return sure > 0 && records.hasWithin(Records.TUNED, records.piano[tuned], day - sure, day - 1, known);
        }

        int freeTunings(int p, int day, int known) {
            int free = 0;
            for (int i = 0; i < records.size; i++) {
                if (records.isOf(i, Records.TUNED, p, known) && records.on[i] <= day && isFree(i, known)) {
                    free++;
                }
            }
            return free;
        }

        int debt(int p, int day, int known) {
            int debt = 0;
            for (int i = 0; i < records.size; i++) {
                if (records.piano[i] == p && records.on[i] <= day && records.isKnown(i, known)) {
                    debt += debtBy(i, known);
                }
            }
            return debt;
        }

        private int debtBy(int i, int known) {
            switch (records.kind[i]) {
                case Records.TUNED:
                    return isFree(i, known) ? 0 : house.feeOf(records.piano[i], records.on[i]);
                case Records.PAID:
                    return -records.first[i];
                case Records.ATE:
                    return -house.rules[House.CAKE];
                default:
                    return 0;
            }
        }
    }

    /** ROUNDS of a day over at most nine PIANOS; sets of them are bits in the order of the row. */
    private static final class Rounds {
        private static final int MOST = 9;
        private static final int SETS = 512;
        private static final int LIVES = MOST;
        private static final int NEVER = 1000000;
        private static final int WEIGHT_CONCERT = 50;
        private static final int WEIGHT_BEYOND = 10;

        final House house;
        final Records records;
        final Standing standing;
        final int[] pianos = new int[MOST];
        private final int[] xs = new int[MOST + 1];
        private final int[] ys = new int[MOST + 1];
        private final int[] opens = new int[MOST];
        private final int[] closes = new int[MOST];
        private final int[] weights = new int[MOST];
        private final int[] sums = new int[SETS];
        private final int[] clock = new int[SETS * MOST];
        private final int[] homeAt = new int[SETS];
        private final int[] otherBest = new int[SETS];
        private final long[] ways = new long[House.TUNERS * SETS];
        final int[] order = new int[MOST];
        int orderLength;
        int orderHome;
        private int size;
        private int sets;

        Rounds(House house, Records records, Standing standing) {
            this.house = house;
            this.records = records;
            this.standing = standing;
            orderLength = 0;
            orderHome = NONE;
        }

        int weightOf(int p, int day) {
            boolean hasConcert = house.isHall(p) && records.hasWithin(Records.CONCERT, p, day, day + 1, day);
            if (hasConcert && !records.hasWithin(Records.TUNED, p, day - 1, day, day)) {
                return WEIGHT_CONCERT;
            }
            standing.look(p, day, day);
            return standing.isBeyond(day, 0) ? WEIGHT_BEYOND : 1;
        }

        private void place(int n, int day) {
            size = n;
            sets = 1 << n;
            for (int i = 0; i < n; i++) {
                int p = pianos[i];
                int moved = records.latest(Records.MOVED, p, day, day);
                xs[i] = moved < 0 ? house.fact(p, House.X) : records.first[moved];
                ys[i] = moved < 0 ? house.fact(p, House.Y) : records.second[moved];
                opens[i] = house.fact(p, House.OPEN_FROM);
                // Nothing is done by minute -1, so a shut school is never done.
                closes[i] = house.isShut(p, day) ? -1 : house.fact(p, House.OPEN_TO);
            }
        }

        private void weigh(int day) {
            for (int i = 0; i < size; i++) {
                weights[i] = weightOf(pianos[i], day);
            }
            sums[0] = 0;
            for (int i = 0; i < size; i++) {
                for (int set = 0; set < 1 << i; set++) {
                    sums[set | 1 << i] = sums[set] + weights[i];
                }
            }
        }

        private void liveWith(int tuner) {
            xs[LIVES] = house.tunerX(tuner);
            ys[LIVES] = house.tunerY(tuner);
        }

        private void sortPianos(int n) {
            for (int i = 1; i < n; i++) {
                int p = pianos[i];
                int at = i;
                for (; at > 0 && pianos[at - 1] > p; at--) {
                    pianos[at] = pianos[at - 1];
                }
                pianos[at] = p;
            }
        }

        private int minutes(int from, int to) {
            int steps = Math.abs(xs[from] - xs[to]) + Math.abs(ys[from] - ys[to]);
            return steps * house.rules[House.WALK];
        }

        private int doneAt(int i, int arrive) {
            int done = Math.max(arrive, opens[i]) + house.rules[House.WORK];
            return done <= closes[i] ? done : NEVER;
        }

        /** For each set when it is home soonest; NEVER if not in time. */
        private void fillHomes(int tuner) {
            liveWith(tuner);
            homeAt[0] = house.rules[House.DAY_FROM];
            for (int set = 1; set < sets; set++) {
                int soonest = NEVER;
                for (int last = 0; last < size; last++) {
                    if ((set >> last & 1) == 1) {
                        int done = soonestDone(set & ~(1 << last), last);
                        clock[set * MOST + last] = done;
                        soonest = Math.min(soonest, done + minutes(last, LIVES));
                    }
                }
                homeAt[set] = soonest <= house.rules[House.DAY_TO] ? soonest : NEVER;
            }
        }

        /** Coming sooner is never worse, so the soonest of each set and last PIANO are enough. */
        private int soonestDone(int ahead, int last) {
            if (ahead == 0) {
                return doneAt(last, house.rules[House.DAY_FROM] + minutes(LIVES, last));
            }
            int soonest = NEVER;
            for (int i = 0; i < size; i++) {
                if ((ahead >> i & 1) == 1 && clock[ahead * MOST + i] < NEVER) {
                    soonest = Math.min(soonest, doneAt(last, clock[ahead * MOST + i] + minutes(i, last)));
                }
            }
            return soonest;
        }

        int best(int n, int tuner, int day) {
            sortPianos(n);
            place(n, day);
            weigh(day);
            fillHomes(tuner);
            int chosen = 0;
            for (int set = 1; set < sets; set++) {
                boolean isMore = sums[set] > sums[chosen];
                boolean isSooner = sums[set] == sums[chosen] && homeAt[set] < homeAt[chosen];
                if (homeAt[set] < NEVER && (isMore || isSooner)) {
                    chosen = set;
                }
            }
            orderHome = homeAt[chosen];
            fillLatest(orderHome);
            pickOrder(sums[chosen]);
            return sums[chosen];
        }

        /** Into clock: for each rest and PIANO the latest minute to be done there and yet, by the rest, home by then. */
        private void fillLatest(int home) {
            for (int rest = 0; rest < sets; rest++) {
                for (int i = 0; i < size; i++) {
                    if ((rest >> i & 1) == 0) {
                        clock[rest * MOST + i] = rest == 0 ? home - minutes(i, LIVES) : latestDone(rest, i);
                    }
                }
            }
        }

        private int latestDone(int rest, int from) {
            int latest = -NEVER;
            for (int i = 0; i < size; i++) {
                if ((rest >> i & 1) == 1) {
                    int begun = Math.min(closes[i], clock[(rest & ~(1 << i)) * MOST + i]) - house.rules[House.WORK];
                    if (begun >= opens[i]) {
                        latest = Math.max(latest, begun - minutes(from, i));
                    }
                }
            }
            return latest;
        }

        private void pickOrder(int sum) {
            int visited = 0;
            int last = LIVES;
            int minute = house.rules[House.DAY_FROM];
            orderLength = 0;
            for (int step = 0; step < size && sums[visited] < sum; step++) {
                int next = firstNext(visited, last, minute, sum);
                if (next < 0) {
                    return;
                }
                minute = doneAt(next, minute + minutes(last, next));
                visited |= 1 << next;
                last = next;
                order[step] = pianos[next];
                orderLength = step + 1;
            }
        }

        private int firstNext(int visited, int last, int minute, int sum) {
            for (int i = 0; i < size; i++) {
                if ((visited >> i & 1) == 0) {
                    int done = doneAt(i, minute + minutes(last, i));
                    if (done < NEVER && canGoOn(visited | 1 << i, i, done, sum)) {
                        return i;
                    }
                }
            }
            return NONE;
        }

        private boolean canGoOn(int visited, int last, int done, int sum) {
            for (int rest = 0; rest < sets; rest++) {
                if ((rest & visited) == 0 && sums[visited | rest] == sum && done <= clock[rest * MOST + last]) {
                    return true;
                }
            }
            return false;
        }

        int walkAsTold(int n, int tuner, int day) {
            place(n, day);
            liveWith(tuner);
            int minute = house.rules[House.DAY_FROM];
            int last = LIVES;
            for (int i = 0; i < n; i++) {
                minute = doneAt(i, minute + minutes(last, i));
                if (minute == NEVER) {
                    return -2 - i;
                }
                last = i;
            }
            minute += minutes(last, LIVES);
            return minute <= house.rules[House.DAY_TO] ? minute : -2 - n;
        }

        int bestOfTwo(int n, int one, int other, int day) {
            place(n, day);
            weigh(day);
            fillHomes(other);
            fillOtherBest();
            fillHomes(one);
            int best = 0;
            for (int set = 0; set < sets; set++) {
                if (homeAt[set] < NEVER) {
                    best = Math.max(best, sums[set] + otherBest[sets - 1 - set]);
                }
            }
            return best;
        }

        /** The greatest sum of a ROUND within each set. */
        private void fillOtherBest() {
            for (int set = 0; set < sets; set++) {
                int best = homeAt[set] < NEVER ? sums[set] : 0;
                for (int i = 0; i < size; i++) {
                    if ((set >> i & 1) == 1) {
                        best = Math.max(best, otherBest[set & ~(1 << i)]);
                    }
                }
                otherBest[set] = best;
            }
        }

        int fewestTuners(int n, int day) {
            place(n, day);
            for (int t = 0; t < house.tuners; t++) {
                fillHomes(t);
                countWays(t);
            }
            int fewest = NONE;
            for (int team = 0; team < 1 << house.tuners; team++) {
                boolean isFewer = fewest < 0 || Integer.bitCount(team) < Integer.bitCount(fewest);
                if (isFewer && hasAll(team)) {
                    fewest = team;
                }
            }
            return fewest;
        }

        /** How many ROUNDS, as sets, the TUNER has within each set. */
        private void countWays(int tuner) {
            int row = tuner * SETS;
            for (int set = 0; set < sets; set++) {
                ways[row + set] = homeAt[set] < NEVER ? 1 : 0;
            }
            for (int i = 0; i < size; i++) {
                for (int set = 0; set < sets; set++) {
                    if ((set >> i & 1) == 1) {
                        ways[row + set] += ways[row + (set & ~(1 << i))];
                    }
                }
            }
        }

        // By sets in and out, the sum is the number of choices of a ROUND for each of the team that together
        // have all; it is 2^54 at most, so that what wraps around on the way does no harm.
        private boolean hasAll(int team) {
            long choices = 0;
            for (int set = 0; set < sets; set++) {
                long within = 1;
                for (int t = 0; t < house.tuners; t++) {
                    if ((team >> t & 1) == 1) {
                        within *= ways[t * SETS + set];
                    }
                }
                boolean isAdded = (size - Integer.bitCount(set)) % 2 == 0;
                choices += isAdded ? within : -within;
            }
            return choices != 0;
        }
    }

    /** How many strings of each sort to carry. */
    private static final class StringBag {
        static final int MOST = 12;
        private static final int PIANOS = 8;
        private static final int COUNTS = PIANOS + 1;
        private static final int TWENTY = 20;
        private static final long WHOLE = 1000000000000000L;

        final House house;
        final int[] pianos = new int[PIANOS];
        // For each G and count the PARTS with no more than that count.
        private final long[] parts = new long[SORTS * COUNTS];
        private int size;
        private int packed;
        long packedChance;

        StringBag(House house) {
            this.house = house;
        }

        int pack(int m, int n) {
            size = m;
            for (int g = 0; g < SORTS; g++) {
                countParts(g);
            }
            packed = 0;
            packedChance = NONE;
            for (int first = 0; first <= mostOf(n); first++) {
                long withFirst = chanceWith(WHOLE, 0, first);
                for (int second = 0; second <= mostOf(n - first); second++) {
                    long withSecond = chanceWith(withFirst, 1, second);
                    tryRest(n - first - second, first * 10 + second, withSecond);
                }
            }
            return packed;
        }

        /** More than a string for each PIANO never helps. */
        private int mostOf(int strings) {
            return Math.min(strings, size);
        }

        private void tryRest(int strings, int code, long chance) {
            for (int third = 0; third <= mostOf(strings); third++) {
                long withThird = chanceWith(chance, 2, third);
                for (int fourth = 0; fourth <= mostOf(strings - third); fourth++) {
                    long withFourth = chanceWith(withThird, 3, fourth);
                    if (withFourth > packedChance) {
                        packedChance = withFourth;
                        packed = code * 100 + third * 10 + fourth;
                    }
                }
            }
        }

        private void countParts(int g) {
            int row = g * COUNTS;
            for (int c = 0; c < COUNTS; c++) {
                parts[row + c] = c == 0 ? 1 : 0;
            }
            for (int i = 0; i < size; i++) {
                int frail = house.frail[pianos[i] * SORTS + g];
                for (int c = i + 1; c >= 0; c--) {
                    long fewer = c == 0 ? 0 : parts[row + c - 1];
                    parts[row + c] = parts[row + c] * (TWENTY - frail) + fewer * frail;
                }
            }
            for (int c = 1; c < COUNTS; c++) {
                parts[row + c] += parts[row + c - 1];
            }
        }

        // The product would not fit in a long, so it is cut digit by digit of the PARTS to base 20.
        private long chanceWith(long chance, int g, int strings) {
            long rest = parts[g * COUNTS + strings];
            long cut = 0;
            for (int i = 0; i < size; i++) {
                cut = (cut + chance * (rest % TWENTY)) / TWENTY;
                rest /= TWENTY;
            }
            return cut + chance * rest;
        }
    }

    /** Which PUPIL goes to which TUNER. */
    private static final class Lessons {
        private static final int TEAMS = 64;

        final House house;
        // For each PUPIL and set of TUNERS that are taken the greatest sum from that PUPIL on.
        private final int[] rest = new int[(House.PUPILS + 1) * TEAMS];
        final int[] tunerOf = new int[House.PUPILS];
        int shared;

        Lessons(House house) {
            this.house = house;
        }

        int share() {
            shared = Math.min(house.pupils, house.tuners);
            int teams = 1 << house.tuners;
            for (int taken = 0; taken < teams; taken++) {
                rest[shared * TEAMS + taken] = 0;
            }
            for (int k = shared - 1; k >= 0; k--) {
                for (int taken = 0; taken < teams; taken++) {
                    rest[k * TEAMS + taken] = greatest(k, taken);
                }
            }
            pickTuners();
            return rest[0];
        }

        private int sumWith(int k, int taken, int t) {
            return house.teach[t * House.PUPILS + k] + rest[(k + 1) * TEAMS + (taken | 1 << t)];
        }

        private int greatest(int k, int taken) {
            int greatest = 0;
            for (int t = 0; t < house.tuners; t++) {
                if ((taken >> t & 1) == 0) {
                    greatest = Math.max(greatest, sumWith(k, taken, t));
                }
            }
            return greatest;
        }

        private void pickTuners() {
            int taken = 0;
            for (int k = 0; k < shared; k++) {
                int chosen = firstGreatest(k, taken);
                tunerOf[k] = chosen;
                taken |= 1 << chosen;
            }
        }

        private int firstGreatest(int k, int taken) {
            for (int t = 0; t < house.tuners; t++) {
                if ((taken >> t & 1) == 0 && sumWith(k, taken, t) == rest[k * TEAMS + taken]) {
                    return t;
                }
            }
            return 0;
        }
    }
}
