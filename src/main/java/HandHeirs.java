/**
 * An estate that goes each year to the heir who writes most like a dead man.
 *
 * The document's words are kept as names here: a Will is what a text tells, a State is what changes
 * from year to year, the Court judges, the Book leads what was so, the Paper is what is TOLD.
 */
public final class HandHeirs {
    public static final int NONE = -1;

    private static final int NOBODY = -2;
    private static final int LETTERS = 6;
    private static final int HEIRS = 6;
    private static final int MASTERS = 3;
    private static final int MOST_SHAPE = 99;
    private static final int MOST_TREMOR = 9;
    private static final int MOST_UNLIKE = 999;
    private static final int MOST_DRIFT = 9;
    private static final int UNTOLD_SHAPE = 50;
    private static final int TAPE = 2000;
    private static final int FED = 20;
    private static final int PAGES = 400;
    private static final int THINGS = 30;
    private static final int PAPERS = 20;
    private static final int SLOTS = 3;
    private static final int PLAN_DAYS = 12;
    private static final int MOST_LESSONS = 99;
    private static final int MOST_YEARS = 100;
    private static final int BEST_YEARS = 50;
    private static final int MOST_SEEDS = 50;
    private static final int NOBODY_YEARS = 200;

    private final byte[] tape = new byte[TAPE];
    private int taped = 0;
    private final Reader reader = new Reader();
    private Will will = new Will();
    private final State now = new State();
    private final State trial = new State();
    private final Book pages = new Book();
    private final Past past = new Past();
    private final Slot[] slots = new Slot[SLOTS];
    private final Paper paper = new Paper();
    private final Court court = new Court();
    private final Planner planner = new Planner();

    public HandHeirs() {
        for (int slot = 0; slot < SLOTS; slot++) {
            slots[slot] = new Slot();
        }
        now.begin(will);
    }

    // ---- the tape and its text

    public int feed(int a, int b, int c, int d, int e) {
        if (taped + FED > TAPE) {
            return NONE;
        }
        putFour(a);
        putFour(b);
        putFour(c);
        putFour(d);
        putFour(e);
        return taped;
    }

    private void putFour(int four) {
        for (int shift = 24; shift >= 0 && taped < TAPE; shift -= 8) {
            tape[taped] = (byte) (four >>> shift);
            taped++;
        }
    }

    public int back(int n) {
        if (n < 0 || n > taped) {
            return NONE;
        }
        taped -= n;
        return taped;
    }

    public int read() {
        int fault = reader.readText(tape, taped);
        taped = 0;
        if (fault == Reader.SOUND) {
            beginAnew();
        }
        return fault;
    }

    private void beginAnew() {
        Will ahead = will;
        will = reader.draft;
        reader.draft = ahead;
        now.begin(will);
        past.clear();
        paper.size = 0;
        for (int slot = 0; slot < SLOTS; slot++) {
            slots[slot].full = false;
        }
    }

    public int place() {
        return reader.place;
    }

    // ---- what is now

    private boolean isLetter(int letter) {
        return letter >= 0 && letter < will.letters;
    }

    private boolean isHeir(int heir) {
        return heir >= 0 && heir < will.heirs;
    }

    private boolean isMaster(int master) {
        return master >= 0 && master < will.masters;
    }

    private static boolean isWithin(int number, int least, int most) {
        return number >= least && number <= most;
    }

    public int hand(int letter) {
        return isLetter(letter) ? now.hand[letter] : NONE;
    }

    public int shape(int heir, int letter, int what) {
        if (!isHeir(heir) || !isLetter(letter)) {
            return NONE;
        }
        switch (what) {
            case 0: return now.own(heir, letter);
            case 1: return Court.written(will, now, will.seed, heir, letter);
            case 2: return now.off(heir, letter);
            default: return NONE;
        }
    }

    public int heir(int heir, int what) {
        if (!isHeir(heir)) {
            return NONE;
        }
        switch (what) {
            case 0: return will.skill[heir];
            case 1: return will.tremor[heir];
            case 2: return sumNow(heir);
            case 3: return now.had[heir];
            case 4: return will.learned(now, heir, 0);
            default: return NONE;
        }
    }

    private int sumNow(int heir) {
        court.compare(will, now, will.seed);
        return court.sum(will, heir, NONE);
    }

    public int unlike(int heir, int master) {
        if (!isHeir(heir) || !isMaster(master)) {
            return NONE;
        }
        court.compare(will, now, will.seed);
        return court.unlikes[heir][master];
    }

    public int vote(int master) {
        if (!isMaster(master)) {
            return NONE;
        }
        court.compare(will, now, will.seed);
        return court.choice(will, master, NONE);
    }

    public int judge() {
        return court.given(will, now, will.seed);
    }

    // ---- what is done

    public int lesson(int heir, int letter, int n) {
        if (!isHeir(heir) || !isLetter(letter) || !isWithin(n, 1, MOST_LESSONS)) {
            return NONE;
        }
        past.keep(now);
        now.teach(heir, letter, n * will.skill[heir]);
        return now.off(heir, letter);
    }

    public int years(int n) {
        if (!isWithin(n, 0, MOST_YEARS)) {
            return NONE;
        }
        if (n > 0) {
            past.keep(now);
        }
        for (int i = 0; i < n; i++) {
            court.spendDays(will, now, NONE, NONE);
            court.settle(will, now);
            pages.lead(now);
            court.endYear(will, now);
        }
        return now.year;
    }

    public boolean undo() {
        return past.takeBack(now);
    }

    public int book(int year, int letter) {
        if (year < 0 || year >= now.led()) {
            return NONE;
        }
        if (letter == NONE) {
            return pages.givenIn(year);
        }
        return isLetter(letter) ? pages.handOf(year, letter) : NONE;
    }

    // ---- what would be

    public int plan(int heir, int d) {
        if (!isHeir(heir) || !isWithin(d, 0, PLAN_DAYS)) {
            return NONE;
        }
        return planner.lay(will, now, heir, d);
    }

    public int planOf(int heir, int d, int letter) {
        if (!isHeir(heir) || !isWithin(d, 0, PLAN_DAYS) || !isLetter(letter)) {
            return NONE;
        }
        planner.lay(will, now, heir, d);
        return planner.days[letter];
    }

    public int needs(int heir) {
        if (!isHeir(heir)) {
            return NONE;
        }
        for (int d = 0; d <= PLAN_DAYS; d++) {
            planner.lay(will, now, heir, d);
            trial.copy(now);
            for (int letter = 0; letter < will.letters; letter++) {
                trial.teach(heir, letter, planner.days[letter] * will.skill[heir]);
            }
            if (court.given(will, trial, will.seed) == heir) {
                return d;
            }
        }
        return NOBODY;
    }

    public int swing(int master) {
        if (!isMaster(master)) {
            return NONE;
        }
        court.compare(will, now, will.seed);
        return court.award(will, NONE, master);
    }

    public int chance(int heir, int n) {
        if (!isHeir(heir) || !isWithin(n, 1, MOST_SEEDS)) {
            return NONE;
        }
        int times = 0;
        for (int seed = 0; seed < n; seed++) {
            if (court.given(will, now, seed) == heir) {
                times++;
            }
        }
        return times;
    }

    public int without(int heir) {
        if (!isHeir(heir)) {
            return NONE;
        }
        court.compare(will, now, will.seed);
        return court.award(will, heir, NONE);
    }

    public int bias(int master, int n) {
        if (!isMaster(master) || !isWithin(n, 1, MOST_YEARS)) {
            return NONE;
        }
        trial.copy(now);
        int times = 0;
        for (int i = 0; i < n; i++) {
            int given = court.goThroughYear(will, trial, NONE, NONE);
            // without heirs both are NOBODY: there is no vote, so none that differs
            if (court.votes[master] != given) {
                times++;
            }
        }
        return times;
    }

    public int bestLetter(int heir, int n, int what) {
        if (!isHeir(heir) || !isWithin(n, 1, BEST_YEARS) || !isWithin(what, 0, 1)) {
            return NONE;
        }
        int best = NOBODY;
        int most = NOBODY;
        for (int letter = 0; letter < will.letters; letter++) {
            trial.copy(now);
            int times = 0;
            for (int i = 0; i < n; i++) {
                if (court.goThroughYear(will, trial, heir, letter) == heir) {
                    times++;
                }
            }
            if (times > most) {
                best = letter;
                most = times;
            }
        }
        return what == 0 ? best : most;
    }

    public int nobody() {
        trial.copy(now);
        for (int i = 1; i <= NOBODY_YEARS; i++) {
            if (court.goThroughYear(will, trial, NONE, NONE) == NOBODY) {
                return i;
            }
        }
        return NOBODY;
    }

    // ---- what is read from the book

    public int reign(int what) {
        if (!isWithin(what, 0, 2)) {
            return NONE;
        }
        int first = pages.longestReign(now.led());
        if (first < 0) {
            return NOBODY;
        }
        switch (what) {
            case 0: return pages.reignFrom(first, now.led());
            case 1: return first;
            default: return pages.givenIn(first);
        }
    }

    public int copied(int heir, int what) {
        if (!isHeir(heir) || !isWithin(what, 0, 1)) {
            return NONE;
        }
        int nearest = 0;
        int least = apart(heir, 0);
        for (int page = 1; page <= now.led(); page++) {
            int apart = apart(heir, page);
            if (apart < least) {
                nearest = page;
                least = apart;
            }
        }
        return what == 0 ? yearOn(nearest) : least;
    }

    private int apart(int heir, int page) {
        int apart = 0;
        for (int letter = 0; letter < will.letters; letter++) {
            apart += Math.abs(handOn(page, letter) - now.own(heir, letter));
        }
        return apart;
    }

    /** The page behind the book's last one is the year that is now, with the HAND as it is. */
    private int handOn(int page, int letter) {
        return page < now.led() ? pages.handOf(page, letter) : now.hand[letter];
    }

    private int yearOn(int page) {
        return page < now.led() ? page : now.year;
    }

    // ---- papers

    public int tell(int letter, int shape) {
        if (!isLetter(letter) || !isWithin(shape, 0, MOST_SHAPE)) {
            return NONE;
        }
        return paper.add(letter, shape);
    }

    public int forget() {
        int were = paper.size;
        paper.size = 0;
        return were;
    }

    public int dated(int t, int k, int i) {
        if (!isWithin(t, 0, MOST_SHAPE) || !isWithin(k, 0, paper.size) || i < NONE) {
            return NONE;
        }
        int found = 0;
        for (int page = 0; page <= now.led(); page++) {
            if (isDated(page, t, k)) {
                if (found == i) {
                    return yearOn(page);
                }
                found++;
            }
        }
        return i == NONE ? found : NONE;
    }

    private boolean isDated(int page, int t, int known) {
        for (int i = 0; i < known && i < paper.size; i++) {
            if (Math.abs(handOn(page, paper.letters[i]) - paper.shapes[i]) > t) {
                return false;
            }
        }
        return true;
    }

    // ---- what is held

    public boolean hold(int slot) {
        if (!isWithin(slot, 0, SLOTS - 1)) {
            return false;
        }
        slots[slot].state.copy(now);
        slots[slot].pages.copy(pages, now.led());
        slots[slot].full = true;
        return true;
    }

    public boolean restore(int slot) {
        if (!isWithin(slot, 0, SLOTS - 1) || !slots[slot].full) {
            return false;
        }
        now.copy(slots[slot].state);
        pages.copy(slots[slot].pages, now.led());
        past.clear();
        return true;
    }

    public int count(int what) {
        switch (what) {
            case 0: return will.letters;
            case 1: return will.heirs;
            case 2: return will.masters;
            case 3: return now.year;
            case 4: return now.owner;
            case 5: return now.worn;
            case 6: return will.days;
            case 7: return will.limit;
            case 8: return now.led();
            case 9: return taped;
            case 10: return past.size;
            case 11: return paper.size;
            case 12: return fullSlots();
            default: return NONE;
        }
    }

    private int fullSlots() {
        int full = 0;
        for (int slot = 0; slot < SLOTS; slot++) {
            if (slots[slot].full) {
                full++;
            }
        }
        return full;
    }

    private static int held(int number, int least, int most) {
        return Math.max(least, Math.min(most, number));
    }

    /** Cuts a text into TOKENS; a sign's kind is its byte. */
    private static final class Scanner {
        static final int TOKENS = 400;
        static final int END = 0;
        static final int BAD = 1;
        static final int NAME = 2;
        static final int INT = 3;
        static final int LETTER = 256;
        static final int HEIR = 257;
        static final int MASTER = 258;
        static final int LEARN = 259;
        static final int DRIFT = 260;
        static final int DAYS = 261;
        static final int LIMIT = 262;
        static final int SEED = 263;
        static final int IF = 264;
        static final int THEN = 265;
        static final int ELSE = 266;
        static final int OFF = 267;
        static final int DAY = 272;
        /** In the order of the kinds above; those from off to day are variables. */
        private static final String WORDS =
            "letter heir master learn drift days limit seed if then else off year worn own hand day";
        private static final int WORD_COUNT = 17;
        private static final String SIGNS = ";=+-*/<()";
        private static final int LONGEST_NAME = 8;
        private static final int LONGEST_INT = 4;

        final int[] kinds = new int[TOKENS + 1];
        final int[] places = new int[TOKENS + 1];
        /** An INT, or a NAME as a number. */
        final long[] values = new long[TOKENS + 1];
        private final long[] words = new long[WORD_COUNT];
        private byte[] text = new byte[0];
        private int length = 0;
        private int next = 0;

        Scanner() {
            int word = 0;
            for (int i = 0; i < WORDS.length() && word < WORD_COUNT; i++) {
                if (WORDS.charAt(i) == ' ') {
                    word++;
                } else {
                    words[word] = joined(words[word], WORDS.charAt(i));
                }
            }
        }

        /** In base 27, so that no two names of 8 letters at most are alike. */
        private static long joined(long ahead, int letter) {
            return ahead * 27 + (letter - 'a' + 1);
        }

        /** Past the 401st, an end or what is no TOKEN nobody looks: there is a FAULT there at the latest. */
        void cut(byte[] bytes, int count) {
            text = bytes;
            length = Math.min(count, bytes.length);
            next = 0;
            boolean goesOn = true;
            for (int i = 0; i <= TOKENS && goesOn; i++) {
                cutOne(i);
                goesOn = kinds[i] != END && kinds[i] != BAD;
            }
        }

        private void cutOne(int token) {
            while (next < length && isBlank(text[next])) {
                next++;
            }
            places[token] = next;
            if (next >= length) {
                kinds[token] = END;
            } else if (isSmall(text[next])) {
                cutName(token);
            } else if (isDigit(text[next])) {
                cutInt(token);
            } else {
                int sign = text[next] & 255;
                kinds[token] = SIGNS.indexOf((char) sign) >= 0 ? sign : BAD;
                next++;
            }
        }

        private void cutName(int token) {
            long name = 0;
            while (next < length && isSmall(text[next])) {
                // past the longest name the number may wrap, but then it is no TOKEN anyway
                name = joined(name, text[next]);
                next++;
            }
            values[token] = name;
            kinds[token] = next - places[token] > LONGEST_NAME ? BAD : kindOf(name);
        }

        private int kindOf(long name) {
            for (int word = 0; word < WORD_COUNT; word++) {
                if (words[word] == name) {
                    return LETTER + word;
                }
            }
            return NAME;
        }

        private void cutInt(int token) {
            int number = 0;
            while (next < length && isDigit(text[next])) {
                number = number * 10 + (text[next] - '0');
                next++;
            }
            values[token] = number;
            kinds[token] = next - places[token] > LONGEST_INT ? BAD : INT;
        }

        private static boolean isBlank(int b) {
            return b == 9 || b == 10 || b == 13 || b == 32;
        }

        private static boolean isSmall(int b) {
            return b >= 'a' && b <= 'z';
        }

        private static boolean isDigit(int b) {
            return b >= '0' && b <= '9';
        }
    }

    /** Reads a text into a draft and finds its FAULT; a method answers false when it met SYNTAX or ROOM. */
    private static final class Reader {
        static final int SOUND = 0;
        private static final int SYNTAX = 1;
        private static final int ROOM = 2;
        private static final int TWICE = 3;
        private static final int NO_NAME = 4;
        private static final int WRONG = 5;
        private static final int BEFORE_FIRST = -1;
        private static final int IFS = 4;
        private static final int NESTED = 6;
        private static final int MOST_SKILL = 99;
        private static final int MOST_DAYS = 9;
        private static final int MOST_INT = 9999;
        private static final int FIRST_HEIR = LETTERS;
        private static final int FIRST_MASTER = LETTERS + HEIRS;

        int place = NONE;
        Will draft = new Will();
        private int fault = SOUND;
        private final Scanner tokens = new Scanner();
        private final long[] names = new long[LETTERS + HEIRS + MASTERS];
        /** The TOKEN that is looked at: its number, kind and value. */
        private int at = 0;
        private int kind = Scanner.END;
        private long value = 0;
        /** What the latest INT was, and where the latest LAW starts. */
        private int number = 0;
        private int lawStart = 0;

        int readText(byte[] text, int length) {
            open(text, length);
            boolean goesOn = true;
            for (int i = 0; i <= Scanner.TOKENS && goesOn && kind != Scanner.END; i++) {
                switch (kind) {
                    case Scanner.LETTER: goesOn = takeLetter() && take(';'); break;
                    case Scanner.HEIR: goesOn = takeHeir() && take(';'); break;
                    case Scanner.MASTER: goesOn = takeMaster() && take(';'); break;
                    case Scanner.LEARN: goesOn = takeLearn() && take(';'); break;
                    case Scanner.DRIFT: goesOn = takeDrift() && take(';'); break;
                    case Scanner.DAYS: goesOn = takeDays() && take(';'); break;
                    case Scanner.LIMIT: goesOn = takeLimit() && take(';'); break;
                    case Scanner.SEED: goesOn = takeSeed() && take(';'); break;
                    default: goesOn = refuse(SYNTAX);
                }
            }
            return fault;
        }

        private void open(byte[] text, int length) {
            tokens.cut(text, length);
            draft.clear();
            for (int i = 0; i < names.length; i++) {
                names[i] = 0;
            }
            fault = SOUND;
            place = NONE;
            at = BEFORE_FIRST;
            pass();
        }

        /** SYNTAX and ROOM stand above all faults noted before, wherever those are. */
        private boolean refuse(int found) {
            fault = found;
            place = tokens.places[at];
            return false;
        }

        /** The other faults count only in a text that is read to its end, and the first of them. */
        private void note(int found) {
            if (fault == SOUND) {
                fault = found;
                place = tokens.places[at];
            }
        }

        /** Goes past a TOKEN that fits; only here can it be one too many, as SYNTAX comes first. */
        private boolean pass() {
            if (at >= Scanner.TOKENS) {
                return refuse(ROOM);
            }
            at++;
            kind = tokens.kinds[at];
            value = tokens.values[at];
            return true;
        }

        private boolean take(int wanted) {
            return kind == wanted ? pass() : refuse(SYNTAX);
        }

        private boolean takeLetter() {
            int letter = draft.letters;
            if (letter >= LETTERS) {
                return refuse(ROOM);
            }
            draft.letters++;
            if (!pass() || !takeNewName(letter) || !takeInt(MOST_SHAPE)) {
                return false;
            }
            draft.hand[letter] = number;
            return true;
        }

        private boolean takeHeir() {
            int heir = draft.heirs;
            if (heir >= HEIRS) {
                return refuse(ROOM);
            }
            draft.heirs++;
            if (!pass() || !takeNewName(FIRST_HEIR + heir) || !takeInt(MOST_SKILL)) {
                return false;
            }
            draft.skill[heir] = number;
            if (!takeInt(MOST_TREMOR)) {
                return false;
            }
            draft.tremor[heir] = number;
            for (int letter = 0; letter < LETTERS && kind == Scanner.INT; letter++) {
                if (!takeInt(MOST_SHAPE)) {
                    return false;
                }
                draft.shapes[heir * LETTERS + letter] = number;
            }
            return kind == Scanner.INT ? refuse(ROOM) : true;
        }

        private boolean takeMaster() {
            int master = draft.masters;
            if (master >= MASTERS) {
                return refuse(ROOM);
            }
            draft.masters++;
            if (!pass() || !takeNewName(FIRST_MASTER + master) || !takeLaw()) {
                return false;
            }
            draft.masterLaw[master] = lawStart;
            return true;
        }

        private boolean takeLearn() {
            if (!pass()) {
                return false;
            }
            int heir = heirNamed(value);
            if (kind == Scanner.NAME && heir == NONE) {
                note(NO_NAME);
            }
            if (!take(Scanner.NAME) || !takeLaw()) {
                return false;
            }
            if (heir != NONE) {
                draft.learnLaw[heir] = lawStart;
            }
            return true;
        }

        private int heirNamed(long name) {
            for (int heir = 0; heir < draft.heirs; heir++) {
                if (names[FIRST_HEIR + heir] == name) {
                    return heir;
                }
            }
            return NONE;
        }

        private boolean takeDrift() {
            if (!pass() || !takeLaw()) {
                return false;
            }
            draft.driftLaw = lawStart;
            return true;
        }

        private boolean takeDays() {
            if (!pass() || !takeInt(MOST_DAYS)) {
                return false;
            }
            draft.days = number;
            return true;
        }

        private boolean takeLimit() {
            if (!pass() || !takeInt(MOST_INT)) {
                return false;
            }
            draft.limit = number;
            return true;
        }

        private boolean takeSeed() {
            if (!pass() || !takeInt(MOST_INT)) {
                return false;
            }
            draft.seed = number;
            return true;
        }

        private boolean takeNewName(int index) {
            if (kind == Scanner.NAME) {
                for (int i = 0; i < names.length; i++) {
                    if (names[i] == value) {
                        note(TWICE);
                    }
                }
                names[index] = value;
            }
            return take(Scanner.NAME);
        }

        private boolean takeInt(int most) {
            if (kind == Scanner.INT && value > most) {
                note(WRONG);
            }
            number = (int) value;
            return take(Scanner.INT);
        }

        private boolean takeLaw() {
            Laws laws = draft.laws;
            lawStart = laws.size;
            if (!take('=')) {
                return false;
            }
            for (int ifs = 0; ifs <= IFS && kind == Scanner.IF; ifs++) {
                if (ifs == IFS) {
                    return refuse(ROOM);
                }
                if (!pass() || !takeSum(0) || !take('<') || !takeSum(0) || !take(Scanner.THEN)) {
                    return false;
                }
                int skip = laws.size;
                laws.put(Laws.UNLESS_LESS, 0);
                if (!takeSum(0) || !take(Scanner.ELSE)) {
                    return false;
                }
                laws.put(Laws.ANSWER, 0);
                laws.leadHere(skip);
            }
            if (!takeSum(0)) {
                return false;
            }
            laws.put(Laws.ANSWER, 0);
            return true;
        }

        private boolean takeSum(int depth) {
            if (!takeProduct(depth)) {
                return false;
            }
            for (int i = 0; i <= Scanner.TOKENS && (kind == '+' || kind == '-'); i++) {
                int sign = kind;
                if (!pass() || !takeProduct(depth)) {
                    return false;
                }
                draft.laws.put(sign, 0);
            }
            return true;
        }

        private boolean takeProduct(int depth) {
            if (!takeUnit(depth)) {
                return false;
            }
            for (int i = 0; i <= Scanner.TOKENS && (kind == '*' || kind == '/'); i++) {
                int sign = kind;
                if (!pass() || !takeUnit(depth)) {
                    return false;
                }
                draft.laws.put(sign, 0);
            }
            return true;
        }

        private boolean takeUnit(int depth) {
            if (kind == Scanner.INT) {
                draft.laws.put(Laws.PUSH, (int) value);
                return pass();
            }
            if (kind == Scanner.LETTER) {
                draft.laws.put(Laws.LOAD, Laws.LETTER);
                return pass();
            }
            if (kind >= Scanner.OFF && kind <= Scanner.DAY) {
                draft.laws.put(Laws.LOAD, Laws.OFF + kind - Scanner.OFF);
                return pass();
            }
            if (kind != '(') {
                return refuse(SYNTAX);
            }
            if (depth >= NESTED) {
                return refuse(ROOM);
            }
            return pass() && takeSum(depth + 1) && take(')');
        }
    }

    /** The LAWS of a text as one row of steps for a stack, and what they look at. */
    private static final class Laws {
        static final int PUSH = 1;
        static final int LOAD = 2;
        static final int UNLESS_LESS = 3;
        static final int ANSWER = 4;
        /** Where what is looked at stands: from off to day in the order of the Scanner's kinds. */
        static final int OFF = 0;
        static final int YEAR = 1;
        static final int WORN = 2;
        static final int OWN = 3;
        static final int HAND = 4;
        static final int DAY = 5;
        static final int LETTER = 6;
        private static final int VARIABLES = 7;
        /** A law has no more steps than TOKENS, and a text 400 of these. */
        private static final int STEPS = 400;
        /** Two values may wait at each of 7 levels, one ahead of a '<'. */
        private static final int STACK = 24;

        int size = 0;
        private final int[] steps = new int[STEPS];
        private final int[] values = new int[STEPS];
        private final int[] looked = new int[VARIABLES];
        private final int[] stack = new int[STACK];

        void put(int step, int value) {
            if (size < STEPS) {
                steps[size] = step;
                values[size] = value;
                size++;
            }
        }

        /** The step there goes on from the next one to be put. */
        void leadHere(int step) {
            if (step >= 0 && step < STEPS) {
                values[step] = size;
            }
        }

        void lookAt(int off, int letter, int year, int worn, int own, int hand, int day) {
            looked[OFF] = off;
            looked[LETTER] = letter;
            looked[YEAR] = year;
            looked[WORN] = worn;
            looked[OWN] = own;
            looked[HAND] = hand;
            looked[DAY] = day;
        }

        /** What the law that starts there tells; each step leads forward, so it ends. */
        int answer(int start) {
            int top = 0;
            for (int at = Math.max(0, start); at < size; at++) {
                int step = steps[at];
                if (step == ANSWER) {
                    return top > 0 ? stack[top - 1] : 0;
                }
                if (step == PUSH || step == LOAD) {
                    if (top >= STACK) {
                        return 0;
                    }
                    stack[top] = step == PUSH ? values[at] : variable(values[at]);
                    top++;
                    continue;
                }
                if (top < 2) {
                    return 0;
                }
                int right = stack[top - 1];
                int left = stack[top - 2];
                top -= 2;
                if (step == UNLESS_LESS) {
                    at = left < right ? at : Math.max(at, values[at] - 1);
                } else if (step == '/' && right == 0) {
                    return 0;
                } else {
                    stack[top] = reckoned(step, left, right);
                    top++;
                }
            }
            return 0;
        }

        private int variable(int which) {
            return which >= 0 && which < VARIABLES ? looked[which] : 0;
        }

        private static int reckoned(int sign, int left, int right) {
            switch (sign) {
                case '+': return left + right;
                case '-': return left - right;
                case '*': return left * right;
                default: return right == 0 ? 0 : left / right;
            }
        }
    }

    /** What a text tells. */
    private static final class Will {
        private static final int USUAL_DAYS = 3;
        private static final int USUAL_LIMIT = 9999;

        int letters = 0;
        int heirs = 0;
        int masters = 0;
        int days = USUAL_DAYS;
        int limit = USUAL_LIMIT;
        int seed = 0;
        int driftLaw = NONE;
        final int[] hand = new int[LETTERS];
        final int[] skill = new int[HEIRS];
        final int[] tremor = new int[HEIRS];
        final int[] shapes = new int[HEIRS * LETTERS];
        final int[] masterLaw = new int[MASTERS];
        final int[] learnLaw = new int[HEIRS];
        final Laws laws = new Laws();

        Will() {
            clear();
        }

        void clear() {
            letters = 0;
            heirs = 0;
            masters = 0;
            days = USUAL_DAYS;
            limit = USUAL_LIMIT;
            seed = 0;
            driftLaw = NONE;
            laws.size = 0;
            for (int letter = 0; letter < LETTERS; letter++) {
                // a text with a FAULT may have left any number, and the book has room for SHAPES alone
                hand[letter] = 0;
            }
            for (int heir = 0; heir < HEIRS; heir++) {
                learnLaw[heir] = NONE;
            }
            for (int i = 0; i < shapes.length; i++) {
                shapes[i] = UNTOLD_SHAPE;
            }
        }

        /** The LETTER that an HEIR learns on a day, or NOBODY's number for none. */
        int learned(State state, int heir, int day) {
            if (letters <= 0) {
                return NOBODY;
            }
            if (learnLaw[heir] == NONE) {
                return mostOff(state, heir);
            }
            laws.lookAt(0, 0, state.year, 0, 0, 0, day);
            int told = laws.answer(learnLaw[heir]);
            return told < 0 ? NOBODY : told % letters;
        }

        private int mostOff(State state, int heir) {
            int farthest = 0;
            int most = state.off(heir, 0);
            for (int letter = 1; letter < letters; letter++) {
                int off = state.off(heir, letter);
                if (off > most) {
                    farthest = letter;
                    most = off;
                }
            }
            return farthest;
        }

        /** Sets what the MASTERS look at: a LETTER, written in a SHAPE. */
        void showMasters(State state, int letter, int written) {
            int hand = state.hand[letter];
            laws.lookAt(Math.abs(written - hand), letter, state.year, state.worn, written, hand, 0);
        }

        int toldBy(int master) {
            return held(laws.answer(masterLaw[master]), 0, MOST_UNLIKE);
        }

        /** How the HAND's SHAPE of a LETTER changes by its copy in the hand of who has the estate. */
        int drift(State state, int letter) {
            if (driftLaw == NONE) {
                return 0;
            }
            int owner = state.owner;
            laws.lookAt(state.off(owner, letter), letter, state.year, 0,
                state.own(owner, letter), state.hand[letter], 0);
            return held(laws.answer(driftLaw), -MOST_DRIFT, MOST_DRIFT);
        }
    }

    /** What lessons and years change, but for the book. */
    private static final class State {
        int year = 0;
        int worn = 0;
        int owner = NOBODY;
        final int[] hand = new int[LETTERS];
        final int[] shapes = new int[HEIRS * LETTERS];
        /** For how many years each HEIR had the estate: the book alone would forget after 400. */
        final int[] had = new int[HEIRS];

        void begin(Will will) {
            year = 0;
            worn = 0;
            owner = NOBODY;
            System.arraycopy(will.hand, 0, hand, 0, LETTERS);
            System.arraycopy(will.shapes, 0, shapes, 0, HEIRS * LETTERS);
            for (int heir = 0; heir < HEIRS; heir++) {
                had[heir] = 0;
            }
        }

        void copy(State other) {
            year = other.year;
            worn = other.worn;
            owner = other.owner;
            System.arraycopy(other.hand, 0, hand, 0, LETTERS);
            System.arraycopy(other.shapes, 0, shapes, 0, HEIRS * LETTERS);
            System.arraycopy(other.had, 0, had, 0, HEIRS);
        }

        /** How many years are in the book: each that has gone, as long as there is room. */
        int led() {
            return Math.min(year, PAGES);
        }

        int own(int heir, int letter) {
            return shapes[heir * LETTERS + letter];
        }

        int off(int heir, int letter) {
            return Math.abs(own(heir, letter) - hand[letter]);
        }

        /** The SHAPE after it has come nearer by some points, or all that it is OFF. */
        int nearer(int heir, int letter, int points) {
            int shape = own(heir, letter);
            int step = Math.min(points, off(heir, letter));
            return shape < hand[letter] ? shape + step : shape - step;
        }

        void teach(int heir, int letter, int points) {
            shapes[heir * LETTERS + letter] = nearer(heir, letter, points);
        }
    }

    /**
     * The HAND and who was given the estate, year by year; how many years count is told by the State. A year is
     * one number, as the book and its copies in the SLOTS would else be the most of what an object takes.
     */
    private static final class Book {
        private static final int SHAPE_BITS = 7;
        private static final int SHAPE_MASK = 127;

        private final long[] years = new long[PAGES];

        void lead(State state) {
            if (state.year >= 0 && state.year < PAGES) {
                // who stands above the shapes, told from NOBODY on, so that it is not below 0
                long packed = state.owner - NOBODY;
                for (int letter = LETTERS - 1; letter >= 0; letter--) {
                    packed = (packed << SHAPE_BITS) | state.hand[letter];
                }
                years[state.year] = packed;
            }
        }

        void copy(Book other, int led) {
            System.arraycopy(other.years, 0, years, 0, led);
        }

        int handOf(int year, int letter) {
            return (int) (years[year] >>> (SHAPE_BITS * letter)) & SHAPE_MASK;
        }

        int givenIn(int year) {
            return (int) (years[year] >>> (SHAPE_BITS * LETTERS)) + NOBODY;
        }

        /** How many years from that one on, without a break, went to the same one. */
        int reignFrom(int first, int led) {
            int end = first;
            while (end < led && givenIn(end) == givenIn(first)) {
                end++;
            }
            return end - first;
        }

        /** The first year of the longest reign of an HEIR; NONE if no HEIR was given the estate. */
        int longestReign(int led) {
            int best = NONE;
            int most = 0;
            int first = 0;
            while (first < led) {
                int reigned = Math.max(1, reignFrom(first, led));
                if (givenIn(first) >= 0 && reigned > most) {
                    best = first;
                    most = reigned;
                }
                first += reigned;
            }
            return best;
        }
    }

    /** What was before each of the last things done; the book needs no copy, as only years at its end go. */
    private static final class Past {
        int size = 0;
        private int next = 0;
        private final State[] kept = new State[THINGS];

        Past() {
            for (int i = 0; i < THINGS; i++) {
                kept[i] = new State();
            }
        }

        void clear() {
            size = 0;
            next = 0;
        }

        void keep(State state) {
            kept[next].copy(state);
            next = (next + 1) % THINGS;
            size = Math.min(size + 1, THINGS);
        }

        boolean takeBack(State state) {
            if (size == 0) {
                return false;
            }
            next = (next + THINGS - 1) % THINGS;
            state.copy(kept[next]);
            size--;
            return true;
        }
    }

    /** What one SLOT holds. */
    private static final class Slot {
        boolean full = false;
        final State state = new State();
        final Book pages = new Book();
    }

    /** What is TOLD. */
    private static final class Paper {
        int size = 0;
        final int[] letters = new int[PAPERS];
        final int[] shapes = new int[PAPERS];

        int add(int letter, int shape) {
            if (size >= PAPERS) {
                return NONE;
            }
            letters[size] = letter;
            shapes[size] = shape;
            size++;
            return size - 1;
        }
    }

    /** Compares, judges, and lets years go. */
    private static final class Court {
        private static final int FIRST_STIRRED = 27;

        final int[][] unlikes = new int[HEIRS][MASTERS];
        /** For whom each MASTER voted when the estate was last awarded. */
        final int[] votes = new int[MASTERS];
        private final int[] tally = new int[HEIRS];

        private static int stirred(int h, int with) {
            int mixed = (h ^ with) * 1103515245 + 12345;
            return mixed ^ (mixed >>> 15);
        }

        private static int lot(int n, int seed, int which) {
            int h = stirred(stirred(seed, FIRST_STIRRED), which);
            return n > 0 ? (h >>> 1) % n : 0;
        }

        static int written(Will will, State state, int seed, int heir, int letter) {
            int t = will.tremor[heir];
            int which = 36 * state.year + 6 * heir + letter;
            return held(state.own(heir, letter) + lot(2 * t + 1, seed, which) - t, 0, MOST_SHAPE);
        }

        /** Fills in what each HEIR is UNLIKE to each MASTER. */
        void compare(Will will, State state, int seed) {
            for (int heir = 0; heir < will.heirs; heir++) {
                for (int master = 0; master < MASTERS; master++) {
                    unlikes[heir][master] = 0;
                }
                for (int letter = 0; letter < will.letters; letter++) {
                    will.showMasters(state, letter, written(will, state, seed, heir, letter));
                    for (int master = 0; master < will.masters; master++) {
                        unlikes[heir][master] += will.toldBy(master);
                    }
                }
            }
        }

        int sum(Will will, int heir, int noMaster) {
            int sum = 0;
            for (int master = 0; master < will.masters; master++) {
                if (master != noMaster) {
                    sum += unlikes[heir][master];
                }
            }
            return sum;
        }

        int choice(Will will, int master, int noHeir) {
            int chosen = NOBODY;
            for (int heir = 0; heir < will.heirs; heir++) {
                if (heir != noHeir && (chosen < 0 || unlikes[heir][master] < unlikes[chosen][master])) {
                    chosen = heir;
                }
            }
            return chosen;
        }

        /** Who is given the estate by what was compared, as if one HEIR or one MASTER were not there. */
        int award(Will will, int noHeir, int noMaster) {
            for (int heir = 0; heir < HEIRS; heir++) {
                tally[heir] = 0;
            }
            for (int master = 0; master < will.masters; master++) {
                votes[master] = choice(will, master, noHeir);
                if (master != noMaster && votes[master] >= 0) {
                    tally[votes[master]]++;
                }
            }
            int first = NOBODY;
            for (int heir = 0; heir < will.heirs; heir++) {
                // one without a vote is never ahead: with MASTERS somebody has one
                if (tally[heir] > 0 && (first < 0 || isAhead(will, heir, first, noMaster))) {
                    first = heir;
                }
            }
            return first >= 0 && sum(will, first, noMaster) > will.limit ? NOBODY : first;
        }

        private boolean isAhead(Will will, int heir, int other, int noMaster) {
            if (tally[heir] != tally[other]) {
                return tally[heir] > tally[other];
            }
            return sum(will, heir, noMaster) < sum(will, other, noMaster);
        }

        int given(Will will, State state, int seed) {
            compare(will, state, seed);
            return award(will, NONE, NONE);
        }

        /** The lessons of a year; one HEIR may be told a LETTER instead of what he LEARNS. */
        void spendDays(Will will, State state, int toldHeir, int toldLetter) {
            for (int day = 0; day < will.days; day++) {
                for (int heir = 0; heir < will.heirs; heir++) {
                    int letter = heir == toldHeir ? toldLetter : will.learned(state, heir, day);
                    if (letter >= 0 && letter < will.letters) {
                        state.teach(heir, letter, will.skill[heir]);
                    }
                }
            }
        }

        void settle(Will will, State state) {
            compare(will, state, will.seed);
            state.owner = award(will, NONE, NONE);
            if (state.owner >= 0) {
                state.had[state.owner]++;
            }
        }

        void endYear(Will will, State state) {
            state.worn++;
            if (state.owner >= 0) {
                for (int letter = 0; letter < will.letters; letter++) {
                    state.hand[letter] = held(state.hand[letter] + will.drift(state, letter), 0, MOST_SHAPE);
                }
            }
            state.year++;
        }

        int goThroughYear(Will will, State state, int toldHeir, int toldLetter) {
            spendDays(will, state, toldHeir, toldLetter);
            settle(will, state);
            endYear(will, state);
            return state.owner;
        }
    }

    /** Lays PLANS: what a LETTER costs does not hang on the others, so rests of days are shared from the end. */
    private static final class Planner {
        final int[] days = new int[LETTERS];
        /** What a LETTER is UNLIKE, to all MASTERS, after so many days. */
        private final int[][] costs = new int[LETTERS][PLAN_DAYS + 1];
        /** The least sum of a LETTER and those behind it with so many days. */
        private final int[][] least = new int[LETTERS][PLAN_DAYS + 1];

        int lay(Will will, State state, int heir, int d) {
            if (will.letters <= 0) {
                return 0;
            }
            for (int letter = will.letters - 1; letter >= 0; letter--) {
                for (int n = 0; n <= d; n++) {
                    costs[letter][n] = cost(will, state, heir, letter, n * will.skill[heir]);
                }
                for (int n = 0; n <= d; n++) {
                    least[letter][n] = shareWith(letter, will.letters, n, mostDays(letter, will.letters, n));
                }
            }
            int left = d;
            for (int letter = 0; letter < will.letters; letter++) {
                days[letter] = mostDays(letter, will.letters, left);
                left -= days[letter];
            }
            return least[0][d];
        }

        private int cost(Will will, State state, int heir, int letter, int points) {
            will.showMasters(state, letter, state.nearer(heir, letter, points));
            int cost = 0;
            for (int master = 0; master < will.masters; master++) {
                cost += will.toldBy(master);
            }
            return cost;
        }

        /** The sum if of n days so many are for this LETTER and the rest for those behind it. */
        private int shareWith(int letter, int letters, int n, int mine) {
            return costs[letter][mine] + (letter + 1 < letters ? least[letter + 1][n - mine] : 0);
        }

        /** The most of n days for this LETTER with which the sum is least; the last one takes them all. */
        private int mostDays(int letter, int letters, int n) {
            if (letter + 1 >= letters) {
                return n;
            }
            int best = n;
            for (int mine = n - 1; mine >= 0; mine--) {
                if (shareWith(letter, letters, n, mine) < shareWith(letter, letters, n, best)) {
                    best = mine;
                }
            }
            return best;
        }
    }
}
