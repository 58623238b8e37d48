/** The folk of a folio's margins: ../shared/DOC.md tells what each call promises. */
public final class MarginFolk {
    /** There is none; it is refused. */
    public static final int NONE = -1;
    /** Told where a number below 0 may be one. */
    public static final long NOTHING = -1000000000000000L;

    private static final int MOST_BYTES = 1600;
    private static final int MOST_STATEMENTS = 80;
    private static final int MOST_LEAVES = 6;
    private static final int MOST_CELLS = 8;
    private static final int MOST_GLOSSES = 20;
    private static final int MOST_WORMS = 12;
    private static final int MOST_BEINGS = 8;
    private static final int MOST_OPEN = 6;
    private static final int MOST_ACTS = 20;
    private static final int MOST_KEPT = 40;
    private static final int MOST_SEEN = 16;
    private static final int MOST_READING = 3;
    private static final int MOST_AHEAD = 60;
    private static final int MOST_WAY = 40;
    private static final int MOST_AT_ONCE = 100;
    private static final int LAST_DAY = 999;
    private static final int FULL = 9999;
    private static final int LONGEST_IMAGE = 2 + MOST_LEAVES + 6 * MOST_BEINGS + 1;

    private final Tape tape;
    private final Tokens tokens;
    private final SumReader sums;
    private final FolioReader folios;
    private final Book book;
    private final Seeker seeker;
    private final Script question;
    private final State now;
    private final State draft;
    private final State[] acts;
    private final int[] refused;
    private final int[] octets;
    private Folio current;
    private Folio spare;
    private int octetCount;
    private int actCount;
    private int actNext;
    private int fault;
    private int place;
    private int drawn;

    public MarginFolk() {
        Words words = new Words();
        tape = new Tape();
        tokens = new Tokens(tape, words);
        question = new Script();
        sums = new SumReader(tokens, words, question);
        current = new Folio();
        spare = new Folio();
        folios = new FolioReader(tokens, words, sums, spare);
        book = new Book();
        seeker = new Seeker(book);
        now = new State();
        draft = new State();
        acts = new State[MOST_ACTS];
        for (int k = 0; k < acts.length; k++) {
            acts[k] = new State();
        }
        refused = new int[6];
        octets = new int[LONGEST_IMAGE];
        place = NONE;
        drawn = 1;
    }

    // ---- the tape and the folio

    public int feed(int a, int b, int c, int d, int e) {
        if (tape.length + 20 > MOST_BYTES) {
            refused[0]++;
            return NONE;
        }
        tape.add(a);
        tape.add(b);
        tape.add(c);
        tape.add(d);
        tape.add(e);
        return tape.length;
    }

    public boolean end(int n) {
        if (n < 0 || n > tape.length) {
            refused[0]++;
            return false;
        }
        tape.length = n;
        return true;
    }

    public int folio() {
        folios.read(spare);
        takeFault();
        if (fault != 0) {
            refused[1]++;
            return NONE;
        }
        Folio old = current;
        current = spare;
        spare = old;
        now.copyAll(current.first);
        seeker.seenCount = 0;
        actCount = 0;
        return current.statements;
    }

    public int fault(int what) {
        if (what == 0) {
            return fault;
        }
        return what == 1 ? place : NONE;
    }

    // ---- what there is

    public int has(int what) {
        switch (what) {
            case 0: return current.leaves;
            case 1: return current.cells;
            case 2: return now.countGlosses();
            case 3: return current.worms;
            case 4: return current.beings;
            case 5: return now.day;
            case 6: return book.openingOf(current, now.day);
            case 7: return allPurses();
            case 8: return now.countKept();
            case 9: return seeker.seenCount;
            case 10: return actCount;
            default: return NONE;
        }
    }

    public int letter(int being, int k) {
        if (!isBeing(being) || k < 0 || k >= Words.LONGEST) {
            return NONE;
        }
        return Words.letterOf(current.names[being], k);
    }

    public int being(int being, int what) {
        if (!isBeing(being)) {
            return NONE;
        }
        switch (what) {
            case 0: return now.leaf[being];
            case 1: return now.cell[being];
            case 2: return current.trades[being];
            case 3: return now.purse[being];
            case 4: return now.met[being];
            case 5: return Book.liesOpen(book.openingOf(current, now.day), now.leaf[being]) ? 1 : 0;
            default: return NONE;
        }
    }

    public int cell(int leaf, int cell, int what) {
        if (!isCell(leaf, cell)) {
            return NONE;
        }
        switch (what) {
            case 0: return now.hasGloss(leaf, cell) ? 1 : 0;
            case 1: return now.whoStands(leaf, cell, current.beings);
            case 2: return leafUpon(leaf);
            case 3: return leafUpon(leaf) == NONE ? NONE : current.mirror(cell);
            default: return NONE;
        }
    }

    public int kept(int k, int what) {
        if (k < 0 || k >= now.countKept()) {
            return NONE;
        }
        int meeting = now.keptAt(k);
        switch (what) {
            case 0: return meeting / 64;
            case 1: return meeting / 8 % 8;
            case 2: return meeting % 8;
            default: return NONE;
        }
    }

    // ---- who meets whom

    public int meets(int one, int other) {
        if (!isBeing(one) || !isBeing(other) || one == other) {
            return NONE;
        }
        return Book.meet(current, now, one, other, book.openingOf(current, now.day)) ? 1 : 0;
    }

    public int pairs(int opening) {
        if (current.leaves == 0 || opening < NONE || opening > current.leaves) {
            return NONE;
        }
        int lies = opening == NONE ? book.openingOf(current, now.day) : opening;
        return Book.countPairs(current, now, lies);
    }

    public int apart() {
        return current.leaves == 0 ? NONE : seeker.findApart(current, now);
    }

    public int reading(int n, int k) {
        if (n < 1 || n > MOST_READING || k < NONE || k >= n || !canPass(n)) {
            return NONE;
        }
        return seeker.findReading(current, now, n, k);
    }

    // ---- ahead

    public int later(int being, int n, int what) {
        if (!isBeing(being) || n < 0 || n > MOST_AHEAD || !canPass(n)) {
            return NONE;
        }
        if (what < 0 || what > 2) {
            return NONE;
        }
        State then = seeker.lookAhead(current, now, n);
        if (what == 0) {
            return then.cell[being];
        }
        return what == 1 ? then.purse[being] : then.met[being];
    }

    public int opening(int n) {
        if (n < 0 || n > MOST_AHEAD || !canPass(n)) {
            return NONE;
        }
        return book.openingOf(current, now.day + n);
    }

    public int way(int being, int leaf, int cell) {
        if (!isBeing(being) || !isCell(leaf, cell)) {
            return NONE;
        }
        return seeker.findWay(current, now, being, leaf, cell);
    }

    // ---- who was seen where, trims

    public int see() {
        boolean taken = seeker.takeSeen(current, tape);
        tape.length = 0;
        if (!taken) {
            refused[1]++;
            return NONE;
        }
        return seeker.seenCount;
    }

    public int lay(int what) {
        if (!canPass(1) || what < 0 || what > 1) {
            return NONE;
        }
        int bits = seeker.findOpenings(current, now);
        return what == 0 ? Integer.bitCount(bits) : bits;
    }

    public int after(int what) {
        if (!canPass(1) || what < 0 || what > 1) {
            return NONE;
        }
        return seeker.askAfter(current, now, what);
    }

    public int trim(int leaf, int many) {
        if (many < 1 || many >= current.cells || !isCell(leaf, 0)) {
            return NONE;
        }
        return seeker.findTrim(current, now, leaf, many);
    }

    // ---- acts

    public boolean go(int being, int leaf, int cell) {
        if (!isBeing(being) || !isCell(leaf, cell) || !now.isFree(leaf, cell, current.beings)) {
            refused[2]++;
            return false;
        }
        saveAct();
        now.leaf[being] = leaf;
        now.cell[being] = cell;
        return true;
    }

    public int gloss(int leaf, int cell) {
        if (!isCell(leaf, cell) || now.hasGloss(leaf, cell)) {
            refused[2]++;
            return NONE;
        }
        int there = now.whoStands(leaf, cell, current.beings);
        int refuge = there == NONE ? NONE : findRefuge(leaf, cell);
        if (there != NONE && refuge == NONE) {
            refused[2]++;
            return NONE;
        }
        saveAct();
        now.writeGloss(leaf, cell);
        if (there == NONE) {
            return 100;
        }
        now.cell[there] = refuge;
        return refuge;
    }

    public int days(int n) {
        if (n < 1 || n > MOST_AT_ONCE || !canPass(n)) {
            refused[3]++;
            return NONE;
        }
        saveAct();
        int met = 0;
        for (int k = 0; k < n; k++) {
            met += book.passDay(current, now, book.openingOf(current, now.day));
        }
        return met;
    }

    public int chance(int n) {
        if (n < 1 || n > MOST_AT_ONCE || !canPass(n)) {
            refused[3]++;
            return NONE;
        }
        saveAct();
        int thumbs = 0;
        for (int k = 0; k < n; k++) {
            if (draw(100) < current.thumb && current.beings > 0) {
                int pressed = draw(current.beings);
                now.purse[pressed] /= 2;
                thumbs++;
            }
            book.passDay(current, now, book.openingOf(current, now.day));
        }
        return thumbs;
    }

    public boolean undo() {
        if (actCount == 0) {
            refused[4]++;
            return false;
        }
        actCount--;
        actNext = (actNext + MOST_ACTS - 1) % MOST_ACTS;
        now.copyAll(acts[actNext]);
        return true;
    }

    public boolean seed(int seed) {
        if (seed < 0) {
            refused[5]++;
            return false;
        }
        drawn = seed;
        return true;
    }

    // ---- questions

    public long ask() {
        if (current.leaves == 0) {
            tape.length = 0;
            return NOTHING;
        }
        int kind = sums.readQuestion(question);
        takeFault();
        return fault != 0 ? NOTHING : answer(kind);
    }

    // ---- images, refusals

    public int image() {
        octetCount = 0;
        addOctets(now.day);
        for (int leaf = 0; leaf < current.leaves; leaf++) {
            addOctet(now.gloss[leaf]);
        }
        for (int k = 0; k < current.beings; k++) {
            addOctet(now.leaf[k]);
            addOctet(now.cell[k]);
            addOctets(now.purse[k]);
            addOctets(now.met[k]);
        }
        int sum = Tape.FIRST_CHECK;
        for (int k = 0; k < octetCount && k < octets.length; k++) {
            sum = Tape.nextCheck(sum, octets[k]);
        }
        addOctet(sum);
        return octetCount;
    }

    public int octet(int k) {
        return k < 0 || k >= octetCount || k >= octets.length ? NONE : octets[k];
    }

    public boolean on() {
        boolean taken = current.leaves > 0 && draft.takeImage(current, tape);
        tape.length = 0;
        if (!taken) {
            refused[5]++;
            return false;
        }
        now.copyAll(draft);
        actCount = 0;
        return true;
    }

    public int status(int what) {
        return what < 0 || what >= refused.length ? NONE : refused[what];
    }

    // ---- helpers of the face

    private void takeFault() {
        fault = tokens.fault;
        place = fault == 0 ? NONE : tokens.place;
        tape.length = 0;
    }

    private boolean isBeing(int being) {
        return being >= 0 && being < current.beings;
    }

    private boolean isCell(int leaf, int cell) {
        return leaf >= 0 && leaf < current.leaves && cell >= 0 && cell < current.cells;
    }

    /** A DAY passes only up to DAY 999, so whatever passes more of them can't be. */
    private boolean canPass(int days) {
        return current.leaves > 0 && now.day + days <= LAST_DAY;
    }

    private int allPurses() {
        int all = 0;
        for (int k = 0; k < current.beings; k++) {
            all += now.purse[k];
        }
        return all;
    }

    private int leafUpon(int leaf) {
        int opening = book.openingOf(current, now.day);
        if (Book.liesOnNext(current, opening, leaf - 1)) {
            return leaf - 1;
        }
        return Book.liesOnNext(current, opening, leaf) ? leaf + 1 : NONE;
    }

    private int findRefuge(int leaf, int cell) {
        for (int far = 1; far < current.cells; far++) {
            if (cell - far >= 0 && now.isFree(leaf, cell - far, current.beings)) {
                return cell - far;
            }
            if (cell + far < current.cells && now.isFree(leaf, cell + far, current.beings)) {
                return cell + far;
            }
        }
        return NONE;
    }

    private void saveAct() {
        acts[actNext].copyAll(now);
        actNext = (actNext + 1) % MOST_ACTS;
        actCount = Math.min(MOST_ACTS, actCount + 1);
    }

    private int draw(int m) {
        drawn = (int) ((1103515245L * drawn + 12345L) & 0x7fffffffL);
        return m > 0 ? drawn / 64 % m : 0;
    }

    private long answer(int kind) {
        int opening = book.openingOf(current, now.day);
        long total = 0;
        long found = NONE;
        long most = 0;
        long least = 0;
        for (int k = 0; k < current.beings; k++) {
            int value = book.reckonOf(question, current, now, k, opening);
            if (value != 0 && (found == NONE || kind == Words.LAST)) {
                found = k;
            }
            total += value;
            most = k == 0 ? value : Math.max(most, value);
            least = k == 0 ? value : Math.min(least, value);
        }
        switch (kind) {
            case Words.FIRST: return found;
            case Words.LAST: return found;
            case Words.MOST: return most;
            case Words.LEAST: return least;
            default: return total; // a TEST that holds is 1: often and total add alike
        }
    }

    private void addOctets(int number) {
        addOctet(number / 256);
        addOctet(number % 256);
    }

    private void addOctet(int octet) {
        if (octetCount < octets.length) {
            octets[octetCount] = octet;
            octetCount++;
        }
    }

    /** The bytes that were fed. */
    private static final class Tape {
        static final int FIRST_CHECK = 83;

        final byte[] bytes = new byte[MOST_BYTES];
        int length;

        static int nextCheck(int sum, int octet) {
            return (3 * sum + octet) % 251;
        }

        void add(int number) {
            for (int shift = 24; shift >= 0; shift -= 8) {
                if (length < bytes.length) {
                    bytes[length] = (byte) (number >> shift);
                    length++;
                }
            }
        }

        int byteAt(int k) {
            return k < 0 || k >= length || k >= bytes.length ? 0 : bytes[k] & 255;
        }

        int pairAt(int k) {
            return byteAt(k) * 256 + byteAt(k + 1);
        }
    }

    /** The words of the language, each packed into one number so that two are compared at once. */
    private static final class Words {
        static final int LONGEST = 6;
        static final int BASE = 27;
        static final int DAY = 0;
        static final int LEAF = 1;
        static final int CELL = 2;
        static final int TRADE = 3;
        static final int PURSE = 4;
        static final int OPEN = 5;
        static final int OTHER = 6;
        static final int NUMBER = 7;
        static final int MET = 8;
        static final int PARTS = 9;
        static final int MEETS = 9;
        static final int MIN = 10;
        static final int MAX = 11;
        static final int OR = 12;
        static final int AND = 13;
        static final int NOT = 14;
        static final int ALL = 15;
        static final int FOLIO = 16;
        static final int CELLS = 17;
        static final int GLOSS = 18;
        static final int WORM = 19;
        static final int BEING = 20;
        static final int ON = 21;
        static final int AT = 22;
        static final int OPENS = 23;
        static final int CORN = 24;
        static final int TOLL = 25;
        static final int STEPS = 26;
        static final int THUMB = 27;
        static final int OWN = 28;
        static final int FIRST = 28;
        static final int LAST = 29;
        static final int OFTEN = 30;
        static final int TOTAL = 31;
        static final int MOST = 32;
        static final int LEAST = 33;
        static final int COUNT = 34;

        // in the order of the numbers above; those from FIRST on are no OWN WORDS
        private static final String LIST = "day leaf cell trade purse open other number met meets min max or and not all folio cells gloss worm being on at opens corn toll steps thumb first last often total most least ";

        private final int[] packed;

        Words() {
            packed = new int[COUNT];
            int word = 0;
            int from = 0;
            for (int k = 0; k < LIST.length(); k++) {
                if (LIST.charAt(k) == ' ' && word < packed.length) {
                    packed[word] = packListed(from, k);
                    word++;
                    from = k + 1;
                }
            }
        }

        private static int packListed(int from, int to) {
            int all = 0;
            for (int k = from; k < from + LONGEST; k++) {
                all = all * BASE + (k < to && k < LIST.length() ? LIST.charAt(k) - 'a' + 1 : 0);
            }
            return all;
        }

        static int letterOf(int all, int k) {
            int rest = all;
            for (int behind = k + 1; behind < LONGEST; behind++) {
                rest /= BASE;
            }
            return rest % BASE;
        }

        boolean isThat(int word, int all) {
            return word >= 0 && word < packed.length && packed[word] == all;
        }

        int find(int all) {
            for (int word = 0; word < packed.length; word++) {
                if (packed[word] == all) {
                    return word;
                }
            }
            return NONE;
        }
    }

    /** The tape as words, numbers and signs, one at a time, and the first FAULT found in it. */
    private static final class Tokens {
        static final int END = 0;
        static final int WORD = 1;
        static final int NUMBER = 2;
        static final int SIGN = 3;
        static final int STRAY = 4;
        static final int MOST_DIGITS = 4;

        final Tape tape;
        final Words words;
        int kind;
        int at;
        int length;
        int value;
        int next;
        int numberAt;
        int fault;
        int place;

        Tokens(Tape tape, Words words) {
            this.tape = tape;
            this.words = words;
        }

        void start() {
            fault = 0;
            place = NONE;
            next = 0;
            kind = SIGN;
            step();
        }

        void step() {
            boolean joined = kind == WORD || kind == NUMBER;
            int from = next;
            int size = Math.min(tape.length, tape.bytes.length);
            at = Math.max(0, from);
            while (at < size && (tape.bytes[at] == ' ' || tape.bytes[at] == '\n')) {
                at++;
            }
            length = 0;
            value = 0;
            if (at >= size) {
                kind = END;
                at = size;
                next = size;
                return;
            }
            int sign = tape.bytes[at] & 255;
            kind = sign >= 'a' && sign <= 'z' ? WORD : sign >= '0' && sign <= '9' ? NUMBER : SIGN;
            if (kind == SIGN) {
                value = sign;
                length = 1;
            } else {
                takeWhole(size);
            }
            next = at + length;
            if (joined && at == from && kind != SIGN) {
                kind = STRAY;
            }
        }

        /** All letters of a word or digits of a number; of one too long the value counts no more. */
        private void takeWhole(int size) {
            boolean word = kind == WORD;
            int low = word ? 'a' : '0';
            int high = word ? 'z' : '9';
            int most = word ? Words.LONGEST : MOST_DIGITS;
            for (int k = at; k >= 0 && k < size && tape.bytes[k] >= low && tape.bytes[k] <= high; k++) {
                length++;
                if (length <= most) {
                    value = word ? value * Words.BASE + tape.bytes[k] - low + 1 : value * 10 + tape.bytes[k] - low;
                }
            }
            for (int k = length; word && k < most; k++) {
                value *= Words.BASE;
            }
            if (length > most) {
                value = NONE;
            }
        }

        boolean isWord(int word) {
            return kind == WORD && words.isThat(word, value);
        }

        boolean isSign(char sign) {
            return kind == SIGN && value == sign;
        }

        void fail(int what, int where) {
            if (fault == 0) {
                fault = what;
                place = where;
            }
        }

        void passSign(char sign) {
            if (fault == 0 && !isSign(sign)) {
                fail(1, at);
            }
            if (fault == 0) {
                step();
            }
        }

        void passWord(int word) {
            if (fault == 0 && !isWord(word)) {
                fail(1, at);
            }
            if (fault == 0) {
                step();
            }
        }

        /** The number that stands here, if it is one of low to high; else NONE, a FAULT. */
        int passNumber(int low, int high) {
            numberAt = at;
            if (fault == 0 && (kind != NUMBER || length > MOST_DIGITS)) {
                fail(1, kind == NUMBER ? at + MOST_DIGITS : at);
            }
            if (fault == 0 && (value < low || value > high)) {
                fail(2, at);
            }
            if (fault != 0) {
                return NONE;
            }
            int number = value;
            step();
            return number;
        }

        boolean mayOpen(int open) {
            if (open >= MOST_OPEN) {
                fail(4, at);
            }
            return fault == 0;
        }
    }

    /** SUMS and TESTS as rows of what to do with a stack, several in one row of numbers. */
    private static final class Script {
        static final int PLUS = 1;
        static final int MINUS = 2;
        static final int TIMES = 3;
        static final int OVER = 4;
        static final int LESSER = 5;
        static final int GREATER = 6;
        static final int BELOW = 7;
        static final int ABOVE = 8;
        static final int SAME = 9;
        static final int BOTH = 10;
        static final int EITHER = 11;
        static final int NOT = 12;
        static final int MEETS = 13;
        static final int PART = 20;
        static final int NUMBER = 40;

        static final int OPENS = 0;
        static final int CORN = 1;
        static final int TOLL = 2;
        static final int STEPS = 3;
        static final int QUESTION = 0;
        static final int SLOTS = 4;

        final int[] row = new int[MOST_BYTES];
        final int[] from = new int[SLOTS];
        final int[] to = new int[SLOTS];
        int length;
        private int begun = NONE;

        void forget() {
            length = 0;
            begun = NONE;
            for (int slot = 0; slot < SLOTS; slot++) {
                from[slot] = 0;
                to[slot] = 0;
            }
        }

        boolean isTold(int slot) {
            return slot >= 0 && slot < SLOTS && to[slot] > from[slot];
        }

        void begin(int slot) {
            begun = slot;
            if (slot >= 0 && slot < SLOTS) {
                from[slot] = length;
            }
        }

        void finish() {
            if (begun >= 0 && begun < SLOTS) {
                to[begun] = length;
            }
            begun = NONE;
        }

        void add(int step) {
            if (length < row.length) {
                row[length] = step;
                length++;
            }
        }
    }

    /** Reads TESTS, SUMS and QUESTIONS into a script. */
    private static final class SumReader {
        static final int DAY_ALONE = 1 << Words.DAY;
        static final int OF_BEINGS = DAY_ALONE | 1 << Words.LEAF | 1 << Words.CELL
                | 1 << Words.TRADE | 1 << Words.PURSE | 1 << Words.OPEN;
        static final int OF_TOLLS = OF_BEINGS | 1 << Words.OTHER;
        static final int OF_QUESTIONS = OF_BEINGS | 1 << Words.NUMBER | 1 << Words.MET
                | 1 << Words.MEETS;

        private final Tokens tokens;
        private final Words words;
        private Script script;
        private int scope;

        SumReader(Tokens tokens, Words words, Script script) {
            this.tokens = tokens;
            this.words = words;
            this.script = script;
        }

        /** The PARTS that are allowed there are told as one bit for each word. */
        void writeTo(Script target, int allowed) {
            script = target;
            scope = allowed;
        }

        int readQuestion(Script target) {
            target.forget();
            writeTo(target, OF_QUESTIONS);
            tokens.start();
            int kind = tokens.kind == Tokens.WORD ? words.find(tokens.value) : NONE;
            if (kind < Words.FIRST) {
                tokens.fail(1, tokens.at);
                return NONE;
            }
            tokens.step();
            target.begin(Script.QUESTION);
            if (kind == Words.FIRST || kind == Words.LAST || kind == Words.OFTEN) {
                readTest(0);
            } else {
                readSum(0);
            }
            target.finish();
            if (tokens.kind != Tokens.END) {
                tokens.fail(1, tokens.at);
            }
            return kind;
        }

        private void readTest(int open) {
            boolean andWaits = false;
            boolean orWaits = false;
            for (int k = 0; k <= MOST_BYTES; k++) {
                readFact(open);
                if (tokens.fault != 0) {
                    return;
                }
                if (andWaits) {
                    script.add(Script.BOTH);
                }
                andWaits = tokens.isWord(Words.AND);
                if (!andWaits) {
                    if (orWaits) {
                        script.add(Script.EITHER);
                    }
                    orWaits = tokens.isWord(Words.OR);
                    if (!orWaits) {
                        return;
                    }
                }
                tokens.step();
            }
        }

        private void readFact(int open) {
            if (tokens.isWord(Words.ALL)) {
                script.add(Script.NUMBER + 1);
                tokens.step();
            } else if (tokens.isWord(Words.NOT)) {
                if (tokens.mayOpen(open)) {
                    tokens.step();
                    readFact(open + 1);
                    script.add(Script.NOT);
                }
            } else if (tokens.isSign('[')) {
                if (tokens.mayOpen(open)) {
                    tokens.step();
                    readTest(open + 1);
                    tokens.passSign(']');
                }
            } else {
                readSum(open);
                int sign = compareSign();
                if (sign == NONE) {
                    tokens.fail(1, tokens.at);
                }
                if (tokens.fault == 0) {
                    tokens.step();
                    readSum(open);
                    script.add(sign);
                }
            }
        }

        private void readSum(int open) {
            int sumWaits = NONE;
            int productWaits = NONE;
            for (int k = 0; k <= MOST_BYTES && tokens.fault == 0; k++) {
                readPart(open);
                if (tokens.fault != 0) {
                    return;
                }
                if (productWaits != NONE) {
                    script.add(productWaits);
                }
                productWaits = productSign();
                if (productWaits == NONE) {
                    if (sumWaits != NONE) {
                        script.add(sumWaits);
                    }
                    sumWaits = sumSign();
                    if (sumWaits == NONE) {
                        return;
                    }
                }
                tokens.step();
            }
        }

        private void readPart(int open) {
            if (tokens.kind == Tokens.NUMBER) {
                int number = tokens.passNumber(0, 9999);
                script.add(Script.NUMBER + Math.max(0, number));
                return;
            }
            int word = tokens.kind == Tokens.WORD ? words.find(tokens.value) : NONE;
            boolean two = word == Words.MIN || word == Words.MAX;
            if (two) {
                tokens.step();
            }
            if (tokens.isSign('(')) {
                if (!tokens.mayOpen(open)) {
                    return;
                }
                tokens.step();
                readSum(open + 1);
                if (two) {
                    tokens.passSign(',');
                    readSum(open + 1);
                    script.add(word == Words.MIN ? Script.LESSER : Script.GREATER);
                }
                tokens.passSign(')');
            } else if (two || word < 0 || word > Words.MEETS || (scope >> word & 1) == 0) {
                tokens.fail(1, tokens.at);
            } else if (word != Words.MEETS) {
                script.add(Script.PART + word);
                tokens.step();
            } else if (tokens.mayOpen(open)) {
                tokens.step();
                readPart(open + 1);
                script.add(Script.MEETS);
            }
        }

        private int compareSign() {
            if (tokens.kind != Tokens.SIGN) {
                return NONE;
            }
            switch (tokens.value) {
                case '<': return Script.BELOW;
                case '>': return Script.ABOVE;
                case '=': return Script.SAME;
                default: return NONE;
            }
        }

        private int sumSign() {
            if (tokens.isSign('+')) {
                return Script.PLUS;
            }
            return tokens.isSign('-') ? Script.MINUS : NONE;
        }

        private int productSign() {
            if (tokens.isSign('*')) {
                return Script.TIMES;
            }
            return tokens.isSign('/') ? Script.OVER : NONE;
        }
    }

    /** Reads a FOLIO, STATEMENT by STATEMENT, up to its first FAULT. */
    private static final class FolioReader {
        private final Tokens tokens;
        private final Words words;
        private final SumReader sums;
        private Folio folio;

        FolioReader(Tokens tokens, Words words, SumReader sums, Folio folio) {
            this.tokens = tokens;
            this.words = words;
            this.sums = sums;
            this.folio = folio;
        }

        void read(Folio target) {
            folio = target;
            folio.forget();
            tokens.start();
            for (int k = 0; k <= MOST_STATEMENTS && tokens.fault == 0; k++) {
                if (tokens.kind == Tokens.END) {
                    break;
                }
                if (k == MOST_STATEMENTS) {
                    tokens.fail(5, tokens.at);
                } else {
                    readStatement(k);
                    folio.script.finish();
                    tokens.passSign(';');
                    folio.statements++;
                }
            }
            if (folio.statements == 0) {
                tokens.fail(1, tokens.at);
            }
        }

        private void readStatement(int k) {
            int word = tokens.kind == Tokens.WORD ? words.find(tokens.value) : NONE;
            if ((k == 0) != (word == Words.FOLIO)) {
                tokens.fail(1, tokens.at);
                return;
            }
            switch (word) {
                case Words.FOLIO:
                    readSize();
                    break;
                case Words.GLOSS:
                    readGloss();
                    break;
                case Words.WORM:
                    readWorm();
                    break;
                case Words.BEING:
                    readBeing();
                    break;
                case Words.OPENS:
                    if (beginRule(Script.OPENS, SumReader.DAY_ALONE)) {
                        sums.readSum(0);
                    }
                    break;
                case Words.CORN:
                    if (beginRule(Script.CORN, SumReader.OF_BEINGS)) {
                        sums.readSum(0);
                    }
                    break;
                case Words.TOLL:
                    if (beginRule(Script.TOLL, SumReader.OF_TOLLS)) {
                        sums.readSum(0);
                    }
                    break;
                case Words.STEPS:
                    if (beginRule(Script.STEPS, SumReader.OF_BEINGS)) {
                        sums.readTest(0);
                    }
                    break;
                case Words.THUMB:
                    tokens.step();
                    folio.thumb = tokens.passNumber(0, 100);
                    break;
                default:
                    tokens.fail(1, tokens.at);
            }
        }

        private boolean beginRule(int slot, int scope) {
            if (!mayBegin(folio.script.isTold(slot) ? 1 : 0, 1)) {
                return false;
            }
            folio.script.begin(slot);
            sums.writeTo(folio.script, scope);
            return true;
        }

        private boolean mayBegin(int told, int most) {
            if (told >= most) {
                tokens.fail(5, tokens.at);
                return false;
            }
            tokens.step();
            return true;
        }

        private void readSize() {
            tokens.step();
            int leaves = tokens.passNumber(1, MOST_LEAVES);
            tokens.passWord(Words.CELLS);
            int cells = tokens.passNumber(2, MOST_CELLS);
            if (tokens.fault == 0) {
                folio.leaves = leaves;
                folio.cells = cells;
            }
        }

        private void readGloss() {
            if (!mayBegin(folio.glosses, MOST_GLOSSES)) {
                return;
            }
            int leaf = tokens.passNumber(0, folio.leaves - 1);
            int cell = readFreeCell(leaf);
            if (tokens.fault == 0) {
                folio.first.writeGloss(leaf, cell);
                folio.glosses++;
            }
        }

        private int readFreeCell(int leaf) {
            int cell = tokens.passNumber(0, folio.cells - 1);
            if (tokens.fault == 0 && !folio.first.isFree(leaf, cell, folio.beings)) {
                tokens.fail(2, tokens.numberAt);
            }
            return cell;
        }

        private void readWorm() {
            if (!mayBegin(folio.worms, MOST_WORMS)) {
                return;
            }
            int one = tokens.passNumber(0, folio.leaves - 1);
            int other = tokens.passNumber(0, folio.leaves - 1);
            if (other == one) {
                tokens.fail(2, tokens.numberAt);
            }
            int cell = tokens.passNumber(0, folio.cells - 1);
            if (tokens.fault == 0) {
                folio.addWorm(one, other, cell);
            }
        }

        private void readBeing() {
            if (!mayBegin(folio.beings, MOST_BEINGS)) {
                return;
            }
            int name = readName();
            tokens.passWord(Words.ON);
            int leaf = tokens.passNumber(0, folio.leaves - 1);
            tokens.passWord(Words.AT);
            int cell = readFreeCell(leaf);
            tokens.passWord(Words.TRADE);
            int trade = tokens.passNumber(0, 9);
            if (tokens.fault == 0) {
                folio.addBeing(name, leaf, cell, trade);
            }
        }

        private int readName() {
            int name = tokens.value;
            if (tokens.kind != Tokens.WORD) {
                tokens.fail(1, tokens.at);
            } else if (tokens.length > Words.LONGEST) {
                tokens.fail(1, tokens.at + Words.LONGEST);
            } else if (isOwnWord(name)) {
                tokens.fail(1, tokens.at);
            } else if (folio.hasName(name)) {
                tokens.fail(3, tokens.at);
            } else {
                tokens.step();
            }
            return name;
        }

        private boolean isOwnWord(int name) {
            int word = words.find(name);
            return word >= 0 && word < Words.OWN;
        }
    }

    /** Reckons what a script tells, by the PARTS that are set. */
    private static final class Reckoner {
        private static final long LIMIT = 1000000L;

        final int[] parts = new int[Words.PARTS];
        final boolean[] meetsWhom = new boolean[MOST_BEINGS];
        private final int[] stack = new int[64];
        private int top;

        int reckon(Script script, int slot) {
            top = 0;
            if (!script.isTold(slot)) {
                return 0;
            }
            int end = Math.min(script.to[slot], script.row.length);
            for (int k = Math.max(0, script.from[slot]); k < end; k++) {
                int step = script.row[k];
                if (step >= Script.NUMBER) {
                    push(step - Script.NUMBER);
                } else if (step >= Script.PART) {
                    push(step - Script.PART < parts.length ? parts[step - Script.PART] : 0);
                } else if (step == Script.NOT || step == Script.MEETS) {
                    changeTop(step);
                } else if (top >= 2 && top <= stack.length) {
                    top--;
                    stack[top - 1] = join(step, stack[top - 1], stack[top]);
                }
            }
            return top > 0 ? stack[top - 1] : 0;
        }

        private void push(int value) {
            if (top < stack.length) {
                stack[top] = value;
                top++;
            }
        }

        private void changeTop(int step) {
            if (top < 1 || top > stack.length) {
                return;
            }
            int value = stack[top - 1];
            boolean holds = step == Script.NOT ? value == 0
                    : value >= 0 && value < meetsWhom.length && meetsWhom[value];
            stack[top - 1] = holds ? 1 : 0;
        }

        private static int join(int step, int left, int right) {
            switch (step) {
                case Script.PLUS: return (int) Math.max(-LIMIT, Math.min(LIMIT, (long) left + right));
                case Script.MINUS: return (int) Math.max(-LIMIT, Math.min(LIMIT, (long) left - right));
                case Script.TIMES: return (int) Math.max(-LIMIT, Math.min(LIMIT, (long) left * right));
                case Script.OVER: return right == 0 ? 0 : Math.floorDiv(left, right);
                case Script.LESSER: return Math.min(left, right);
                case Script.GREATER: return Math.max(left, right);
                case Script.BELOW: return left < right ? 1 : 0;
                case Script.ABOVE: return left > right ? 1 : 0;
                case Script.SAME: return left == right ? 1 : 0;
                case Script.BOTH: return left & right;
                case Script.EITHER: return left | right;
                default: return 0;
            }
        }
    }

    /** What changes by ACTS: the DAY, GLOSSES, where BEINGS stand, purses, meetings. */
    private static final class State {
        final int[] gloss = new int[MOST_LEAVES];
        final int[] leaf = new int[MOST_BEINGS];
        final int[] cell = new int[MOST_BEINGS];
        final int[] purse = new int[MOST_BEINGS];
        final int[] met = new int[MOST_BEINGS];
        final int[] keptRow = new int[MOST_KEPT];
        int keptTotal;
        int day;

        void forget() {
            day = 0;
            keptTotal = 0;
            for (int k = 0; k < gloss.length; k++) {
                gloss[k] = 0;
            }
        }

        void copyAll(State from) {
            copyFolk(from);
            System.arraycopy(from.keptRow, 0, keptRow, 0, MOST_KEPT);
            keptTotal = from.keptTotal;
        }

        /** All but what is KEPT, which no look ahead asks for. */
        void copyFolk(State from) {
            day = from.day;
            System.arraycopy(from.gloss, 0, gloss, 0, MOST_LEAVES);
            System.arraycopy(from.leaf, 0, leaf, 0, MOST_BEINGS);
            System.arraycopy(from.cell, 0, cell, 0, MOST_BEINGS);
            System.arraycopy(from.purse, 0, purse, 0, MOST_BEINGS);
            System.arraycopy(from.met, 0, met, 0, MOST_BEINGS);
        }

        boolean hasGloss(int ofLeaf, int ofCell) {
            return ofLeaf >= 0 && ofLeaf < gloss.length && (gloss[ofLeaf] >> ofCell & 1) == 1;
        }

        void writeGloss(int ofLeaf, int ofCell) {
            if (ofLeaf >= 0 && ofLeaf < gloss.length) {
                gloss[ofLeaf] |= 1 << ofCell;
            }
        }

        int countGlosses() {
            int all = 0;
            for (int k = 0; k < gloss.length; k++) {
                all += Integer.bitCount(gloss[k]);
            }
            return all;
        }

        int whoStands(int ofLeaf, int ofCell, int beings) {
            for (int k = 0; k < beings && k < MOST_BEINGS; k++) {
                if (leaf[k] == ofLeaf && cell[k] == ofCell) {
                    return k;
                }
            }
            return NONE;
        }

        boolean isFree(int ofLeaf, int ofCell, int beings) {
            return !hasGloss(ofLeaf, ofCell) && whoStands(ofLeaf, ofCell, beings) == NONE;
        }

        void addPurse(int being, int many) {
            if (being >= 0 && being < purse.length) {
                purse[being] = Math.max(0, Math.min(FULL, purse[being] + many));
            }
        }

        void keep(int one, int other) {
            keptRow[Math.floorMod(keptTotal, MOST_KEPT)] = day * 64 + one * 8 + other;
            keptTotal++;
        }

        int countKept() {
            return Math.min(MOST_KEPT, keptTotal);
        }

        int keptAt(int k) {
            return keptRow[Math.floorMod(keptTotal - countKept() + k, MOST_KEPT)];
        }

        /** Whether the tape is AN IMAGE of the folio; this state is then as it tells. */
        boolean takeImage(Folio folio, Tape tape) {
            int last = 2 + folio.leaves + 6 * folio.beings;
            if (tape.length != last + 1) {
                return false;
            }
            int sum = Tape.FIRST_CHECK;
            for (int k = 0; k < last; k++) {
                sum = Tape.nextCheck(sum, tape.byteAt(k));
            }
            forget();
            day = tape.pairAt(0);
            if (sum != tape.byteAt(last) || day > LAST_DAY) {
                return false;
            }
            for (int k = 0; k < folio.leaves && k < MOST_LEAVES; k++) {
                gloss[k] = tape.byteAt(2 + k);
                if (gloss[k] >= 1 << folio.cells) {
                    return false;
                }
            }
            for (int k = 0; k < folio.beings && k < MOST_BEINGS; k++) {
                if (!takeBeing(folio, tape, k)) {
                    return false;
                }
            }
            return true;
        }

        private boolean takeBeing(Folio folio, Tape tape, int k) {
            int from = 2 + folio.leaves + 6 * k;
            leaf[k] = tape.byteAt(from);
            cell[k] = tape.byteAt(from + 1);
            purse[k] = tape.pairAt(from + 2);
            met[k] = tape.pairAt(from + 4);
            return leaf[k] < folio.leaves && cell[k] < folio.cells
                    && purse[k] <= FULL && met[k] <= FULL
                    && isFree(leaf[k], cell[k], k);
        }
    }

    /** What a text tells; without leaves it is none. */
    private static final class Folio {
        final int[] wormOne = new int[MOST_WORMS];
        final int[] wormOther = new int[MOST_WORMS];
        final int[] wormCell = new int[MOST_WORMS];
        final int[] names = new int[MOST_BEINGS];
        final int[] trades = new int[MOST_BEINGS];
        final Script script = new Script();
        final State first = new State();
        int statements;
        int leaves;
        int cells;
        int glosses;
        int worms;
        int beings;
        int thumb;

        void forget() {
            statements = 0;
            leaves = 0;
            cells = 0;
            glosses = 0;
            worms = 0;
            beings = 0;
            thumb = 0;
            script.forget();
            first.forget();
        }

        void addWorm(int one, int other, int cell) {
            if (worms < MOST_WORMS) {
                wormOne[worms] = one;
                wormOther[worms] = other;
                wormCell[worms] = cell;
                worms++;
            }
        }

        void addBeing(int name, int leaf, int cell, int trade) {
            if (beings < MOST_BEINGS) {
                names[beings] = name;
                trades[beings] = trade;
                first.leaf[beings] = leaf;
                first.cell[beings] = cell;
                first.purse[beings] = 5;
                first.met[beings] = 0;
                beings++;
            }
        }

        boolean hasName(int name) {
            for (int k = 0; k < beings && k < MOST_BEINGS; k++) {
                if (names[k] == name) {
                    return true;
                }
            }
            return false;
        }

        int mirror(int cell) {
            return cells - 1 - cell;
        }
    }

    /** How leaves lie and what a DAY does. */
    private static final class Book {
        private final Reckoner reckoner = new Reckoner();

        static boolean liesOpen(int opening, int leaf) {
            return leaf == opening - 1 || leaf == opening;
        }

        static boolean liesOnNext(Folio folio, int opening, int leaf) {
            return leaf >= 0 && leaf + 1 < folio.leaves && !liesOpen(opening, leaf);
        }

        static boolean meet(Folio folio, State state, int one, int other, int opening) {
            int ahead = Math.min(state.leaf[one], state.leaf[other]);
            int behind = Math.max(state.leaf[one], state.leaf[other]);
            return behind == ahead + 1 && state.cell[one] == folio.mirror(state.cell[other])
                    && liesOnNext(folio, opening, ahead);
        }

        static int countPairs(Folio folio, State state, int opening) {
            int all = 0;
            for (int one = 0; one < folio.beings; one++) {
                for (int other = one + 1; other < folio.beings; other++) {
                    all += meet(folio, state, one, other, opening) ? 1 : 0;
                }
            }
            return all;
        }

        int openingOf(Folio folio, int day) {
            reckoner.parts[Words.DAY] = day;
            int told = reckoner.reckon(folio.script, Script.OPENS);
            return folio.leaves < 1 ? 0 : Math.floorMod(told, folio.leaves + 1);
        }

        /** How many pairs MET. */
        int passDay(Folio folio, State state, int opening) {
            int all = 0;
            for (int one = 0; one < folio.beings; one++) {
                for (int other = one + 1; other < folio.beings; other++) {
                    if (meet(folio, state, one, other, opening)) {
                        all++;
                        meetUp(folio, state, one, other, opening);
                    }
                }
            }
            for (int k = 0; k < folio.beings; k++) {
                reap(folio, state, k, opening);
            }
            for (int k = 0; k < folio.beings; k++) {
                stepOutward(folio, state, k, opening);
            }
            state.day++;
            return all;
        }

        private void meetUp(Folio folio, State state, int one, int other, int opening) {
            state.met[one] = Math.min(FULL, state.met[one] + 1);
            state.met[other] = Math.min(FULL, state.met[other] + 1);
            state.keep(one, other);
            int toll = 1;
            if (folio.script.isTold(Script.TOLL)) {
                setParts(folio, state, one, opening);
                reckoner.parts[Words.OTHER] = folio.trades[other];
                toll = reckoner.reckon(folio.script, Script.TOLL);
            }
            int payer = toll < 0 ? other : one;
            int payee = toll < 0 ? one : other;
            int paid = Math.min(Math.abs(toll), state.purse[payer]);
            state.addPurse(payer, -paid);
            state.addPurse(payee, paid);
        }

        private void reap(Folio folio, State state, int being, int opening) {
            int corn = state.cell[being];
            if (folio.script.isTold(Script.CORN)) {
                setParts(folio, state, being, opening);
                corn = reckoner.reckon(folio.script, Script.CORN);
            }
            state.addPurse(being, Math.max(-99, Math.min(99, corn)));
        }

        private void stepOutward(Folio folio, State state, int being, int opening) {
            int out = state.cell[being] + 1;
            if (out >= folio.cells || !state.isFree(state.leaf[being], out, folio.beings)) {
                return;
            }
            setParts(folio, state, being, opening);
            if (reckoner.reckon(folio.script, Script.STEPS) != 0) {
                state.cell[being] = out;
            }
        }

        private void setParts(Folio folio, State state, int being, int opening) {
            int[] parts = reckoner.parts;
            parts[Words.DAY] = state.day;
            parts[Words.LEAF] = state.leaf[being];
            parts[Words.CELL] = state.cell[being];
            parts[Words.TRADE] = folio.trades[being];
            parts[Words.PURSE] = state.purse[being];
            parts[Words.OPEN] = liesOpen(opening, state.leaf[being]) ? 1 : 0;
        }

        /** What a QUESTION's TEST or SUM gives of a BEING. */
        int reckonOf(Script question, Folio folio, State state, int being, int opening) {
            setParts(folio, state, being, opening);
            reckoner.parts[Words.NUMBER] = being;
            reckoner.parts[Words.MET] = state.met[being];
            for (int k = 0; k < MOST_BEINGS; k++) {
                reckoner.meetsWhom[k] = k < folio.beings && k != being
                        && meet(folio, state, being, k, opening);
            }
            return reckoner.reckon(question, Script.QUESTION);
        }
    }

    /** Looks ahead and tries what could be; the state that it is given stays. */
    private static final class Seeker {
        private static final int MORE_THAN_MEET = 1000;

        private final Book book;
        private final State[] trials = new State[MOST_READING];
        private final State trial = new State();
        private final int[] row = new int[MOST_READING];
        private final int[] bestRow = new int[MOST_READING];
        private final int[] reached = new int[MOST_LEAVES];
        private final int[] fresh = new int[MOST_LEAVES];
        private final int[] cellThen = new int[(MOST_LEAVES + 1) * MOST_BEINGS];
        private final int[] seenBeing = new int[MOST_SEEN];
        private final int[] seenCell = new int[MOST_SEEN];
        private int bestMet;
        int seenCount;

        Seeker(Book book) {
            this.book = book;
            for (int k = 0; k < trials.length; k++) {
                trials[k] = new State();
            }
        }

        int findApart(Folio folio, State state) {
            int best = 0;
            int fewest = Book.countPairs(folio, state, 0);
            for (int opening = 1; opening <= folio.leaves; opening++) {
                int pairs = Book.countPairs(folio, state, opening);
                if (pairs < fewest) {
                    fewest = pairs;
                    best = opening;
                }
            }
            return best;
        }

        int findReading(Folio folio, State state, int n, int k) {
            bestMet = MORE_THAN_MEET;
            tryReadings(folio, state, n, 0, 0);
            return k >= 0 && k < bestRow.length ? bestRow[k] : bestMet;
        }

        private void tryReadings(Folio folio, State state, int n, int depth, int met) {
            if (depth < 0 || depth >= MOST_READING) {
                return;
            }
            for (int opening = 0; opening <= folio.leaves && bestMet > 0; opening++) {
                int all = met + Book.countPairs(folio, state, opening);
                // a row that only equals the best one so far is not the first of like ones
                if (all < bestMet) {
                    row[depth] = opening;
                    if (depth + 1 >= n) {
                        bestMet = all;
                        System.arraycopy(row, 0, bestRow, 0, MOST_READING);
                    } else {
                        State next = trials[depth];
                        next.copyFolk(state);
                        book.passDay(folio, next, opening);
                        tryReadings(folio, next, n, depth + 1, all);
                    }
                }
            }
        }

        /** The state n DAYS on, in which met counts only these DAYS. */
        State lookAhead(Folio folio, State state, int n) {
            trial.copyFolk(state);
            for (int k = 0; k < MOST_BEINGS; k++) {
                trial.met[k] = 0;
            }
            for (int k = 0; k < n; k++) {
                book.passDay(folio, trial, book.openingOf(folio, trial.day));
            }
            return trial;
        }

        int findWay(Folio folio, State state, int being, int leaf, int cell) {
            for (int k = 0; k < MOST_LEAVES; k++) {
                reached[k] = 0;
            }
            reached[state.leaf[being]] = 1 << state.cell[being];
            for (int days = 0; days <= MOST_WAY && state.day + days <= LAST_DAY; days++) {
                if ((reached[leaf] >> cell & 1) == 1) {
                    return days;
                }
                spread(folio, state, book.openingOf(folio, state.day + days));
            }
            return NONE;
        }

        /** From the CELLS reached so far to those a DAY on. */
        private void spread(Folio folio, State state, int opening) {
            for (int leaf = 0; leaf < folio.leaves; leaf++) {
                int here = reached[leaf];
                fresh[leaf] = here | here << 1 | here >> 1;
                if (Book.liesOnNext(folio, opening, leaf)) {
                    fresh[leaf] |= mirrorBits(folio, reached[leaf + 1]);
                }
                if (Book.liesOnNext(folio, opening, leaf - 1)) {
                    fresh[leaf] |= mirrorBits(folio, reached[leaf - 1]);
                }
            }
            for (int worm = 0; worm < folio.worms; worm++) {
                int one = folio.wormOne[worm];
                int other = folio.wormOther[worm];
                int bit = 1 << folio.wormCell[worm];
                // a hole is open at both of its ends
                fresh[other] |= reached[one] & bit;
                fresh[one] |= reached[other] & bit;
            }
            int all = (1 << folio.cells) - 1;
            for (int leaf = 0; leaf < folio.leaves; leaf++) {
                reached[leaf] = fresh[leaf] & all & ~state.gloss[leaf];
            }
        }

        private static int mirrorBits(Folio folio, int bits) {
            int all = 0;
            for (int cell = 0; cell < folio.cells; cell++) {
                all |= (bits >> cell & 1) << folio.mirror(cell);
            }
            return all;
        }

        boolean takeSeen(Folio folio, Tape tape) {
            if (tape.length < 2 || tape.length > 2 * MOST_SEEN || tape.length % 2 != 0) {
                return false;
            }
            for (int k = 0; k < tape.length; k += 2) {
                if (tape.byteAt(k) >= folio.beings || tape.byteAt(k + 1) >= folio.cells) {
                    return false;
                }
            }
            seenCount = tape.length / 2;
            for (int k = 0; k < seenCount && k < MOST_SEEN; k++) {
                seenBeing[k] = tape.byteAt(2 * k);
                seenCell[k] = tape.byteAt(2 * k + 1);
            }
            return true;
        }

        /** OPENINGS by what is SEEN, as bits; cellThen is where each BEING stands by them. */
        int findOpenings(Folio folio, State state) {
            int bits = 0;
            for (int opening = 0; opening <= folio.leaves; opening++) {
                trial.copyFolk(state);
                book.passDay(folio, trial, opening);
                System.arraycopy(trial.cell, 0, cellThen, opening * MOST_BEINGS, MOST_BEINGS);
                if (isAsSeen(trial)) {
                    bits |= 1 << opening;
                }
            }
            return bits;
        }

        private boolean isAsSeen(State then) {
            for (int k = 0; k < seenCount && k < MOST_SEEN; k++) {
                if (then.cell[seenBeing[k]] != seenCell[k]) {
                    return false;
                }
            }
            return true;
        }

        int askAfter(Folio folio, State state, int what) {
            int bits = findOpenings(folio, state);
            if (bits == 0) {
                return NONE;
            }
            int best = NONE;
            int fewest = NONE;
            for (int being = 0; being < folio.beings; being++) {
                int left = mostLeft(folio, being, bits);
                if (best == NONE || left < fewest) {
                    best = being;
                    fewest = left;
                }
            }
            return what == 0 ? best : fewest;
        }

        private int mostLeft(Folio folio, int being, int bits) {
            int most = 0;
            for (int cell = 0; cell < folio.cells; cell++) {
                int left = 0;
                for (int opening = 0; opening <= folio.leaves; opening++) {
                    if ((bits >> opening & 1) == 1
                            && cellThen[opening * MOST_BEINGS + being] == cell) {
                        left++;
                    }
                }
                most = Math.max(most, left);
            }
            return most;
        }

        /** All go inward, so the fewest CELLS are those to the outermost free ones. */
        int findTrim(Folio folio, State state, int leaf, int many) {
            int left = folio.cells - many;
            int free = left - 1;
            int gone = 0;
            for (int cell = left; cell < folio.cells; cell++) {
                if (state.whoStands(leaf, cell, folio.beings) != NONE) {
                    while (free >= 0 && !state.isFree(leaf, free, folio.beings)) {
                        free--;
                    }
                    if (free < 0) {
                        return NONE;
                    }
                    gone += cell - free;
                    free--;
                }
            }
            return gone;
        }
    }
}
