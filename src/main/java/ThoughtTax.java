import java.util.Arrays;
import java.util.NoSuchElementException;

/** A tax on what is thought; the document's promises say what each call answers and changes. */
public final class ThoughtTax {
    public static final int NONE = -1;

    private static final int REFUSED = -2;
    private static final int MOST_PEOPLE = 6;
    private static final int MOST_THOUGHTS = 12;
    private static final int MOST_READERS = 4;
    private static final int MOST_DULL = 9;
    private static final int LAST_WEEK = 9900;
    private static final int LONGEST = 99;
    private static final int LONGEST_SEARCH = 40;

    // What a value, an ERROR and a law that isn't told are told apart by: no VALUE is as low.
    private static final long NO_VALUE = Long.MIN_VALUE;
    private static final int READ_LAW = 0;
    private static final int DUE_LAW = 1;
    private static final int HIDE_LAW = 2;
    private static final int LAW_COUNT = 3;

    private static final int TO_COME = 0;
    private static final int HELD = 1;
    private static final int GONE = 2;

    // The words of the language by their numbers in WORDS, those that are asked for.
    private static final int WORD_MAN = 0;
    private static final int WORD_THOUGHT = 1;
    private static final int WORD_READER = 2;
    private static final int WORD_RATE = 3;
    private static final int WORD_DULL = 4;
    private static final int WORD_SEED = 5;
    private static final int WORD_LAW = 6;
    private static final int WORD_READ = 7;
    private static final int WORD_HIDE = 9;
    private static final int WORD_OR = 10;
    private static final int WORD_AND = 11;
    private static final int WORD_NOT = 12;
    private static final int WORD_WORTH = 13;
    private static final int WORD_WEEK = 19;

    private static final int NO_FAULT = 0;
    private static final int BAD_TOKEN = 1;
    private static final int TOO_MUCH = 2;
    private static final int TOLD_ALREADY = 3;
    private static final int NOT_TOLD = 4;

    // KNOTS and signs; the order is the one in which RANKS tells how strongly they bind.
    private static final int KNOT_NUMBER = 0;
    private static final int KNOT_NAME = 1;
    private static final int OR = 2;
    private static final int AND = 3;
    private static final int NOT = 4;
    private static final int LESS = 5;
    private static final int AT_MOST = 6;
    private static final int EQUAL = 7;
    private static final int UNLIKE = 8;
    private static final int AT_LEAST = 9;
    private static final int MORE = 10;
    private static final int PLUS = 11;
    private static final int MINUS = 12;
    private static final int TIMES = 13;
    private static final int BY = 14;
    private static final int OPEN = 15;
    private static final int CLOSE = 16;
    private static final int STOP = 17;

    private final Tape tape = new Tape();
    private Book book = new Book();
    // A TEXT is told into this one, so that all stays if it has a FAULT.
    private Book spare = new Book();
    private final TextReader textReader = new TextReader(tape, spare);
    private final World now = new World(book);
    private final World image = new World(book);
    private final Trials trials = new Trials(book);
    private final Deeds deeds = new Deeds();
    private final Finds finds = new Finds();
    private final Game game = new Game();
    private boolean hasImage;

    public ThoughtTax() {
        now.begin(book);
    }

    public int feed(int a, int b, int c, int d, int e) {
        if (!tape.hasRoom(20)) {
            return NONE;
        }
        tape.add(a);
        tape.add(b);
        tape.add(c);
        tape.add(d);
        tape.add(e);
        return tape.length;
    }

    public int text(int n) {
        if (n < 0 || n > tape.length) {
            return REFUSED;
        }
        boolean isTold = textReader.tell(n, spare);
        tape.length = 0;
        if (!isTold) {
            return NONE;
        }
        Book former = book;
        book = spare;
        spare = former;
        now.begin(book);
        finds.clear();
        deeds.clear();
        hasImage = false;
        return book.lines;
    }

    public int fault(int what) {
        switch (what) {
            case 0: return textReader.fault;
            case 1: return textReader.place;
            default: return NONE;
        }
    }

    public int named(int what, int letters) {
        switch (what) {
            case 0: return book.manNamed(letters);
            case 1: return book.readerNamed(letters);
            default: return NONE;
        }
    }

    public int thought(int thought, int what) throws IndexOutOfBoundsException, NoSuchElementException {
        if (!book.isThought(thought)) {
            throw new IndexOutOfBoundsException("no such thought");
        }
        switch (what) {
            case 0: return book.owners[thought];
            case 1: return book.worths[thought];
            case 2: return book.weeks[thought];
            case 3: return book.tongues[thought];
            case 4: return now.states[thought];
            case 5: return now.holders[thought];
            case 6: return now.wasRead[thought];
            default: throw new NoSuchElementException("no such what");
        }
    }

    public int man(int man, int what) {
        if (!book.isMan(man)) {
            return NONE;
        }
        switch (what) {
            case 0: return now.purses[man];
            case 1: return now.wiles[man];
            case 2: return now.paid[man];
            case 3: return now.owed[man];
            case 4: return now.dull[man];
            case 5: return now.rounds[man];
            default: return NONE;
        }
    }

    public int reader(int reader, int what) {
        if (!book.isReader(reader)) {
            return NONE;
        }
        switch (what) {
            case 0: return now.skills[reader];
            case 1: return now.tongues[reader];
            default: return NONE;
        }
    }

    public long law(int what, int which) {
        switch (what) {
            case READ_LAW: return now.readLawNow(which);
            case DUE_LAW: return now.dueLawNow(which);
            case HIDE_LAW: return now.hideLawNow(which);
            default: return NO_VALUE;
        }
    }

    public boolean hide(int thought, int man) {
        if (!now.isHeld(thought) || !book.isMan(man) || now.holders[thought] == man) {
            return false;
        }
        deeds.note(Deeds.HIDING, thought, now.holders[thought]);
        now.holders[thought] = man;
        return true;
    }

    public int buy(int man, int many) {
        if (!book.isMan(man) || many < 1 || many > MOST_DULL || now.dull[man] + many > MOST_DULL) {
            return NONE;
        }
        int cost = many * book.dullCost;
        if (now.purses[man] < cost) {
            return REFUSED;
        }
        deeds.note(Deeds.BUYING, man, many);
        now.purses[man] -= cost;
        now.dull[man] += many;
        return now.dull[man];
    }

    public boolean round(int man, int reader) {
        if (!book.isMan(man) || !book.isReader(reader) || now.rounds[man] == reader) {
            return false;
        }
        deeds.note(Deeds.ROUND, man, now.rounds[man]);
        now.rounds[man] = reader;
        return true;
    }

    public boolean rate(int rate) {
        if (rate < 0 || rate > 100 || now.rate == rate) {
            return false;
        }
        deeds.note(Deeds.RATE, 0, now.rate);
        now.rate = rate;
        return true;
    }

    public int weeks(int n) {
        if (n < 0 || n > LONGEST || now.week + n > LAST_WEEK) {
            return NONE;
        }
        now.goWeeks(n, true);
        if (n > 0) {
            deeds.clear();
        }
        return now.week;
    }

    public int ahead(int n, int what) {
        if (n < 0 || n > LONGEST || what < 0 || what > 3) {
            return NONE;
        }
        return trials.comes(now, n, what);
    }

    public int likely(int thought) {
        if (!book.isThought(thought)) {
            return NONE;
        }
        if (!now.isHeld(thought)) {
            return REFUSED;
        }
        int reader = now.readerOf(thought);
        return now.knowsTongue(reader, thought) ? now.readOf(thought, reader) : 0;
    }

    public int bestRound(int what) {
        if (what < 0 || what > 4 || book.readers == 0) {
            return NONE;
        }
        if (what < 4 && what >= book.people) {
            return REFUSED;
        }
        return trials.roundOfMost(now, what);
    }

    public int hideIn(int thought, int what) {
        if (!book.isThought(thought) || what < 0 || what > 1) {
            return NONE;
        }
        if (!now.isHeld(thought)) {
            return REFUSED;
        }
        return trials.holderOfLeast(now, thought, what);
    }

    public int bestRate(int n, int what) {
        if (n < 1 || n > LONGEST_SEARCH || what < 0 || what > 1) {
            return NONE;
        }
        return trials.rateOfMost(now, n, what);
    }

    public int worthless() {
        return trials.dearThoughts(now);
    }

    public int share(int one, int other, int what) {
        if (!book.isThought(one) || !book.isThought(other) || what < 0 || what > 1) {
            return NONE;
        }
        if (book.owners[one] == book.owners[other]) {
            return NONE;
        }
        return book.shareOf(one, other, now.rate, what);
    }

    public int chain(int readers) {
        if (readers < 0 || readers >= 1 << book.readers) {
            return NONE;
        }
        return now.chainOf(readers);
    }

    public int rests() {
        game.play(now.heldWorth(), now.rate);
        return game.rests;
    }

    public int rest(int k) {
        if (k < 0) {
            return NONE;
        }
        game.play(now.heldWorth(), now.rate);
        return game.restAt(k);
    }

    public int first() {
        if (book.people == 0) {
            return NONE;
        }
        return now.richestDoor();
    }

    public int farthing(int worth) {
        if (worth < 1 || worth > 99) {
            return NONE;
        }
        return (100 + worth - 1) / worth;
    }

    public int enough(int man) {
        if (!book.isMan(man)) {
            return NONE;
        }
        return trials.dullEnough(now, man);
    }

    public int vote(int n, int rate, int what) {
        if (n < 1 || n > LONGEST_SEARCH || rate < 0 || rate > 100 || what < 0 || what > 1) {
            return NONE;
        }
        return trials.votes(now, n, rate, what);
    }

    public int whose(int worth, int tongue) {
        if (worth < 1 || worth > 99 || tongue < 0 || tongue > 3) {
            return NONE;
        }
        return now.holdersOf(worth, tongue);
    }

    public int debtor() {
        int most = now.greatest(now.owed);
        return most != NONE && now.owed[most] > 0 ? most : REFUSED;
    }

    public int nextRead(int thought) {
        if (!book.isThought(thought)) {
            return NONE;
        }
        return trials.weeksToReading(now, thought);
    }

    public int richest(int n) {
        if (n < 0 || n > LONGEST) {
            return NONE;
        }
        return trials.richestIn(now, n);
    }

    public int holds(int man) {
        if (!book.isMan(man)) {
            return NONE;
        }
        return now.heldBits(man);
    }

    public int hidden() {
        return now.hiddenBits();
    }

    public int find(int weeks, int thought, boolean isRead) {
        if (weeks < 1 || weeks > LONGEST_SEARCH || !book.isThought(thought) || !finds.hasRoom()) {
            return NONE;
        }
        return finds.noteReading(weeks, thought, isRead);
    }

    public int strike(int found) {
        if (found < 0 || found >= finds.size || !finds.hasRoom()) {
            return NONE;
        }
        return finds.noteStrike(found);
    }

    public boolean known(int n) {
        if (n < NONE || n > finds.size) {
            return false;
        }
        finds.limit = n;
        return true;
    }

    public int skills(int reader) {
        if (!book.isReader(reader)) {
            return NONE;
        }
        return trials.skillsBy(finds, book, reader);
    }

    public int chance(int seed, int n, int paid) {
        if (seed < 0 || n < 1 || n > LONGEST || paid < 0 || paid > 999) {
            return NONE;
        }
        return trials.timesPaid(now, seed, n, paid);
    }

    public int tried(int what, int i, int n) {
        if (what < 0 || what > 4 || n < 0 || n > LONGEST) {
            return NONE;
        }
        if (what == Trials.NO_THINKING ? !book.isMan(i) : i != 0) {
            return NONE;
        }
        return trials.paidIf(now, what, i, n);
    }

    public int undo() {
        if (deeds.size == 0) {
            return NONE;
        }
        deeds.undoLatest(now);
        return deeds.size;
    }

    public int keep() {
        image.copy(now);
        hasImage = true;
        return now.week;
    }

    public int back() {
        if (!hasImage) {
            return NONE;
        }
        now.copy(image);
        deeds.clear();
        return now.week;
    }

    public int count(int what) {
        switch (what) {
            case 0: return book.people;
            case 1: return book.thoughts;
            case 2: return book.readers;
            case 3: return book.laws.size;
            case 4: return now.week;
            case 5: return now.rate;
            case 6: return now.countOf(HELD);
            case 7: return now.countOf(GONE);
            case 8: return now.sum(now.paid);
            case 9: return now.sum(now.owed);
            case 10: return finds.size;
            case 11: return finds.knownBy();
            case 12: return deeds.size;
            default: return NONE;
        }
    }

    /** The bytes that were fed since the latest TEXT. */
    private static final class Tape {
        private static final int MOST = 700;
        private final byte[] bytes = new byte[MOST];
        private int length;

        private boolean hasRoom(int many) {
            return length + many <= MOST;
        }

        private void add(int number) {
            for (int shift = 24; shift >= 0; shift -= 8) {
                if (length >= 0 && length < MOST) {
                    bytes[length] = (byte) (number >> shift);
                    length++;
                }
            }
        }
    }

    /** The TOKENS of a TEXT, one at a time. */
    private static final class Tokens {
        private static final int END = 0;
        private static final int BAD = 1;
        private static final int NUMBER = 2;
        private static final int NAME = 3;
        private static final int WORD = 4;
        private static final int SIGN = 5;

        private static final int LONGEST_WORD = 7;
        private static final int LONGEST_NAME = 6;
        // The words of the language in the order of their numbers, each by its letters' bytes.
        private static final long[] WORDS = {
            0x6d616eL, 0x74686f75676874L, 0x726561646572L, 0x72617465L,
            0x64756c6cL, 0x73656564L, 0x6c6177L, 0x72656164L,
            0x647565L, 0x68696465L, 0x6f72L, 0x616e64L,
            0x6e6f74L, 0x776f727468L, 0x736b696c6cL, 0x7075727365L,
            0x77696c6573L, 0x64756c6c6564L, 0x7468657265L, 0x7765656bL
        };
        // Above every number that is allowed, so that digits without end don't overflow.
        private static final int BEYOND = 1000000;

        private final Tape tape;
        private int end;
        private int next;
        private int place;
        private int kind;
        // The number, the letters of a name, the number of a word or of a sign.
        private int value;

        private Tokens(Tape tape) {
            this.tape = tape;
        }

        private void start(int length) {
            end = length;
            next = 0;
            advance();
        }

        private boolean isWord(int word) {
            return kind == WORD && value == word;
        }

        private boolean isSign(int sign) {
            return kind == SIGN && value == sign;
        }

        private void advance() {
            while (next < end && (signAt(next) == 10 || signAt(next) == 32)) {
                next++;
            }
            place = next;
            int sign = signAt(next);
            if (next >= end) {
                kind = END;
            } else if (isLetter(sign)) {
                takeWord();
            } else if (isDigit(sign)) {
                takeNumber();
            } else {
                takeSign(sign);
            }
        }

        private int signAt(int index) {
            return index >= 0 && index < end && index < Tape.MOST ? tape.bytes[index] : 0;
        }

        private static boolean isLetter(int sign) {
            return sign >= 'a' && sign <= 'z';
        }

        private static boolean isDigit(int sign) {
            return sign >= '0' && sign <= '9';
        }

        private void takeNumber() {
            kind = NUMBER;
            value = 0;
            while (next < end && isDigit(signAt(next))) {
                if (value < BEYOND) {
                    value = value * 10 + signAt(next) - '0';
                }
                next++;
            }
        }

        private void takeWord() {
            long code = 0;
            int letters = 0;
            while (next < end && isLetter(signAt(next))) {
                code = code << 8 | signAt(next);
                letters = letters << 5 | signAt(next) - 'a' + 1;
                next++;
            }
            int length = next - place;
            int word = length <= LONGEST_WORD ? wordOf(code) : NONE;
            if (word != NONE) {
                kind = WORD;
                value = word;
            } else if (length <= LONGEST_NAME) {
                kind = NAME;
                value = letters << 5 * (LONGEST_NAME - length);
            } else {
                kind = BAD;
            }
        }

        private static int wordOf(long code) {
            for (int word = 0; word < WORDS.length; word++) {
                if (WORDS[word] == code) {
                    return word;
                }
            }
            return NONE;
        }

        private void takeSign(int sign) {
            int behind = signAt(next + 1);
            kind = SIGN;
            next++;
            switch (sign) {
                case ';': value = STOP; break;
                case '(': value = OPEN; break;
                case ')': value = CLOSE; break;
                case '+': value = PLUS; break;
                case '-': value = MINUS; break;
                case '*': value = TIMES; break;
                case '/': value = BY; break;
                case '=': value = EQUAL; break;
                case '<': value = behind == '=' ? AT_MOST : behind == '>' ? UNLIKE : LESS; break;
                case '>': value = behind == '=' ? AT_LEAST : MORE; break;
                default: kind = BAD; break;
            }
            if (kind == SIGN && (value == AT_MOST || value == UNLIKE || value == AT_LEAST)) {
                next++;
            }
        }
    }

    /** What a TEXT tells. */
    private static final class Book {
        private int lines;
        private int people;
        private final int[] manNames = new int[MOST_PEOPLE];
        private final int[] purses = new int[MOST_PEOPLE];
        private final int[] wiles = new int[MOST_PEOPLE];
        private int thoughts;
        private final int[] owners = new int[MOST_THOUGHTS];
        private final int[] worths = new int[MOST_THOUGHTS];
        private final int[] weeks = new int[MOST_THOUGHTS];
        private final int[] tongues = new int[MOST_THOUGHTS];
        private int readers;
        private final int[] readerNames = new int[MOST_READERS];
        private final int[] skills = new int[MOST_READERS];
        private final int[] readerTongues = new int[MOST_READERS];
        private int rate = 20;
        private int dullCost = 5;
        private int seed;
        private final Laws laws = new Laws();

        private void clear() {
            lines = 0;
            people = 0;
            thoughts = 0;
            readers = 0;
            rate = 20;
            dullCost = 5;
            seed = 0;
            laws.clear();
        }

        private boolean isMan(int man) {
            return man >= 0 && man < people && man < MOST_PEOPLE;
        }

        private boolean isThought(int thought) {
            return thought >= 0 && thought < thoughts && thought < MOST_THOUGHTS;
        }

        private boolean isReader(int reader) {
            return reader >= 0 && reader < readers && reader < MOST_READERS;
        }

        private int manNamed(int letters) {
            return placeOf(manNames, people, letters);
        }

        private int readerNamed(int letters) {
            return placeOf(readerNames, readers, letters);
        }

        private static int placeOf(int[] names, int size, int letters) {
            for (int i = 0; i < size && i < names.length; i++) {
                if (names[i] == letters) {
                    return i;
                }
            }
            return NONE;
        }

        private int shareOf(int one, int other, int rate, int what) {
            if (!isThought(one) || !isThought(other)) {
                return NONE;
            }
            int due = Math.max(worths[one], worths[other]) * rate / 100;
            int both = worths[one] + worths[other];
            int ofOne = both > 0 ? due * worths[one] / both : 0;
            return what == 0 ? ofOne : due - ofOne;
        }
    }

    /** The E of all laws, each as a row of KNOTS in which what is worked on stands ahead of its sign. */
    private static final class Laws {
        private static final int MOST_KNOTS = 64;
        private static final long GREATEST = 1000000000000L;

        private final int[] kinds = new int[MOST_KNOTS];
        private final int[] values = new int[MOST_KNOTS];
        private final int[] from = {NONE, NONE, NONE};
        private final int[] to = new int[LAW_COUNT];
        private final long[] stack = new long[MOST_KNOTS];
        private int size;

        private void clear() {
            size = 0;
            Arrays.fill(from, NONE);
        }

        private boolean isTold(int law) {
            return law >= 0 && law < LAW_COUNT && from[law] != NONE;
        }

        private void open(int law) {
            if (law >= 0 && law < LAW_COUNT) {
                from[law] = size;
                to[law] = size;
            }
        }

        private void close(int law) {
            if (law >= 0 && law < LAW_COUNT) {
                to[law] = size;
            }
        }

        private void add(int kind, int value) {
            if (size >= 0 && size < MOST_KNOTS) {
                kinds[size] = kind;
                values[size] = value;
                size++;
            }
        }

        /** NO_VALUE: an ERROR, or the law isn't told. */
        private long work(int law, long[] names) {
            if (!isTold(law)) {
                return NO_VALUE;
            }
            int depth = 0;
            for (int i = Math.max(0, from[law]); i < to[law] && i < MOST_KNOTS; i++) {
                long worked;
                if (kinds[i] == KNOT_NUMBER) {
                    worked = values[i];
                } else if (kinds[i] == KNOT_NAME) {
                    worked = values[i] >= 0 && values[i] < names.length ? names[values[i]] : 0;
                } else if (kinds[i] == NOT) {
                    depth--;
                    worked = at(depth) == 0 ? 1 : 0;
                } else {
                    depth -= 2;
                    worked = kinds[i] == TIMES ? product(at(depth), at(depth + 1)) : join(kinds[i], at(depth), at(depth + 1));
                }
                if (worked > GREATEST || worked < -GREATEST || depth < 0 || depth >= MOST_KNOTS) {
                    return NO_VALUE;
                }
                stack[depth] = worked;
                depth++;
            }
            return at(depth - 1);
        }

        private long at(int depth) {
            return depth >= 0 && depth < MOST_KNOTS ? stack[depth] : NO_VALUE;
        }

        private static long join(int kind, long left, long right) {
            switch (kind) {
                case OR: return left != 0 || right != 0 ? 1 : 0;
                case AND: return left != 0 && right != 0 ? 1 : 0;
                case LESS: return left < right ? 1 : 0;
                case AT_MOST: return left <= right ? 1 : 0;
                case EQUAL: return left == right ? 1 : 0;
                case UNLIKE: return left != right ? 1 : 0;
                case AT_LEAST: return left >= right ? 1 : 0;
                case MORE: return left > right ? 1 : 0;
                case PLUS: return left + right;
                case MINUS: return left - right;
                case BY: return right == 0 ? NO_VALUE : left / right;
                default: return NO_VALUE;
            }
        }

        // Looked at ahead of multiplying: the product of two VALUES may be more than a long holds.
        private static long product(long left, long right) {
            long most = left == 0 ? GREATEST : GREATEST / left;
            long fits = most < 0 ? -most : most;
            return right > fits || right < -fits ? NO_VALUE : left * right;
        }
    }

    /** Reads one E; signs wait in a row until what they work on has come. */
    private static final class LawReader {
        private static final int MOST_OPEN = 8;
        private static final int MOST_WAITING = Laws.MOST_KNOTS + MOST_OPEN;
        private static final int GREATEST_NUMBER = 9999;
        private static final int[] RANKS = {0, 0, 1, 2, 3, 4, 4, 4, 4, 4, 4, 5, 5, 6, 6};

        private final Tokens tokens;
        private final int[] waiting = new int[MOST_WAITING];
        private int waitingSize;
        // A C has one comparison at most: whether it was there already, by how many '(' are open.
        private final boolean[] isCompared = new boolean[MOST_OPEN + 1];
        private int open;
        private int knots;
        private boolean wantsOperand;
        private boolean mayNegate;
        private Laws laws;

        private LawReader(Tokens tokens, Laws laws) {
            this.tokens = tokens;
            this.laws = laws;
        }

        /** Answers the FAULT, or NO_FAULT with the token behind E being the current one. */
        private int read(Laws told, int law) {
            laws = told;
            laws.open(law);
            waitingSize = 0;
            open = 0;
            knots = laws.size;
            expectOperand(true);
            isCompared[0] = false;
            for (int i = 0; i <= Tape.MOST; i++) {
                if (!wantsOperand && open == 0 && tokens.isSign(STOP)) {
                    release(0);
                    laws.close(law);
                    return NO_FAULT;
                }
                int fault = wantsOperand ? takeOperand() : tokens.isSign(CLOSE) ? takeClosing() : takeOperator();
                if (fault != NO_FAULT) {
                    return fault;
                }
                tokens.advance();
            }
            return BAD_TOKEN;
        }

        private void expectOperand(boolean negation) {
            wantsOperand = true;
            mayNegate = negation;
        }

        private int takeOperand() {
            if (tokens.isSign(OPEN)) {
                return takeOpening();
            }
            if (tokens.isWord(WORD_NOT)) {
                return mayNegate ? takeNegation() : BAD_TOKEN;
            }
            boolean isNumber = tokens.kind == Tokens.NUMBER;
            boolean isName = tokens.kind == Tokens.WORD && tokens.value >= WORD_WORTH && tokens.value <= WORD_WEEK;
            if (!isNumber && !isName) {
                return BAD_TOKEN;
            }
            if (knots >= Laws.MOST_KNOTS || isNumber && tokens.value > GREATEST_NUMBER) {
                return TOO_MUCH;
            }
            knots++;
            laws.add(isNumber ? KNOT_NUMBER : KNOT_NAME, isNumber ? tokens.value : tokens.value - WORD_WORTH);
            wantsOperand = false;
            return NO_FAULT;
        }

        private int takeOpening() {
            if (open >= MOST_OPEN) {
                return TOO_MUCH;
            }
            open++;
            if (open >= 0 && open < isCompared.length) {
                isCompared[open] = false;
            }
            push(OPEN);
            expectOperand(true);
            return NO_FAULT;
        }

        private int takeNegation() {
            if (knots >= Laws.MOST_KNOTS) {
                return TOO_MUCH;
            }
            knots++;
            push(NOT);
            return NO_FAULT;
        }

        private int takeOperator() {
            int sign = operator();
            boolean compares = sign >= LESS && sign <= MORE;
            if (sign == NONE || open < 0 || open >= isCompared.length || compares && isCompared[open]) {
                return BAD_TOKEN;
            }
            if (knots >= Laws.MOST_KNOTS) {
                return TOO_MUCH;
            }
            knots++;
            boolean joins = sign == AND || sign == OR;
            isCompared[open] = !joins && (compares || isCompared[open]);
            release(rankOf(sign));
            push(sign);
            expectOperand(joins);
            return NO_FAULT;
        }

        private int takeClosing() {
            if (open == 0) {
                return BAD_TOKEN;
            }
            release(1);
            waitingSize--;
            open--;
            return NO_FAULT;
        }

        private int operator() {
            if (tokens.isWord(WORD_AND)) {
                return AND;
            }
            if (tokens.isWord(WORD_OR)) {
                return OR;
            }
            return tokens.kind == Tokens.SIGN && tokens.value <= BY ? tokens.value : NONE;
        }

        private static int rankOf(int sign) {
            return sign >= 0 && sign < RANKS.length ? RANKS[sign] : 0;
        }

        private void push(int sign) {
            if (waitingSize >= 0 && waitingSize < MOST_WAITING) {
                waiting[waitingSize] = sign;
                waitingSize++;
            }
        }

        // '(' has rank 0: it is left waiting by every rank but 0, with which none is open any more.
        private void release(int rank) {
            while (waitingSize > 0 && waitingSize <= MOST_WAITING && rankOf(waiting[waitingSize - 1]) >= rank) {
                waitingSize--;
                laws.add(waiting[waitingSize], 0);
            }
        }
    }

    /** Reads the LINES of a TEXT up to its first FAULT. */
    private static final class TextReader {
        private final Tokens tokens;
        private final LawReader lawReader;
        private int fault = NO_FAULT;
        private int place = NONE;
        private Book book;
        private int number;
        // Bits by the words of those LINES that may be told once.
        private int told;

        private TextReader(Tape tape, Book book) {
            tokens = new Tokens(tape);
            lawReader = new LawReader(tokens, book.laws);
            this.book = book;
        }

        private boolean tell(int length, Book into) {
            book = into;
            book.clear();
            fault = NO_FAULT;
            place = NONE;
            told = 0;
            tokens.start(length);
            for (int i = 0; i <= Tape.MOST && tokens.kind != Tokens.END; i++) {
                if (!takeLine() || !takeStop()) {
                    return false;
                }
                book.lines++;
            }
            return true;
        }

        private boolean blame(int kind) {
            fault = kind;
            place = tokens.place;
            return false;
        }

        private boolean takeStop() {
            if (!tokens.isSign(STOP)) {
                return blame(BAD_TOKEN);
            }
            tokens.advance();
            return true;
        }

        private boolean takeLine() {
            if (tokens.kind != Tokens.WORD) {
                return blame(BAD_TOKEN);
            }
            switch (tokens.value) {
                case WORD_MAN: return takeMan();
                case WORD_THOUGHT: return takeThought();
                case WORD_READER: return takeReader();
                case WORD_RATE: return takeRate();
                case WORD_DULL: return takeDull();
                case WORD_SEED: return takeSeed();
                case WORD_LAW: return takeLaw();
                default: return blame(BAD_TOKEN);
            }
        }

        private boolean takeMan() {
            int man = book.people;
            if (man < 0 || man >= MOST_PEOPLE) {
                return blame(TOO_MUCH);
            }
            tokens.advance();
            if (!isNewName(book.manNamed(tokens.value))) {
                return false;
            }
            book.manNames[man] = tokens.value;
            tokens.advance();
            if (!takeNumber(0, 999)) {
                return false;
            }
            book.purses[man] = number;
            if (!takeNumber(0, 9)) {
                return false;
            }
            book.wiles[man] = number;
            book.people++;
            return true;
        }

        private boolean takeReader() {
            int reader = book.readers;
            if (reader < 0 || reader >= MOST_READERS) {
                return blame(TOO_MUCH);
            }
            tokens.advance();
            if (!isNewName(book.readerNamed(tokens.value))) {
                return false;
            }
            book.readerNames[reader] = tokens.value;
            tokens.advance();
            if (!takeNumber(0, 9)) {
                return false;
            }
            book.skills[reader] = number;
            if (!takeNumber(0, 15)) {
                return false;
            }
            book.readerTongues[reader] = number;
            book.readers++;
            return true;
        }

        private boolean isNewName(int bearer) {
            if (tokens.kind != Tokens.NAME) {
                return blame(BAD_TOKEN);
            }
            return bearer == NONE || blame(TOLD_ALREADY);
        }

        private boolean takeThought() {
            int thought = book.thoughts;
            if (thought < 0 || thought >= MOST_THOUGHTS) {
                return blame(TOO_MUCH);
            }
            tokens.advance();
            if (tokens.kind != Tokens.NAME) {
                return blame(BAD_TOKEN);
            }
            int owner = book.manNamed(tokens.value);
            if (owner == NONE) {
                return blame(NOT_TOLD);
            }
            book.owners[thought] = owner;
            tokens.advance();
            if (!takeNumber(1, 99)) {
                return false;
            }
            book.worths[thought] = number;
            if (!takeNumber(0, 99)) {
                return false;
            }
            book.weeks[thought] = number;
            if (!takeNumber(0, 3)) {
                return false;
            }
            book.tongues[thought] = number;
            book.thoughts++;
            return true;
        }

        private boolean takeRate() {
            if (!takeOnce() || !takeNumber(0, 100)) {
                return false;
            }
            book.rate = number;
            return true;
        }

        private boolean takeDull() {
            if (!takeOnce() || !takeNumber(1, 99)) {
                return false;
            }
            book.dullCost = number;
            return true;
        }

        private boolean takeSeed() {
            if (!takeOnce() || !takeNumber(0, 99999)) {
                return false;
            }
            book.seed = number;
            return true;
        }

        private boolean takeOnce() {
            int bit = 1 << tokens.value;
            if ((told & bit) != 0) {
                return blame(TOLD_ALREADY);
            }
            told |= bit;
            tokens.advance();
            return true;
        }

        private boolean takeNumber(int least, int most) {
            if (tokens.kind != Tokens.NUMBER) {
                return blame(BAD_TOKEN);
            }
            if (tokens.value < least || tokens.value > most) {
                return blame(TOO_MUCH);
            }
            number = tokens.value;
            tokens.advance();
            return true;
        }

        private boolean takeLaw() {
            tokens.advance();
            if (tokens.kind != Tokens.WORD || tokens.value < WORD_READ || tokens.value > WORD_HIDE) {
                return blame(BAD_TOKEN);
            }
            int law = tokens.value - WORD_READ;
            if (book.laws.isTold(law)) {
                return blame(TOLD_ALREADY);
            }
            tokens.advance();
            int lawFault = lawReader.read(book.laws, law);
            return lawFault == NO_FAULT || blame(lawFault);
        }
    }

    /** All that changes as WEEKS go by or by call. What is tried otherwise is tried on a copy. */
    private static final class World {
        private static final int WORTH = 0;
        private static final int SKILL = 1;
        private static final int PURSE = 2;
        private static final int WILES = 3;
        private static final int DULLED = 4;
        private static final int THERE = 5;
        private static final int WEEK = 6;
        private static final int NAME_COUNT = 7;

        private Book book;
        private int week;
        private int rate;
        private int number;
        private final int[] purses = new int[MOST_PEOPLE];
        private final int[] wiles = new int[MOST_PEOPLE];
        private final int[] paid = new int[MOST_PEOPLE];
        private final int[] owed = new int[MOST_PEOPLE];
        private final int[] dull = new int[MOST_PEOPLE];
        private final int[] rounds = new int[MOST_PEOPLE];
        private final int[] states = new int[MOST_THOUGHTS];
        private final int[] holders = new int[MOST_THOUGHTS];
        private final int[] wasRead = new int[MOST_THOUGHTS];
        private final int[] skills = new int[MOST_READERS];
        private final int[] tongues = new int[MOST_READERS];
        // Whether the rate was asked for since this was last set to false.
        private boolean isRated;
        // The VALUES of the NAMES, in the order of their words.
        private final long[] names = new long[NAME_COUNT];

        private World(Book book) {
            this.book = book;
        }

        private void begin(Book told) {
            book = told;
            week = 0;
            rate = told.rate;
            number = told.seed;
            System.arraycopy(told.purses, 0, purses, 0, MOST_PEOPLE);
            System.arraycopy(told.wiles, 0, wiles, 0, MOST_PEOPLE);
            Arrays.fill(paid, 0);
            Arrays.fill(owed, 0);
            Arrays.fill(dull, 0);
            for (int door = 0; door < MOST_PEOPLE; door++) {
                rounds[door] = told.readers > 0 ? door % told.readers : NONE;
            }
            Arrays.fill(states, TO_COME);
            Arrays.fill(holders, NONE);
            Arrays.fill(wasRead, 0);
            System.arraycopy(told.skills, 0, skills, 0, MOST_READERS);
            System.arraycopy(told.readerTongues, 0, tongues, 0, MOST_READERS);
        }

        private void copy(World other) {
            book = other.book;
            week = other.week;
            rate = other.rate;
            number = other.number;
            System.arraycopy(other.purses, 0, purses, 0, MOST_PEOPLE);
            System.arraycopy(other.wiles, 0, wiles, 0, MOST_PEOPLE);
            System.arraycopy(other.paid, 0, paid, 0, MOST_PEOPLE);
            System.arraycopy(other.owed, 0, owed, 0, MOST_PEOPLE);
            System.arraycopy(other.dull, 0, dull, 0, MOST_PEOPLE);
            System.arraycopy(other.rounds, 0, rounds, 0, MOST_PEOPLE);
            System.arraycopy(other.states, 0, states, 0, MOST_THOUGHTS);
            System.arraycopy(other.holders, 0, holders, 0, MOST_THOUGHTS);
            System.arraycopy(other.wasRead, 0, wasRead, 0, MOST_THOUGHTS);
            System.arraycopy(other.skills, 0, skills, 0, MOST_READERS);
            System.arraycopy(other.tongues, 0, tongues, 0, MOST_READERS);
        }

        private void goWeeks(int n, boolean isDrawn) {
            for (int i = 0; i < n; i++) {
                think();
                int doors = week % 4 == 3 ? Math.min(book.people, MOST_PEOPLE) : 0;
                for (int door = 0; door < doors; door++) {
                    if (book.isReader(rounds[door])) {
                        pay(door, dueAt(door, rounds[door], isDrawn));
                        dull[door] = 0;
                    }
                }
                forget();
                week++;
            }
        }

        private void think() {
            for (int t = 0; t < book.thoughts && t < MOST_THOUGHTS; t++) {
                if (states[t] == TO_COME && book.weeks[t] == week) {
                    states[t] = HELD;
                    holders[t] = book.owners[t];
                }
            }
        }

        private void pay(int door, int due) {
            if (book.isMan(door)) {
                int part = Math.min(due, purses[door]);
                purses[door] -= part;
                paid[door] += part;
                owed[door] += due - part;
            }
        }

        private void forget() {
            for (int t = 0; t < book.thoughts && t < MOST_THOUGHTS; t++) {
                if (states[t] == HELD && week - book.weeks[t] > hideOf(t)) {
                    states[t] = GONE;
                    holders[t] = NONE;
                }
            }
        }

        private int dueAt(int door, int reader, boolean isDrawn) {
            int best = 0;
            for (int t = 0; t < book.thoughts && t < MOST_THOUGHTS; t++) {
                if (isHeldAt(t, door) && reads(reader, t, isDrawn)) {
                    wasRead[t] = 1;
                    best = Math.max(best, book.worths[t]);
                }
            }
            return best > 0 ? dueOf(door, reader, best) : 0;
        }

        private boolean readsAny(int door, int reader) {
            for (int t = 0; t < book.thoughts && t < MOST_THOUGHTS; t++) {
                if (isHeldAt(t, door) && reads(reader, t, false)) {
                    return true;
                }
            }
            return false;
        }

        private boolean reads(int reader, int thought, boolean isDrawn) {
            if (!knowsTongue(reader, thought)) {
                return false;
            }
            int likely = readOf(thought, reader);
            if (!isDrawn) {
                return likely >= 50;
            }
            if (likely == 0 || likely == 100) {
                return likely == 100;
            }
            return likely > draw() % 100;
        }

        private int draw() {
            number = (int) ((number * 1103515245L + 12345L) & 0x7fffffffL);
            return number / 65536;
        }

        private boolean knowsTongue(int reader, int thought) {
            return book.isReader(reader) && book.isThought(thought)
                && (tongues[reader] >> book.tongues[thought] & 1) == 1;
        }

        private boolean isHeld(int thought) {
            return book.isThought(thought) && states[thought] == HELD && book.isMan(holders[thought]);
        }

        private boolean isHeldAt(int thought, int man) {
            return book.isThought(thought) && states[thought] == HELD && holders[thought] == man;
        }

        private int readerOf(int thought) {
            return isHeld(thought) ? rounds[holders[thought]] : NONE;
        }

        // Laws that aren't told are passed over at once here: trials ask for them some ten thousand times.
        private int readOf(int thought, int reader) {
            int man = book.isThought(thought) ? holders[thought] : NONE;
            if (!book.isMan(man) || !book.isReader(reader)) {
                return 0;
            }
            long value = NO_VALUE;
            if (book.laws.isTold(READ_LAW)) {
                nameDoor(man, reader, book.worths[thought]);
                value = book.laws.work(READ_LAW, names);
            }
            return within(value == NO_VALUE ? 10 * skills[reader] - 5 * wiles[man] - 10 * dull[man] : value, 100);
        }

        private int dueOf(int door, int reader, int best) {
            long value = NO_VALUE;
            if (book.laws.isTold(DUE_LAW)) {
                nameDoor(door, reader, best);
                value = book.laws.work(DUE_LAW, names);
            }
            isRated |= value == NO_VALUE;
            return within(value == NO_VALUE ? best * rate / 100 : value, 999);
        }

        private int hideOf(int thought) {
            int man = book.isThought(thought) ? holders[thought] : NONE;
            if (!book.isMan(man)) {
                return 0;
            }
            long value = NO_VALUE;
            if (book.laws.isTold(HIDE_LAW)) {
                nameDoor(man, NONE, book.worths[thought]);
                value = book.laws.work(HIDE_LAW, names);
            }
            return within(value == NO_VALUE ? 8 + wiles[man] : value, 99);
        }

        private static int within(long value, int most) {
            return (int) Math.max(0, Math.min(value, most));
        }

        private long readLawNow(int thought) {
            if (!isHeld(thought)) {
                return NO_VALUE;
            }
            nameDoor(holders[thought], readerOf(thought), book.worths[thought]);
            return book.laws.work(READ_LAW, names);
        }

        private long dueLawNow(int man) {
            if (!book.isMan(man)) {
                return NO_VALUE;
            }
            nameDoor(man, rounds[man], bestHeld(man));
            return book.laws.work(DUE_LAW, names);
        }

        private long hideLawNow(int thought) {
            if (!isHeld(thought)) {
                return NO_VALUE;
            }
            nameDoor(holders[thought], NONE, book.worths[thought]);
            return book.laws.work(HIDE_LAW, names);
        }

        private void nameDoor(int man, int reader, int worth) {
            boolean isThere = book.isMan(man);
            names[WORTH] = worth;
            names[SKILL] = book.isReader(reader) ? skills[reader] : 0;
            names[PURSE] = isThere ? purses[man] : 0;
            names[WILES] = isThere ? wiles[man] : 0;
            names[DULLED] = isThere ? dull[man] : 0;
            names[WEEK] = week;
            int there = 0;
            for (int t = 0; t < book.thoughts && t < MOST_THOUGHTS; t++) {
                there += states[t] == HELD && holders[t] == man ? 1 : 0;
            }
            names[THERE] = there;
        }

        private int heldBits(int man) {
            int bits = 0;
            for (int t = 0; t < book.thoughts && t < MOST_THOUGHTS; t++) {
                bits |= isHeldAt(t, man) ? 1 << t : 0;
            }
            return bits;
        }

        private int hiddenBits() {
            int bits = 0;
            for (int t = 0; t < book.thoughts && t < MOST_THOUGHTS; t++) {
                bits |= isHeld(t) && holders[t] != book.owners[t] ? 1 << t : 0;
            }
            return bits;
        }

        private int holdersOf(int worth, int tongue) {
            int bits = 0;
            for (int t = 0; t < book.thoughts && t < MOST_THOUGHTS; t++) {
                if (isHeld(t) && book.worths[t] == worth && book.tongues[t] == tongue) {
                    bits |= 1 << holders[t];
                }
            }
            return bits;
        }

        private int bestHeld(int man) {
            int best = 0;
            for (int t = 0; t < book.thoughts && t < MOST_THOUGHTS; t++) {
                best = isHeldAt(t, man) ? Math.max(best, book.worths[t]) : best;
            }
            return best;
        }

        private int heldWorth() {
            int worth = 0;
            for (int t = 0; t < book.thoughts && t < MOST_THOUGHTS; t++) {
                worth += isHeld(t) ? book.worths[t] : 0;
            }
            return worth;
        }

        private int heldWorthAt(int man) {
            int worth = 0;
            for (int t = 0; t < book.thoughts && t < MOST_THOUGHTS; t++) {
                worth += isHeldAt(t, man) ? book.worths[t] : 0;
            }
            return worth;
        }

        private int richestDoor() {
            int first = REFUSED;
            int most = 0;
            for (int door = 0; door < book.people && door < MOST_PEOPLE; door++) {
                int worth = heldWorthAt(door);
                if (worth > most) {
                    most = worth;
                    first = door;
                }
            }
            return first;
        }

        private int chainOf(int readers) {
            int left = 100;
            for (int skill = 0; skill <= 9; skill++) {
                for (int reader = 0; reader < book.readers && reader < MOST_READERS; reader++) {
                    if ((readers >> reader & 1) == 1 && skills[reader] == skill) {
                        left = left * skill / 10;
                    }
                }
            }
            return left;
        }

        private int countOf(int state) {
            int many = 0;
            for (int t = 0; t < book.thoughts && t < MOST_THOUGHTS; t++) {
                many += states[t] == state ? 1 : 0;
            }
            return many;
        }

        private int sum(int[] row) {
            int sum = 0;
            for (int man = 0; man < book.people && man < MOST_PEOPLE && man < row.length; man++) {
                sum += row[man];
            }
            return sum;
        }

        /** Who has the most in a row, the first of several; NONE without PEOPLE. */
        private int greatest(int[] row) {
            int greatest = NONE;
            for (int man = 0; man < book.people && man < MOST_PEOPLE && man < row.length; man++) {
                if (greatest == NONE || row[man] > row[greatest]) {
                    greatest = man;
                }
            }
            return greatest;
        }

        private int taxOf(int man) {
            return book.isMan(man) ? paid[man] + owed[man] : 0;
        }

        private int tax() {
            return sum(paid) + sum(owed);
        }
    }

    /** What was done by call since the latest WEEK, the latest last. */
    private static final class Deeds {
        private static final int HIDING = 0;
        private static final int BUYING = 1;
        private static final int ROUND = 2;
        private static final int RATE = 3;
        private static final int MOST = 20;

        private final int[] kinds = new int[MOST];
        private final int[] whiches = new int[MOST];
        // What was there ahead of it; of BUYING how many were bought.
        private final int[] befores = new int[MOST];
        private int size;

        private void clear() {
            size = 0;
        }

        private void note(int kind, int which, int before) {
            if (size >= MOST) {
                System.arraycopy(kinds, 1, kinds, 0, MOST - 1);
                System.arraycopy(whiches, 1, whiches, 0, MOST - 1);
                System.arraycopy(befores, 1, befores, 0, MOST - 1);
                size = MOST - 1;
            }
            if (size >= 0) {
                kinds[size] = kind;
                whiches[size] = which;
                befores[size] = before;
                size++;
            }
        }

        private void undoLatest(World world) {
            if (size <= 0 || size > MOST) {
                return;
            }
            size--;
            int which = whiches[size];
            int before = befores[size];
            switch (kinds[size]) {
                case HIDING: unhide(world, which, before); break;
                case BUYING: unbuy(world, which, before); break;
                case ROUND: unround(world, which, before); break;
                default: world.rate = before; break;
            }
        }

        private static void unhide(World world, int thought, int holder) {
            if (world.book.isThought(thought)) {
                world.holders[thought] = holder;
            }
        }

        private static void unbuy(World world, int man, int many) {
            if (world.book.isMan(man)) {
                world.dull[man] -= many;
                world.purses[man] += many * world.book.dullCost;
            }
        }

        private static void unround(World world, int man, int reader) {
            if (world.book.isMan(man)) {
                world.rounds[man] = reader;
            }
        }
    }

    /** What was FOUND, and STRIKES among it. */
    private static final class Finds {
        private static final int MOST = 24;

        private final int[] weeks = new int[MOST];
        private final int[] thoughts = new int[MOST];
        private final boolean[] areRead = new boolean[MOST];
        // Which one a STRIKE strikes; NONE of one that is no STRIKE.
        private final int[] targets = new int[MOST];
        private final boolean[] areStruck = new boolean[MOST];
        private int size;
        private int limit = NONE;

        private void clear() {
            size = 0;
            limit = NONE;
        }

        private boolean hasRoom() {
            return size >= 0 && size < MOST;
        }

        private int noteReading(int week, int thought, boolean isRead) {
            if (!hasRoom()) {
                return NONE;
            }
            weeks[size] = week;
            thoughts[size] = thought;
            areRead[size] = isRead;
            targets[size] = NONE;
            size++;
            return size - 1;
        }

        private int noteStrike(int target) {
            if (!hasRoom()) {
                return NONE;
            }
            targets[size] = target;
            size++;
            return size - 1;
        }

        private int knownBy() {
            return limit == NONE ? size : Math.min(limit, size);
        }

        // From the last one on: a STRIKE is struck by later ones alone, so it is settled when it is asked.
        private void settle() {
            for (int i = 0; i < MOST; i++) {
                areStruck[i] = false;
            }
            for (int i = Math.min(knownBy(), MOST) - 1; i >= 0; i--) {
                int target = targets[i];
                if (target >= 0 && target < MOST && !areStruck[i]) {
                    areStruck[target] = true;
                }
            }
        }

        private boolean isKnown(int i) {
            return i >= 0 && i < MOST && i < knownBy() && targets[i] == NONE && !areStruck[i];
        }

        private int lastKnownWeek() {
            int last = 0;
            for (int i = 0; i < MOST; i++) {
                last = isKnown(i) ? Math.max(last, weeks[i]) : last;
            }
            return last;
        }

        /** Whether all that is KNOWN behind so many WEEKS is so in that world. */
        private boolean agrees(World world, int week) {
            for (int i = 0; i < size && i < MOST; i++) {
                if (isKnown(i) && weeks[i] == week && world.book.isThought(thoughts[i])
                    && areRead[i] != (world.wasRead[thoughts[i]] == 1)) {
                    return false;
                }
            }
            return true;
        }
    }

    /** The GAME of a street and a READER. */
    private static final class Game {
        private static final int[] PLAYS = {0, 1, 10, 11};

        // The RESTS as the answers of rest() are.
        private final int[] found = new int[PLAYS.length];
        private int rests;
        private int worth;
        private int rate;

        private void play(int heldWorth, int taxRate) {
            worth = heldWorth;
            rate = taxRate;
            rests = 0;
            for (int i = 0; i < PLAYS.length; i++) {
                if (isRest(PLAYS[i] / 10, PLAYS[i] % 10) && rests >= 0 && rests < found.length) {
                    found[rests] = PLAYS[i];
                    rests++;
                }
            }
        }

        private int restAt(int k) {
            return k >= 0 && k < rests && k < found.length ? found[k] : REFUSED;
        }

        private boolean isRest(int street, int reader) {
            return streetHas(street, reader) >= streetHas(1 - street, reader)
                && readerHas(street, reader) >= readerHas(street, 1 - reader);
        }

        private int tax(int street, int reader) {
            boolean thinks = street == 1;
            boolean looks = reader == 0;
            int read = thinks && looks ? worth : thinks || looks ? worth / 2 : 0;
            return read * rate / 100;
        }

        private int streetHas(int street, int reader) {
            return -tax(street, reader) - (street == 0 ? 5 : 0);
        }

        private int readerHas(int street, int reader) {
            return tax(street, reader) - (reader == 0 ? 3 : 0);
        }
    }

    /** Answers what comes, on a world of its own that is copied anew for each trial. */
    private static final class Trials {
        private static final int NO_WILES = 0;
        private static final int NO_DULL = 1;
        private static final int NO_THINKING = 2;
        private static final int ALL_TONGUES = 3;
        private static final int HIDE_WEEKS = 12;
        private static final int WORTHLESS_WEEKS = 20;
        private static final int CHOSEN_DOORS = 4;
        private static final int DRAWN_TIMES = 10;

        private final World trial;
        // What each PERSON PAYS and OWES as it goes.
        private final int[] taxes = new int[MOST_PEOPLE];

        private Trials(Book book) {
            trial = new World(book);
        }

        private int comes(World now, int n, int what) {
            trial.copy(now);
            trial.goWeeks(n, false);
            switch (what) {
                case 0: return trial.sum(trial.paid) - now.sum(now.paid);
                case 1: return trial.sum(trial.owed) - now.sum(now.owed);
                case 2: return trial.countOf(GONE) - now.countOf(GONE);
                default: return trial.countOf(HELD);
            }
        }

        // What is DUE at one DOOR is not changed by who visits another: each DOOR chooses alone.
        private int roundOfMost(World now, int what) {
            trial.copy(now);
            trial.think();
            int tax = 0;
            for (int door = 0; door < now.book.people && door < MOST_PEOPLE; door++) {
                int reader = door < CHOSEN_DOORS ? readerOfMost(door) : now.rounds[door];
                if (door == what && what < CHOSEN_DOORS) {
                    return reader;
                }
                tax += trial.dueAt(door, reader, false);
            }
            return tax;
        }

        private int readerOfMost(int door) {
            int chosen = 0;
            int most = NONE;
            for (int reader = 0; reader < trial.book.readers && reader < MOST_READERS; reader++) {
                int due = trial.dueAt(door, reader, false);
                if (due > most) {
                    most = due;
                    chosen = reader;
                }
            }
            return chosen;
        }

        private int holderOfLeast(World now, int thought, int what) {
            int chosen = NONE;
            int least = 0;
            for (int man = 0; man < now.book.people && man < MOST_PEOPLE && now.isHeld(thought); man++) {
                trial.copy(now);
                trial.holders[thought] = man;
                trial.goWeeks(HIDE_WEEKS, false);
                int tax = trial.tax() - now.tax();
                if (chosen == NONE || tax < least) {
                    chosen = man;
                    least = tax;
                }
            }
            return what == 0 ? chosen : least;
        }

        private int rateOfMost(World now, int n, int what) {
            int chosen = 0;
            int most = NONE;
            for (int rate = 0; rate <= 100; rate++) {
                trial.copy(now);
                trial.rate = rate;
                trial.isRated = false;
                trial.goWeeks(n, false);
                int paid = trial.sum(trial.paid) - now.sum(now.paid);
                if (paid > most) {
                    chosen = rate;
                    most = paid;
                }
                // Where the rate is never asked for, all others bring the same.
                if (!trial.isRated) {
                    break;
                }
            }
            return what == 0 ? chosen : most;
        }

        private int dearThoughts(World now) {
            trial.copy(now);
            trial.goWeeks(WORTHLESS_WEEKS, false);
            noteTaxes();
            int bits = 0;
            for (int t = 0; t < now.book.thoughts && t < MOST_THOUGHTS; t++) {
                int owner = now.book.owners[t];
                if (now.states[t] == TO_COME && now.book.isMan(owner)) {
                    trial.copy(now);
                    trial.states[t] = GONE;
                    trial.goWeeks(WORTHLESS_WEEKS, false);
                    bits |= trial.taxOf(owner) < taxes[owner] ? 1 << t : 0;
                }
            }
            return bits;
        }

        private void noteTaxes() {
            for (int man = 0; man < trial.book.people && man < MOST_PEOPLE; man++) {
                taxes[man] = trial.taxOf(man);
            }
        }

        private int votes(World now, int n, int rate, int what) {
            trial.copy(now);
            trial.goWeeks(n, false);
            noteTaxes();
            trial.copy(now);
            trial.rate = rate;
            trial.goWeeks(n, false);
            int many = 0;
            for (int man = 0; man < now.book.people && man < MOST_PEOPLE; man++) {
                int tax = trial.taxOf(man);
                many += (what == 0 ? tax < taxes[man] : tax > taxes[man]) ? 1 : 0;
            }
            return many;
        }

        private int dullEnough(World now, int man) {
            if (!now.book.isMan(man)) {
                return NONE;
            }
            trial.copy(now);
            for (int more = 0; more <= MOST_DULL - now.dull[man]; more++) {
                trial.dull[man] = now.dull[man] + more;
                if (!trial.readsAny(man, now.rounds[man])) {
                    return more;
                }
            }
            return REFUSED;
        }

        private int weeksToReading(World now, int thought) {
            if (!now.book.isThought(thought)) {
                return NONE;
            }
            trial.copy(now);
            trial.wasRead[thought] = 0;
            for (int weeks = 1; weeks <= LONGEST; weeks++) {
                trial.goWeeks(1, false);
                if (trial.wasRead[thought] == 1) {
                    return weeks;
                }
            }
            return REFUSED;
        }

        private int richestIn(World now, int n) {
            trial.copy(now);
            trial.goWeeks(n, false);
            return trial.greatest(trial.purses);
        }

        private int skillsBy(Finds finds, Book book, int reader) {
            finds.settle();
            int last = finds.lastKnownWeek();
            int bits = 0;
            for (int skill = 0; skill <= 9 && book.isReader(reader); skill++) {
                trial.begin(book);
                trial.skills[reader] = skill;
                boolean agrees = true;
                for (int week = 1; week <= last && agrees; week++) {
                    trial.goWeeks(1, false);
                    agrees = finds.agrees(trial, week);
                }
                bits |= agrees ? 1 << skill : 0;
            }
            return bits;
        }

        private int timesPaid(World now, int seed, int n, int paid) {
            int times = 0;
            int number = seed;
            for (int i = 0; i < DRAWN_TIMES; i++) {
                trial.copy(now);
                trial.number = number;
                trial.goWeeks(n, true);
                number = trial.number;
                times += trial.sum(trial.paid) - now.sum(now.paid) >= paid ? 1 : 0;
            }
            return times;
        }

        private int paidIf(World now, int what, int man, int n) {
            trial.copy(now);
            switch (what) {
                case NO_WILES: Arrays.fill(trial.wiles, 0); break;
                case NO_DULL: Arrays.fill(trial.dull, 0); break;
                case NO_THINKING: thinkNothing(man); break;
                case ALL_TONGUES: Arrays.fill(trial.tongues, 15); break;
                default: Arrays.fill(trial.skills, 9); break;
            }
            trial.goWeeks(n, false);
            return trial.sum(trial.paid) - now.sum(now.paid);
        }

        private void thinkNothing(int man) {
            for (int t = 0; t < trial.book.thoughts && t < MOST_THOUGHTS; t++) {
                if (trial.states[t] == TO_COME && trial.book.owners[t] == man) {
                    trial.states[t] = GONE;
                }
            }
        }
    }
}
