import java.util.Arrays;
import java.util.NoSuchElementException;

/** A bridge between two ends whose tolls are asked in things that one has by living at the ends. */
public final class BridgeToll {
    public static final int NONE = -1;

    private static final int MOST_THINGS = 6;
    private static final int MOST_PERSONS = 8;
    private static final int MOST_HELD = 12;
    private static final int ENDS = 2;
    private static final int PLACES = 3;
    private static final int IMAGES = 2;

    private static final int NEAR_PLACE = 0;
    private static final int BRIDGE_PLACE = 1;
    private static final int FAR_PLACE = 2;
    private static final int NEAR_END = 0;
    private static final int FAR_END = 1;

    private static final int DAYS_OVER = 400;
    private static final int MOST_DAYS = 60;
    private static final int MOST_FORESEEN = 100;
    private static final int MOST_SCHOOL = 60;
    private static final int ODDS_DAYS = 20;
    private static final int MOST_SEEDS = 30;

    private static final int BRIDGE_BYTES = 900;
    private static final int BOOK_BYTES = 400;
    private static final int SENTENCE_BYTES = 200;
    private static final int NO_SUCH_LIVES = -1000;

    private static final int CANT_COME = 1;
    private static final int WRONG_NUMBER = 2;
    private static final int WRONG_NAME = 3;
    private static final int TOO_MANY = 4;

    private static final int NAME_LETTERS = 7;
    private static final int LETTER_BITS = 5;
    private static final int LETTER_MASK = 31;
    /** Two NAMES, ' lacks ', a blank and two digits. */
    private static final int PASS_BYTES = 24;

    private static final Word[] WORDS = Word.values();

    private final Tape tape;
    private final Tokens tokens;
    private final BridgeReader reader;
    private final Book book;
    private final World world;
    private final Past past;
    private final Sentence sentence;
    private final Sentence spareSentence;
    private final World[] imageWorlds;
    private final Sentence[] imageSentences;
    private final Outlook outlook;
    private final Law law;
    private final Draws draws;
    private final int[] passBytes;
    private int passLength;
    private int latestFault;

    public BridgeToll() {
        tape = new Tape();
        tokens = new Tokens(tape);
        reader = new BridgeReader(tokens);
        book = new Book(tokens);
        world = new World();
        past = new Past();
        sentence = new Sentence();
        spareSentence = new Sentence();
        imageWorlds = new World[IMAGES];
        imageSentences = new Sentence[IMAGES];
        draws = new Draws();
        outlook = new Outlook(draws);
        law = new Law();
        passBytes = new int[PASS_BYTES];
    }

    // ---- the tape and the texts on it ----

    public int feed(int a, int b, int c, int d, int e) {
        if (!tape.hasRoom()) {
            return NONE;
        }
        tape.put(a);
        tape.put(b);
        tape.put(c);
        tape.put(d);
        tape.put(e);
        return tape.length;
    }

    public boolean end(int n) {
        if (n < 0 || n > tape.length) {
            return false;
        }
        tape.length = n;
        return true;
    }

    public int bridge() {
        int lines = reader.readLines();
        if (settleText()) {
            return -1 - tokens.faultPlace;
        }
        world.copyFrom(reader.built);
        sentence.forget();
        past.forget();
        return lines;
    }

    public int fault() {
        return latestFault;
    }

    /** The tape is empty behind every text, with a FAULT too. */
    private boolean settleText() {
        tape.length = 0;
        latestFault = tokens.fault;
        return latestFault != 0;
    }

    // ---- how all is now ----

    public int person(int p, int what) throws NoSuchElementException {
        if (!world.isPerson(p) || what < 0 || what > 5) {
            throw new NoSuchElementException("no such person or what");
        }
        switch (what) {
            case 0:
                return world.places[p];
            case 1:
                return world.wants[p];
            case 2:
                return world.stayed[p];
            case 3:
                return world.mates[p];
            case 4:
                return world.gone[p];
            default:
                return world.allOf(p);
        }
    }

    public int have(int p, int t) {
        return world.isPerson(p) && world.isThing(t) ? world.held(p, t) : NONE;
    }

    public int thing(int t, int what) {
        if (!world.isThing(t)) {
            return NONE;
        }
        switch (what) {
            case 0:
                return world.thingEnds[t];
            case 1:
                return world.thingDays[t];
            case 2:
                return world.heldByAll(t);
            default:
                return NONE;
        }
    }

    public int asks(int e, int t) {
        return isEnd(e) && world.isThing(t) ? world.askedAt(e, t) : NONE;
    }

    public int now(int what) {
        switch (what) {
            case 0:
                return world.day;
            case 1:
                return world.whoIsAt(NEAR_PLACE);
            case 2:
                return world.whoIsAt(BRIDGE_PLACE);
            case 3:
                return world.whoIsAt(FAR_PLACE);
            case 4:
                return world.whoCouldPay();
            case 5:
                return world.allGone();
            case 6:
                return world.allHeld();
            default:
                return NONE;
        }
    }

    public int count(int what) {
        switch (what) {
            case 0:
                return world.things;
            case 1:
                return world.persons;
            case 2:
                return tape.length;
            default:
                return NONE;
        }
    }

    // ---- acts ----

    public int go(int p, int place) {
        if (!world.isPerson(p) || place < 0 || place >= PLACES) {
            return NONE;
        }
        past.sketch(world);
        return keptUnlessRefused(world.walk(p, place));
    }

    public int join(int p, int q) {
        if (!world.isPerson(p) || !world.isPerson(q)) {
            return NONE;
        }
        past.sketch(world);
        return keptUnlessRefused(world.pair(p, q));
    }

    public int part(int p) {
        if (!world.isPerson(p)) {
            return NONE;
        }
        past.sketch(world);
        return keptUnlessRefused(world.unpair(p));
    }

    public int trade(int p, int t, int q, int u) {
        if (!world.isPerson(p) || !world.isThing(t) || !world.isPerson(q) || !world.isThing(u)) {
            return NONE;
        }
        past.sketch(world);
        return keptUnlessRefused(world.swapHalves(p, t, q, u));
    }

    public int ask(int e, int t, int n) {
        if (!isEnd(e) || !world.isThing(t) || n < 0 || n > MOST_HELD) {
            return NONE;
        }
        past.sketch(world);
        return keptUnlessRefused(world.demand(e, t, n));
    }

    public int days(int n) {
        if (!isSpan(n)) {
            return NONE;
        }
        past.sketch(world);
        return keptIfAny(world.liveDays(n));
    }

    public int drawn(int n, int seed) {
        if (!isSpan(n) || world.persons == 0) {
            return NONE;
        }
        past.sketch(world);
        draws.begin(seed);
        return keptIfAny(draws.liveDays(world, n));
    }

    public int undo() {
        return past.takeBack(world);
    }

    private int keptUnlessRefused(int why) {
        if (why == 0) {
            past.keep();
        }
        return why;
    }

    private int keptIfAny(int daysGone) {
        if (daysGone > 0) {
            past.keep();
        }
        return daysGone;
    }

    // ---- what would be ----

    public int lacks(int p, int e) {
        return world.isPerson(p) && isEnd(e) ? world.lackedBits(p, e) : NONE;
    }

    public int when(int p, int e) {
        if (!world.isPerson(p) || !isEnd(e)) {
            return NONE;
        }
        return outlook.daysTillPaying(world, p, world.mates[p], e, MOST_FORESEEN);
    }

    public int teacher(int p) {
        return world.isPerson(p) ? outlook.findTeacher(world, p) : NONE;
    }

    public int taught() {
        return outlook.latestTeacher;
    }

    public int school() {
        return outlook.findSchool(world);
    }

    public int schooled(int p) {
        return outlook.schoolmateOf(p);
    }

    public int laws() {
        int sets = law.findSets(tape, world);
        tape.length = 0;
        return sets;
    }

    public int smallest() {
        return law.latestSmallest;
    }

    public int offer() {
        return law.latestOffer;
    }

    public int sham(int p) {
        return world.isPerson(p) ? world.whoCouldPassFor(p) : NONE;
    }

    public int rush() {
        return outlook.findRush(world);
    }

    public int crowd() {
        return outlook.latestCrowd;
    }

    public int eased(int e) {
        return isEnd(e) ? world.excessAsked(e) : NONE;
    }

    public int odds(int p, int n, int seed) {
        if (!world.isPerson(p) || n < 1 || n > MOST_SEEDS) {
            return NONE;
        }
        return outlook.timesAtWanted(world, p, n, seed);
    }

    // ---- passes ----

    public int pass(int p) {
        if (!world.isPerson(p)) {
            return NONE;
        }
        passLength = 0;
        writeName(world.personNames[p]);
        int end = world.wants[p];
        int lacked = world.lackedBits(p, end);
        if (lacked == 0) {
            writeText(" may go");
            return passLength;
        }
        writeText(" lacks ");
        int t = 0;
        while (t < world.things - 1 && (lacked >> t & 1) == 0) {
            t++;
        }
        writeName(world.thingNames[t]);
        writeText(" ");
        writeNumber(world.askedAt(end, t) - world.held(p, t));
        return passLength;
    }

    public int byteAt(int i) {
        return i >= 0 && i < passLength ? passBytes[i] : NONE;
    }

    private void writeName(long name) {
        for (int i = NAME_LETTERS - 1; i >= 0; i--) {
            int letter = (int) (name >> (i * LETTER_BITS)) & LETTER_MASK;
            if (letter != 0) {
                writeByte('a' + letter - 1);
            }
        }
    }

    private void writeText(String text) {
        for (int i = 0; i < text.length(); i++) {
            writeByte(text.charAt(i));
        }
    }

    /** At most 12 is lacked, so two digits are enough. */
    private void writeNumber(int n) {
        if (n >= 10) {
            writeByte('0' + n / 10);
        }
        writeByte('0' + n % 10);
    }

    private void writeByte(int b) {
        if (passLength < PASS_BYTES) {
            passBytes[passLength] = b;
            passLength++;
        }
    }

    // ---- books ----

    public int book(int lives) {
        if (lives != 0 && lives != 1) {
            return NO_SUCH_LIVES;
        }
        book.readLines(world);
        if (settleText()) {
            return -2 - tokens.faultPlace;
        }
        int wrong = book.judge(world);
        if (lives == 1 && book.hasRightLines()) {
            past.sketch(world);
            past.keep();
            world.copyFrom(book.outcome);
        }
        return wrong;
    }

    public int told(int what) {
        return what >= 0 && what < Book.TIDINGS ? book.tidings[what] : NONE;
    }

    // ---- sentences ----

    public int sentence() {
        spareSentence.read(tokens);
        if (settleText()) {
            return -1 - tokens.faultPlace;
        }
        sentence.copyFrom(spareSentence);
        return sentence.ones;
    }

    public int said(int k) {
        if (!sentence.isTold()) {
            return NONE;
        }
        int who = sentence.ofWhom(world);
        if (k == NONE) {
            return Integer.bitCount(who);
        }
        int before = 0;
        for (int p = 0; p < world.persons; p++) {
            if ((who >> p & 1) != 0) {
                if (before == k) {
                    return p;
                }
                before++;
            }
        }
        return NONE;
    }

    // ---- images ----

    public boolean image(int k) {
        if (k < 0 || k >= IMAGES) {
            return false;
        }
        if (imageWorlds[k] == null || imageSentences[k] == null) {
            imageWorlds[k] = new World();
            imageSentences[k] = new Sentence();
        }
        imageWorlds[k].copyFrom(world);
        imageSentences[k].copyFrom(sentence);
        return true;
    }

    public boolean restore(int k) {
        if (k < 0 || k >= IMAGES || imageWorlds[k] == null || imageSentences[k] == null) {
            return false;
        }
        world.copyFrom(imageWorlds[k]);
        sentence.copyFrom(imageSentences[k]);
        past.forget();
        return true;
    }

    // ---- small questions that several parts ask ----

    private static boolean isEnd(int e) {
        return e >= 0 && e < ENDS;
    }

    private static boolean isSpan(int n) {
        return n >= 1 && n <= MOST_DAYS;
    }

    private static int endAt(int place) {
        return place == FAR_PLACE ? FAR_END : NEAR_END;
    }

    private static int placeOf(int end) {
        return end == FAR_END ? FAR_PLACE : NEAR_PLACE;
    }

    /** The WORDS that no NAME may be, and NAME for all others. */
    private enum Word {
        NAME(""),
        THING("thing"), PERSON("person"), HAS("has"), ASKS("asks"), MEETS("meets"),
        NEAR("near"), BRIDGE("bridge"), FAR("far"),
        GOES("goes"), JOINS("joins"), PARTS("parts"), TRADES("trades"), ASK("ask"), DAY("day"),
        OR("or"), AND("and"), NOT("not"), PAYS("pays"), MET("met"), WANTS("wants"),
        ALL("all"), STAYED("stayed"), CROSSED("crossed"), NUMBER("number");

        final String text;

        Word(String text) {
            this.text = text;
        }
    }

    /** The bytes that were fed and not yet used. */
    private static final class Tape {
        static final int MOST = 940;
        static final int A_FEED = 20;

        final int[] bytes = new int[MOST];
        int length;

        boolean hasRoom() {
            return length + A_FEED <= MOST;
        }

        void put(int number) {
            for (int shift = 24; shift >= 0; shift -= 8) {
                if (length < MOST) {
                    bytes[length] = number >>> shift & 255;
                    length++;
                }
            }
        }
    }

    /**
     * The TOKENS of a text, one at a time. The first FAULT stays and nothing is read behind it,
     * so a reader may go on with a LINE and look for a FAULT at its end.
     */
    private static final class Tokens {
        static final int BROKEN = 0;
        static final int ENDED = 1;
        static final int WORD = 2;
        static final int NUMBER = 3;
        static final int SIGN = 4;
        static final int NUMBER_DIGITS = 3;
        /** A byte each, and the end. */
        static final int MOST = 941;

        final Tape tape;
        final int[] kinds = new int[MOST];
        final int[] places = new int[MOST];
        final long[] values = new long[MOST];
        final Word[] words = new Word[MOST];
        int scanned;
        int at;
        int kind;
        Word word = Word.NAME;
        int fault;
        int faultPlace;

        Tokens(Tape tape) {
            this.tape = tape;
        }

        /** TOKENS that begin within the most bytes are read whole; behind them comes the end, or what is too much. */
        void begin(int mostBytes) {
            fault = 0;
            faultPlace = 0;
            scanned = 0;
            int next = 0;
            while (next < tape.length && next < mostBytes) {
                int b = tape.bytes[next];
                if (isBlank(b)) {
                    next++;
                } else if (isLetter(b) || isDigit(b)) {
                    next = Math.max(next + 1, scanRun(next));
                } else {
                    put(isSign(b) ? SIGN : BROKEN, next, b, Word.NAME);
                    next++;
                }
            }
            boolean isTooLong = tape.length > mostBytes;
            put(isTooLong ? BROKEN : ENDED, isTooLong ? mostBytes : tape.length, 0, Word.NAME);
            at = -1;
            step();
        }

        /** Letters and digits belong to one run even where they make no TOKEN together. */
        private int scanRun(int from) {
            int next = from;
            int letters = 0;
            long name = 0;
            long number = 0;
            while (next < tape.length && (isLetter(tape.bytes[next]) || isDigit(tape.bytes[next]))) {
                int b = tape.bytes[next];
                if (isLetter(b)) {
                    letters++;
                    name = (name << LETTER_BITS) + (b - 'a' + 1);
                } else {
                    number = number * 10 + (b - '0');
                }
                next++;
            }
            int size = next - from;
            if (letters == size && size <= NAME_LETTERS) {
                put(WORD, from, name, wordAt(from, size));
            } else if (letters == 0 && size <= NUMBER_DIGITS) {
                put(NUMBER, from, number, Word.NAME);
            } else {
                put(BROKEN, from, 0, Word.NAME);
            }
            return next;
        }

        private Word wordAt(int from, int size) {
            for (Word w : WORDS) {
                if (w.text.length() == size && isSpelledAt(from, w.text)) {
                    return w;
                }
            }
            return Word.NAME;
        }

        private boolean isSpelledAt(int from, String text) {
            for (int i = 0; i < text.length(); i++) {
                if (from + i >= tape.length || tape.bytes[from + i] != text.charAt(i)) {
                    return false;
                }
            }
            return true;
        }

        private void put(int kindThere, int place, long value, Word wordThere) {
            if (scanned < MOST) {
                kinds[scanned] = kindThere;
                places[scanned] = place;
                values[scanned] = value;
                words[scanned] = wordThere;
                scanned++;
            }
        }

        /** Goes to the next TOKEN, unless there is a FAULT at this one. */
        void step() {
            if (fault == 0 && at + 1 < scanned) {
                at++;
                kind = kinds[at];
                word = words[at];
            }
        }

        boolean isSound() {
            return fault == 0;
        }

        void fail(int why) {
            if (fault == 0) {
                fault = why;
                faultPlace = places[at];
            }
        }

        private static boolean isBlank(int b) {
            return b == 32 || b == 10;
        }

        private static boolean isLetter(int b) {
            return b >= 'a' && b <= 'z';
        }

        private static boolean isDigit(int b) {
            return b >= '0' && b <= '9';
        }

        private static boolean isSign(int b) {
            return b == ';' || b == '<' || b == '=' || b == '>' || b == '(' || b == ')';
        }

        boolean isAt(Word w) {
            return fault == 0 && kind == WORD && word == w;
        }

        boolean isAtSign(int s) {
            return fault == 0 && kind == SIGN && values[at] == s;
        }

        void takeSign(int s) {
            if (isAtSign(s)) {
                step();
            } else {
                fail(CANT_COME);
            }
        }

        int takeComparison() {
            int s = (int) values[at];
            if (isAtSign('<') || isAtSign('=') || isAtSign('>')) {
                step();
            } else {
                fail(CANT_COME);
            }
            return s;
        }

        int takeNumber(int least, int most) {
            int n = (int) values[at];
            if (kind != NUMBER) {
                fail(CANT_COME);
            } else if (n < least || n > most) {
                fail(WRONG_NUMBER);
            }
            step();
            return n;
        }

        int takePlace() {
            int where = NONE;
            if (isAt(Word.NEAR)) {
                where = NEAR_PLACE;
            } else if (isAt(Word.BRIDGE)) {
                where = BRIDGE_PLACE;
            } else if (isAt(Word.FAR)) {
                where = FAR_PLACE;
            } else {
                fail(CANT_COME);
            }
            step();
            return where;
        }

        int takeEnd() {
            int end = NONE;
            if (isAt(Word.NEAR)) {
                end = NEAR_END;
            } else if (isAt(Word.FAR)) {
                end = FAR_END;
            } else {
                fail(CANT_COME);
            }
            step();
            return end;
        }

        /** A NAME here that nothing has yet; the reader steps on. */
        long newNameHere(World w) {
            if (!isAt(Word.NAME)) {
                fail(CANT_COME);
            } else if (w.personNamed(values[at]) != NONE || w.thingNamed(values[at]) != NONE) {
                fail(WRONG_NAME);
            }
            return values[at];
        }

        /** The PERSON named here; it is left to the reader to step on, who may find more wrong with him. */
        int personHere(World w) {
            int p = NONE;
            if (!isAt(Word.NAME)) {
                fail(CANT_COME);
            } else {
                p = w.personNamed(values[at]);
                if (p == NONE) {
                    fail(WRONG_NAME);
                }
            }
            return p;
        }

        /** The THING named here, as personHere. */
        int thingHere(World w) {
            int t = NONE;
            if (!isAt(Word.NAME)) {
                fail(CANT_COME);
            } else {
                t = w.thingNamed(values[at]);
                if (t == NONE) {
                    fail(WRONG_NAME);
                }
            }
            return t;
        }
    }

    /** A BRIDGE and all that is so on it. */
    private static final class World {
        int things;
        int persons;
        int day;
        final long[] thingNames = new long[MOST_THINGS];
        final long[] personNames = new long[MOST_PERSONS];
        final int[] thingEnds = new int[MOST_THINGS];
        final int[] thingDays = new int[MOST_THINGS];
        final int[] wants = new int[MOST_PERSONS];
        final int[] places = new int[MOST_PERSONS];
        final int[] stayed = new int[MOST_PERSONS];
        final int[] gone = new int[MOST_PERSONS];
        final int[] mates = new int[MOST_PERSONS];
        final int[] holdings = new int[MOST_PERSONS * MOST_THINGS];
        final int[] tolls = new int[ENDS * MOST_THINGS];

        void clear() {
            things = 0;
            persons = 0;
            day = 0;
            Arrays.fill(holdings, 0);
            Arrays.fill(tolls, 0);
        }

        void copyFrom(World w) {
            things = w.things;
            persons = w.persons;
            day = w.day;
            System.arraycopy(w.thingNames, 0, thingNames, 0, MOST_THINGS);
            System.arraycopy(w.personNames, 0, personNames, 0, MOST_PERSONS);
            System.arraycopy(w.thingEnds, 0, thingEnds, 0, MOST_THINGS);
            System.arraycopy(w.thingDays, 0, thingDays, 0, MOST_THINGS);
            System.arraycopy(w.wants, 0, wants, 0, MOST_PERSONS);
            System.arraycopy(w.places, 0, places, 0, MOST_PERSONS);
            System.arraycopy(w.stayed, 0, stayed, 0, MOST_PERSONS);
            System.arraycopy(w.gone, 0, gone, 0, MOST_PERSONS);
            System.arraycopy(w.mates, 0, mates, 0, MOST_PERSONS);
            System.arraycopy(w.holdings, 0, holdings, 0, MOST_PERSONS * MOST_THINGS);
            System.arraycopy(w.tolls, 0, tolls, 0, ENDS * MOST_THINGS);
        }

        void addThing(long name, int end, int days) {
            if (things < MOST_THINGS) {
                thingNames[things] = name;
                thingEnds[things] = end;
                thingDays[things] = days;
                things++;
            }
        }

        void addPerson(long name, int place, int end) {
            if (persons < MOST_PERSONS) {
                personNames[persons] = name;
                places[persons] = place;
                wants[persons] = end;
                stayed[persons] = 0;
                gone[persons] = 0;
                mates[persons] = NONE;
                persons++;
            }
        }

        int thingNamed(long name) {
            for (int t = 0; t < things; t++) {
                if (thingNames[t] == name) {
                    return t;
                }
            }
            return NONE;
        }

        int personNamed(long name) {
            for (int p = 0; p < persons; p++) {
                if (personNames[p] == name) {
                    return p;
                }
            }
            return NONE;
        }

        boolean isThing(int t) {
            return t >= 0 && t < things;
        }

        boolean isPerson(int p) {
            return p >= 0 && p < persons;
        }

        int held(int p, int t) {
            return holdings[p * MOST_THINGS + t];
        }

        /** What is above 12 is lost. */
        void setHeld(int p, int t, int n) {
            holdings[p * MOST_THINGS + t] = n < MOST_HELD ? n : MOST_HELD;
        }

        int askedAt(int e, int t) {
            return tolls[e * MOST_THINGS + t];
        }

        void setAsked(int e, int t, int n) {
            tolls[e * MOST_THINGS + t] = n;
        }

        int allOf(int p) {
            int sum = 0;
            for (int t = 0; t < things; t++) {
                sum += held(p, t);
            }
            return sum;
        }

        int heldByAll(int t) {
            int sum = 0;
            for (int p = 0; p < persons; p++) {
                sum += held(p, t);
            }
            return sum;
        }

        int allHeld() {
            int sum = 0;
            for (int p = 0; p < persons; p++) {
                sum += allOf(p);
            }
            return sum;
        }

        int allGone() {
            int sum = 0;
            for (int p = 0; p < persons; p++) {
                sum += gone[p];
            }
            return sum;
        }

        int whoIsAt(int place) {
            int bits = 0;
            for (int p = 0; p < persons; p++) {
                if (places[p] == place) {
                    bits |= 1 << p;
                }
            }
            return bits;
        }

        int lackedBits(int p, int e) {
            int bits = 0;
            for (int t = 0; t < things; t++) {
                if (held(p, t) < askedAt(e, t)) {
                    bits |= 1 << t;
                }
            }
            return bits;
        }

        boolean couldPay(int p, int e) {
            return lackedBits(p, e) == 0;
        }

        int whoCouldPay() {
            int bits = 0;
            for (int p = 0; p < persons; p++) {
                if (couldPay(p, wants[p])) {
                    bits |= 1 << p;
                }
            }
            return bits;
        }

        boolean isAtWanted(int p) {
            return places[p] == placeOf(wants[p]);
        }

        int whoCouldPassFor(int p) {
            int bits = 0;
            for (int q = 0; q < persons; q++) {
                if (q != p && holdsNoLess(q, p)) {
                    bits |= 1 << q;
                }
            }
            return bits;
        }

        private boolean holdsNoLess(int q, int p) {
            for (int t = 0; t < things; t++) {
                if (held(q, t) < held(p, t)) {
                    return false;
                }
            }
            return true;
        }

        /** The poorest on the bridge decides, THING by THING. */
        int excessAsked(int e) {
            int sum = 0;
            for (int t = 0; t < things; t++) {
                int most = 0;
                for (int p = 0; p < persons; p++) {
                    if (places[p] == BRIDGE_PLACE && wants[p] == e) {
                        most = Math.max(most, askedAt(e, t) - held(p, t));
                    }
                }
                sum += most;
            }
            return sum;
        }

        /** Of this and the four acts below: why not, or 0, and it is done. */
        int walk(int p, int to) {
            int from = places[p];
            if (to < 0 || to >= PLACES || Math.abs(to - from) != 1) {
                return 1;
            }
            if (from == BRIDGE_PLACE && lackedBits(p, endAt(to)) != 0) {
                return 2;
            }
            places[p] = to;
            stayed[p] = 0;
            gone[p]++;
            return 0;
        }

        /** May be beyond an END, where one can't walk. */
        int placeTowardsWanted(int p) {
            return wants[p] == FAR_END ? places[p] + 1 : places[p] - 1;
        }

        int placeAwayFromWanted(int p) {
            return wants[p] == FAR_END ? places[p] - 1 : places[p] + 1;
        }

        int pair(int p, int q) {
            if (p == q) {
                return 1;
            }
            if (mates[p] != NONE || mates[q] != NONE) {
                return 2;
            }
            mates[p] = q;
            mates[q] = p;
            return 0;
        }

        int unpair(int p) {
            int q = mates[p];
            if (!isPerson(q)) {
                return 1;
            }
            mates[p] = NONE;
            mates[q] = NONE;
            return 0;
        }

        int swapHalves(int p, int t, int q, int u) {
            if (p == q) {
                return 1;
            }
            if (places[p] != places[q]) {
                return 2;
            }
            if (held(p, t) < 2 || held(q, u) < 2) {
                return 3;
            }
            int givenByP = held(p, t) / 2;
            int givenByQ = held(q, u) / 2;
            // All is taken before anything is put, as t and u may be one THING.
            setHeld(p, t, held(p, t) - givenByP);
            setHeld(q, u, held(q, u) - givenByQ);
            setHeld(p, u, held(p, u) + givenByQ);
            setHeld(q, t, held(q, t) + givenByP);
            return 0;
        }

        int demand(int e, int t, int n) {
            if (askedAt(e, t) == n) {
                return 1;
            }
            setAsked(e, t, n);
            return 0;
        }

        int daysLeft() {
            return DAYS_OVER - day;
        }

        /** How many of n DAYS went by. */
        int liveDays(int n) {
            int most = Math.min(n, daysLeft());
            for (int i = 0; i < most; i++) {
                liveDay();
            }
            return Math.max(most, 0);
        }

        void liveDay() {
            for (int p = 0; p < persons; p++) {
                learnByLiving(p);
            }
            for (int p = 0; p < persons; p++) {
                if (mates[p] > p) {
                    learnByMeeting(p, mates[p]);
                }
            }
            day++;
        }

        void learnByLiving(int p) {
            stayed[p]++;
            if (places[p] == BRIDGE_PLACE) {
                return;
            }
            int end = endAt(places[p]);
            for (int t = 0; t < things; t++) {
                if (thingEnds[t] == end && thingDays[t] > 0 && stayed[p] % thingDays[t] == 0) {
                    setHeld(p, t, held(p, t) + 1);
                }
            }
        }

        /** Whether one of them learned something. */
        boolean learnByMeeting(int p, int q) {
            if (!isPerson(q) || places[p] != places[q]) {
                return false;
            }
            boolean isLearned = false;
            for (int t = 0; t < things; t++) {
                int more = held(p, t) - held(q, t);
                if (more >= 2) {
                    setHeld(q, t, held(q, t) + 1);
                    isLearned = true;
                } else if (more <= -2) {
                    setHeld(p, t, held(p, t) + 1);
                    isLearned = true;
                }
            }
            return isLearned;
        }
    }

    /** How all was ahead of the latest acts. */
    private static final class Past {
        static final int MOST_KEPT = 8;
        /** One more than is kept, so that an act that is refused costs no older one. */
        static final int ROOMS = 9;

        final World[] worlds = new World[ROOMS];
        int next;
        int kept;

        Past() {
            for (int i = 0; i < ROOMS; i++) {
                worlds[i] = new World();
            }
        }

        void sketch(World w) {
            worlds[next].copyFrom(w);
        }

        /** The latest sketch counts. */
        void keep() {
            next = (next + 1) % ROOMS;
            kept = Math.min(kept + 1, MOST_KEPT);
        }

        int takeBack(World w) {
            if (kept == 0) {
                return NONE;
            }
            next = (next + ROOMS - 1) % ROOMS;
            w.copyFrom(worlds[next]);
            kept--;
            return kept;
        }

        void forget() {
            kept = 0;
        }
    }

    /** Reads a BRIDGE into a world of its own. */
    private static final class BridgeReader {
        final Tokens tokens;
        final World built = new World();

        BridgeReader(Tokens tokens) {
            this.tokens = tokens;
        }

        int readLines() {
            built.clear();
            tokens.begin(BRIDGE_BYTES);
            int lines = 0;
            while (lines < Tape.MOST && tokens.isSound() && tokens.kind != Tokens.ENDED) {
                readLine();
                tokens.takeSign(';');
                lines++;
            }
            return lines;
        }

        private void readLine() {
            if (tokens.isAt(Word.THING)) {
                readThing();
            } else if (tokens.isAt(Word.PERSON)) {
                readPerson();
            } else if (tokens.isAt(Word.HAS)) {
                readHas();
            } else if (tokens.isAt(Word.ASKS)) {
                readAsks();
            } else if (tokens.isAt(Word.MEETS)) {
                readMeets();
            } else {
                tokens.fail(CANT_COME);
            }
        }

        private void readThing() {
            if (built.things >= MOST_THINGS) {
                tokens.fail(TOO_MANY);
            }
            tokens.step();
            long name = tokens.newNameHere(built);
            tokens.step();
            int end = tokens.takeEnd();
            int days = tokens.takeNumber(1, 9);
            if (tokens.isSound()) {
                built.addThing(name, end, days);
            }
        }

        private void readPerson() {
            if (built.persons >= MOST_PERSONS) {
                tokens.fail(TOO_MANY);
            }
            tokens.step();
            long name = tokens.newNameHere(built);
            tokens.step();
            int place = tokens.takePlace();
            int end = tokens.takeEnd();
            if (tokens.isSound()) {
                built.addPerson(name, place, end);
            }
        }

        private void readHas() {
            tokens.step();
            int p = tokens.personHere(built);
            tokens.step();
            int t = tokens.thingHere(built);
            if (tokens.isSound() && built.held(p, t) != 0) {
                tokens.fail(WRONG_NAME);
            }
            tokens.step();
            int n = tokens.takeNumber(1, MOST_HELD);
            if (tokens.isSound()) {
                built.setHeld(p, t, n);
            }
        }

        private void readAsks() {
            tokens.step();
            int e = tokens.takeEnd();
            int t = tokens.thingHere(built);
            if (tokens.isSound() && built.askedAt(e, t) != 0) {
                tokens.fail(WRONG_NAME);
            }
            tokens.step();
            int n = tokens.takeNumber(1, MOST_HELD);
            if (tokens.isSound()) {
                built.setAsked(e, t, n);
            }
        }

        private void readMeets() {
            tokens.step();
            int p = personToMeet();
            tokens.step();
            int q = personToMeet();
            if (tokens.isSound() && p == q) {
                tokens.fail(WRONG_NAME);
            }
            tokens.step();
            if (tokens.isSound()) {
                built.pair(p, q);
            }
        }

        private int personToMeet() {
            int p = tokens.personHere(built);
            if (tokens.isSound() && built.mates[p] != NONE) {
                tokens.fail(WRONG_NAME);
            }
            return p;
        }
    }

    /** A BOOK: its LINES as numbers, and what came of them. */
    private static final class Book {
        static final int MOST_LINES = 40;
        static final int PARTS = 4;
        static final int TIDINGS = 4;
        static final int FEWER_DAYS_LEFT = 51;

        final Tokens tokens;
        final Word[] acts = new Word[MOST_LINES];
        final int[][] parts = new int[MOST_LINES][PARTS];
        int lines;
        final World outcome = new World();
        final int[] tidings = new int[TIDINGS];

        Book(Tokens tokens) {
            this.tokens = tokens;
            Arrays.fill(tidings, NONE);
            for (int i = 0; i < MOST_LINES; i++) {
                acts[i] = Word.NAME;
            }
        }

        void readLines(World w) {
            lines = 0;
            tokens.begin(BOOK_BYTES);
            while (lines < MOST_LINES && tokens.isSound() && tokens.kind != Tokens.ENDED) {
                readLine(w);
                tokens.takeSign(';');
                lines++;
            }
            if (tokens.isSound() && tokens.kind != Tokens.ENDED) {
                refuseLine(w);
            }
        }

        /** The LINE is one too many, unless something less is wrong with its first TOKEN. */
        private void refuseLine(World w) {
            if (!tokens.isAt(Word.ASK) && !tokens.isAt(Word.DAY)) {
                tokens.personHere(w);
            }
            tokens.fail(TOO_MANY);
        }

        private void readLine(World w) {
            int[] line = parts[lines];
            if (tokens.isAt(Word.ASK)) {
                acts[lines] = Word.ASK;
                tokens.step();
                line[0] = tokens.takeEnd();
                line[1] = takeThing(w);
                line[2] = tokens.takeNumber(0, MOST_HELD);
            } else if (tokens.isAt(Word.DAY)) {
                acts[lines] = Word.DAY;
                tokens.step();
                line[0] = tokens.takeNumber(1, MOST_DAYS);
            } else {
                line[0] = takePerson(w);
                acts[lines] = tokens.word;
                readDeed(w, line);
            }
        }

        private void readDeed(World w, int[] line) {
            if (tokens.isAt(Word.GOES)) {
                tokens.step();
                line[1] = tokens.takePlace();
            } else if (tokens.isAt(Word.JOINS)) {
                tokens.step();
                line[1] = takePerson(w);
            } else if (tokens.isAt(Word.PARTS)) {
                tokens.step();
            } else if (tokens.isAt(Word.TRADES)) {
                tokens.step();
                line[1] = takeThing(w);
                line[2] = takePerson(w);
                line[3] = takeThing(w);
            } else {
                tokens.fail(CANT_COME);
            }
        }

        private int takePerson(World w) {
            int p = tokens.personHere(w);
            tokens.step();
            return p;
        }

        private int takeThing(World w) {
            int t = tokens.thingHere(w);
            tokens.step();
            return t;
        }

        /** Lives it in a world of its own: the LINE that is WRONG, or NONE. */
        int judge(World w) {
            outcome.copyFrom(w);
            int why = 0;
            int right = 0;
            while (right < lines && why == 0) {
                why = liveLine(acts[right], parts[right]);
                if (why == 0) {
                    right++;
                }
            }
            tidings[0] = why;
            tidings[1] = right;
            tidings[2] = outcome.day;
            tidings[3] = outcome.whoCouldPay();
            return why == 0 ? NONE : right;
        }

        /** Without one nothing is lived, and there is nothing that could be undone. */
        boolean hasRightLines() {
            return tidings[1] > 0;
        }

        private int liveLine(Word act, int[] line) {
            switch (act) {
                case GOES:
                    return outcome.walk(line[0], line[1]);
                case JOINS:
                    return raised(outcome.pair(line[0], line[1]), 10);
                case PARTS:
                    return raised(outcome.unpair(line[0]), 20);
                case TRADES:
                    return raised(outcome.swapHalves(line[0], line[1], line[2], line[3]), 30);
                case ASK:
                    return raised(outcome.demand(line[0], line[1], line[2]), 40);
                default:
                    if (outcome.daysLeft() < line[0]) {
                        return FEWER_DAYS_LEFT;
                    }
                    outcome.liveDays(line[0]);
                    return 0;
            }
        }

        private static int raised(int why, int by) {
            return why == 0 ? 0 : why + by;
        }
    }

    /** A SENTENCE, its parts in the order in which they are worked out (what joins two behind both). */
    private static final class Sentence {
        static final int MOST_ONES = 20;
        static final int MOST_WITHIN = 8;
        /** Each ONE but the first may bring an 'and' or 'or'. */
        static final int MOST_PARTS = 40;
        static final int MOST_NUMBER = 999;

        int ones;
        int parts;
        final Word[] words = new Word[MOST_PARTS];
        final int[] signs = new int[MOST_PARTS];
        final int[] numbers = new int[MOST_PARTS];
        final int[] pile = new int[MOST_PARTS];
        int height;

        Sentence() {
            for (int i = 0; i < MOST_PARTS; i++) {
                words[i] = Word.NAME;
            }
        }

        boolean isTold() {
            return ones > 0;
        }

        void forget() {
            ones = 0;
            parts = 0;
        }

        void copyFrom(Sentence s) {
            ones = s.ones;
            parts = s.parts;
            for (int i = 0; i < MOST_PARTS; i++) {
                words[i] = s.words[i];
            }
            System.arraycopy(s.signs, 0, signs, 0, MOST_PARTS);
            System.arraycopy(s.numbers, 0, numbers, 0, MOST_PARTS);
        }

        void read(Tokens tokens) {
            forget();
            tokens.begin(SENTENCE_BYTES);
            readCond(tokens, 1);
            if (tokens.kind != Tokens.ENDED) {
                tokens.fail(CANT_COME);
            }
        }

        private void readCond(Tokens tokens, int depth) {
            readAll(tokens, depth);
            for (int i = 0; i < MOST_ONES && tokens.isAt(Word.OR); i++) {
                tokens.step();
                readAll(tokens, depth);
                put(Word.OR, 0, 0);
            }
        }

        private void readAll(Tokens tokens, int depth) {
            readOne(tokens, depth);
            for (int i = 0; i < MOST_ONES && tokens.isAt(Word.AND); i++) {
                tokens.step();
                readOne(tokens, depth);
                put(Word.AND, 0, 0);
            }
        }

        private void readOne(Tokens tokens, int depth) {
            boolean isBracket = tokens.isAtSign('(');
            if (!isBracket && !(tokens.kind == Tokens.WORD && opensOne(tokens.word))) {
                tokens.fail(CANT_COME);
            } else if (ones >= MOST_ONES || depth > MOST_WITHIN) {
                tokens.fail(TOO_MANY);
            }
            if (!tokens.isSound()) {
                return;
            }
            ones++;
            Word word = tokens.word;
            tokens.step();
            if (isBracket) {
                readCond(tokens, depth + 1);
                tokens.takeSign(')');
            } else if (word == Word.NOT) {
                readOne(tokens, depth + 1);
                put(Word.NOT, 0, 0);
            } else {
                readPlainOne(tokens, word);
            }
        }

        private void readPlainOne(Tokens tokens, Word word) {
            switch (word) {
                case PAYS:
                case WANTS:
                    put(word, 0, tokens.takeEnd());
                    break;
                case ALL:
                case STAYED:
                case CROSSED:
                case NUMBER:
                    int sign = tokens.takeComparison();
                    put(word, sign, tokens.takeNumber(0, MOST_NUMBER));
                    break;
                default:
                    put(word, 0, 0);
                    break;
            }
        }

        private static boolean opensOne(Word word) {
            switch (word) {
                case NOT:
                case NEAR:
                case BRIDGE:
                case FAR:
                case PAYS:
                case MET:
                case WANTS:
                case ALL:
                case STAYED:
                case CROSSED:
                case NUMBER:
                    return true;
                default:
                    return false;
            }
        }

        private void put(Word word, int sign, int number) {
            if (parts < MOST_PARTS) {
                words[parts] = word;
                signs[parts] = sign;
                numbers[parts] = number;
                parts++;
            }
        }

        /** The PERSONS of whom it may be said, as bits. */
        int ofWhom(World w) {
            int all = (1 << w.persons) - 1;
            height = 0;
            for (int i = 0; i < parts; i++) {
                if (words[i] == Word.NOT) {
                    push(all & ~pop());
                } else if (words[i] == Word.AND) {
                    push(pop() & pop());
                } else if (words[i] == Word.OR) {
                    push(pop() | pop());
                } else {
                    push(plainBits(w, i));
                }
            }
            return pop();
        }

        private void push(int bits) {
            if (height < MOST_PARTS) {
                pile[height] = bits;
                height++;
            }
        }

        private int pop() {
            if (height == 0) {
                return 0;
            }
            height--;
            return pile[height];
        }

        private int plainBits(World w, int i) {
            int bits = 0;
            for (int p = 0; p < w.persons; p++) {
                if (holdsOf(w, p, i)) {
                    bits |= 1 << p;
                }
            }
            return bits;
        }

        private boolean holdsOf(World w, int p, int i) {
            switch (words[i]) {
                case NEAR:
                    return w.places[p] == NEAR_PLACE;
                case BRIDGE:
                    return w.places[p] == BRIDGE_PLACE;
                case FAR:
                    return w.places[p] == FAR_PLACE;
                case PAYS:
                    return w.couldPay(p, numbers[i]);
                case MET:
                    return w.mates[p] != NONE;
                case WANTS:
                    return w.wants[p] == numbers[i];
                case ALL:
                    return compares(w.allOf(p), i);
                case STAYED:
                    return compares(w.stayed[p], i);
                case CROSSED:
                    return compares(w.gone[p], i);
                default:
                    return compares(p, i);
            }
        }

        private boolean compares(int value, int i) {
            if (signs[i] == '<') {
                return value < numbers[i];
            }
            if (signs[i] == '>') {
                return value > numbers[i];
            }
            return value == numbers[i];
        }
    }

    /** DAYS by draws. */
    private static final class Draws {
        int x;

        void begin(int seed) {
            x = seed;
        }

        private int draw(int n) {
            x = x * 1103515245 + 12345;
            return n > 0 ? (x >>> 8) % n : 0;
        }

        /** How many of n DAYS went by. */
        int liveDays(World w, int n) {
            int most = Math.min(n, w.daysLeft());
            for (int i = 0; i < most; i++) {
                for (int p = 0; p < w.persons; p++) {
                    actByDraw(w, p);
                }
                w.liveDay();
            }
            return Math.max(most, 0);
        }

        private void actByDraw(World w, int p) {
            switch (draw(5)) {
                case 0:
                    w.walk(p, w.placeTowardsWanted(p));
                    break;
                case 1:
                    w.walk(p, w.placeAwayFromWanted(p));
                    break;
                case 2:
                    w.pair(p, draw(w.persons));
                    break;
                case 3:
                    w.unpair(p);
                    break;
                default:
                    break;
            }
        }
    }

    /** What would go on, tried out in a world of its own. */
    private static final class Outlook {
        static final int NEVER = 1000;

        final Draws draws;
        final World trial = new World();
        int latestTeacher = NONE;
        int latestCrowd = NONE;
        final int[] latestSchool = new int[MOST_PERSONS];
        final int[][] pairDays = new int[MOST_PERSONS][MOST_PERSONS];
        final int[] mates = new int[MOST_PERSONS];
        int leastDays;

        Outlook(Draws draws) {
            this.draws = draws;
            Arrays.fill(latestSchool, NONE);
        }

        /**
         * DAYS till p could PAY, if from now on he meets q (NONE: nobody). One learns from none but
         * the one whom one meets, so the two alone are looked at.
         */
        int daysTillPaying(World now, int p, int q, int e, int most) {
            trial.copyFrom(now);
            int bound = Math.min(most, now.daysLeft());
            for (int d = 0; d <= bound; d++) {
                if (trial.couldPay(p, e)) {
                    return d;
                }
                trial.learnByLiving(p);
                if (trial.isPerson(q)) {
                    trial.learnByLiving(q);
                }
                // Nothing but meeting teaches on the bridge: a DAY without that is like all behind it.
                if (!trial.learnByMeeting(p, q) && trial.places[p] == BRIDGE_PLACE) {
                    return NONE;
                }
            }
            return NONE;
        }

        int findTeacher(World now, int p) {
            int who = NONE;
            int least = daysTillPaying(now, p, NONE, now.wants[p], MOST_FORESEEN);
            for (int q = 0; q < now.persons; q++) {
                if (q != p) {
                    int d = daysTillPaying(now, p, q, now.wants[p], MOST_FORESEEN);
                    if (d != NONE && (least == NONE || d < least)) {
                        least = d;
                        who = q;
                    }
                }
            }
            if (least != NONE) {
                latestTeacher = who;
            }
            return least;
        }

        int findSchool(World now) {
            Arrays.fill(mates, NONE);
            for (int p = 0; p < now.persons; p++) {
                for (int q = p; q < now.persons; q++) {
                    pairDays[p][q] = daysTogether(now, p, q);
                }
            }
            leastDays = MOST_SCHOOL + 1;
            tryPairs(now.persons, 0, now.whoIsAt(BRIDGE_PLACE), 0);
            return leastDays <= MOST_SCHOOL ? leastDays : NONE;
        }

        /** Asked of the PERSONS of that school(): the BRIDGE may be another one by now. */
        int schoolmateOf(int p) {
            return p >= 0 && p < MOST_PERSONS ? latestSchool[p] : NONE;
        }

        /** DAYS till both could PAY what they WANT (p and p: till he could without meeting anybody). */
        private int daysTogether(World now, int p, int q) {
            if (now.places[p] != BRIDGE_PLACE || now.places[q] != BRIDGE_PLACE) {
                return NEVER;
            }
            int forP = daysTillPaying(now, p, p == q ? NONE : q, now.wants[p], MOST_SCHOOL);
            int forQ = p == q ? forP : daysTillPaying(now, q, p, now.wants[q], MOST_SCHOOL);
            return forP == NONE || forQ == NONE ? NEVER : Math.max(forP, forQ);
        }

        /**
         * Goes on with PERSON p, those in the bits free being without a choice yet. The first of like
         * ones comes first, so only what is less than the least so far is worth looking at.
         */
        private void tryPairs(int persons, int p, int free, int worst) {
            if (worst >= leastDays) {
                return;
            }
            if (p >= persons || p >= MOST_PERSONS) {
                leastDays = worst;
                System.arraycopy(mates, 0, latestSchool, 0, MOST_PERSONS);
                return;
            }
            if ((free >> p & 1) == 0) {
                tryPairs(persons, p + 1, free, worst);
                return;
            }
            int others = free & ~(1 << p);
            for (int q = p + 1; q < persons; q++) {
                if ((others >> q & 1) != 0) {
                    mates[p] = q;
                    mates[q] = p;
                    tryPairs(persons, p + 1, others & ~(1 << q), Math.max(worst, pairDays[p][q]));
                    mates[q] = NONE;
                }
            }
            mates[p] = NONE;
            tryPairs(persons, p + 1, others, Math.max(worst, pairDays[p][p]));
        }

        int findRush(World now) {
            trial.copyFrom(now);
            latestCrowd = 0;
            for (int d = 0; d <= MOST_FORESEEN && trial.day < DAYS_OVER; d++) {
                boolean areAllOver = true;
                for (int p = 0; p < trial.persons; p++) {
                    if (!trial.isAtWanted(p)) {
                        trial.walk(p, trial.placeTowardsWanted(p));
                    }
                    areAllOver = areAllOver && trial.isAtWanted(p);
                }
                latestCrowd = Math.max(latestCrowd, Integer.bitCount(trial.whoIsAt(BRIDGE_PLACE)));
                if (areAllOver) {
                    return d;
                }
                trial.liveDay();
            }
            return NONE;
        }

        int timesAtWanted(World now, int p, int n, int seed) {
            int times = 0;
            for (int i = 0; i < n; i++) {
                trial.copyFrom(now);
                draws.begin(seed + i);
                draws.liveDays(trial, ODDS_DAYS);
                if (trial.isAtWanted(p)) {
                    times++;
                }
            }
            return times;
        }
    }

    /** Sets of THINGS that may be what is asked, by who was let by. */
    private static final class Law {
        static final int MOST_SETS = 64;
        static final int MOST_BYTES = 17;

        final int[] sets = new int[MOST_SETS];
        /** Of each PERSON the THINGS of which he has enough, as bits. */
        final int[] enough = new int[MOST_PERSONS];
        int latestSmallest = NONE;
        int latestOffer = NONE;

        /** How many; NONE: the tape is not as told. */
        int findSets(Tape tape, World w) {
            if (!isAsTold(tape, w)) {
                return NONE;
            }
            for (int p = 0; p < w.persons; p++) {
                enough[p] = enoughOf(w, p, tape.bytes[0]);
            }
            int found = 0;
            for (int set = 0; set < 1 << w.things; set++) {
                if (found < MOST_SETS && agrees(set, tape)) {
                    sets[found] = set;
                    found++;
                }
            }
            if (found > 0) {
                latestSmallest = smallestOf(found);
                latestOffer = bestOffer(found, w.persons);
            }
            return found;
        }

        private static boolean isAsTold(Tape tape, World w) {
            if (tape.length < 3 || tape.length > MOST_BYTES || tape.length % 2 == 0) {
                return false;
            }
            if (tape.bytes[0] < 1 || tape.bytes[0] > MOST_HELD) {
                return false;
            }
            for (int i = 1; i + 1 < tape.length; i += 2) {
                if (!w.isPerson(tape.bytes[i]) || tape.bytes[i + 1] > 1) {
                    return false;
                }
            }
            return true;
        }

        private static int enoughOf(World w, int p, int n) {
            int bits = 0;
            for (int t = 0; t < w.things; t++) {
                if (w.held(p, t) >= n) {
                    bits |= 1 << t;
                }
            }
            return bits;
        }

        private boolean agrees(int set, Tape tape) {
            for (int i = 1; i + 1 < tape.length; i += 2) {
                if (letsBy(set, tape.bytes[i]) != (tape.bytes[i + 1] == 1)) {
                    return false;
                }
            }
            return true;
        }

        private boolean letsBy(int set, int p) {
            return p >= 0 && p < MOST_PERSONS && (set & ~enough[p]) == 0;
        }

        /** The sets stand in the order of their bits, so the first of like ones is the least. */
        private int smallestOf(int found) {
            int least = sets[0];
            for (int i = 1; i < found; i++) {
                if (Integer.bitCount(sets[i]) < Integer.bitCount(least)) {
                    least = sets[i];
                }
            }
            return least;
        }

        private int bestOffer(int found, int persons) {
            int who = NONE;
            int least = found + 1;
            for (int p = 0; p < persons; p++) {
                int letting = 0;
                for (int i = 0; i < found; i++) {
                    if (letsBy(sets[i], p)) {
                        letting++;
                    }
                }
                int left = Math.max(letting, found - letting);
                if (left < least) {
                    least = left;
                    who = p;
                }
            }
            return who;
        }
    }
}
