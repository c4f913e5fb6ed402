/**
 * A house of talks: processes that speak over channels, each by a type of talk that tells who says what
 * next. Texts come over a tape, are read and judged, and what is taken runs step by step.
 *
 * <p>All rows are made in constructors and used again, so that no call makes an object.
 */
public final class TalkHouse {
    public static final int NONE = -1;

    private static final int MAX_BYTES = 1000;
    private static final int BYTES_A_FEED = 20;
    private static final int MAX_LETTERS = 6;
    private static final int MAX_DIGITS = 4;
    private static final int MAX_TYPES = 12;
    private static final int MAX_DEFS = 12;
    private static final int MAX_PARAMS = 4;
    private static final int MAX_CHOICES = 6;
    private static final int MAX_OPEN_TALKS = 12;
    private static final int MAX_PARTS = 200;
    private static final int MAX_OPEN = 8;
    private static final int MAX_WORDS = 80;
    private static final int MAX_PROCESSES = 80;
    private static final int MAX_STEPS = 600;
    private static final int MAX_SAID = 200;
    /** A part prints at most a NAME with what stands around it, a sign and the brackets: 20 bytes. */
    private static final int MAX_PRINTED = 20 * MAX_PARTS;
    /** The shortest thing that makes a node is "if0{": four bytes. */
    private static final int MAX_NODES = MAX_BYTES / 4;
    /** A NAME of a CHOICE or an ARG takes two bytes at least; a case keeps a whole CHOICE ahead of its text. */
    private static final int MAX_BRANCHES = MAX_BYTES / 2;
    /** What a PROCESS can know by name: the CHANNEL given, the PARAMS, and one thing more for each WORD. */
    private static final int ROOM = 1 + MAX_PARAMS + MAX_WORDS;
    private static final int GIVEN = 0;

    private static final int CANNOT_STAND = 1;
    private static final int WRONG_NAME = 2;
    private static final int OTHER_TALK = 3;
    private static final int LEFT_OVER = 4;
    private static final int TOO_MUCH = 5;
    private static final int ARGS_COUNT = 6;
    private static final int LAST_HAS_PARAM = 7;

    /** Kinds of TOKENS: a sign of one byte is its own kind, so the others begin above all bytes. */
    private static final int NAME = 256;
    private static final int NUMBER = 257;
    private static final int EQUAL = 258;
    private static final int BAD = 259;
    private static final int STOP = 260;
    private static final int NEGATE = 261;
    private static final String SIGNS = "(){},;:.=!?><+-*&|";
    /** Each WORD is closed by a blank; the kind of the k-th is TYPE + k. */
    private static final String WORDS =
        "type def end put get send take pick case new same go if else say close wait ";
    private static final int WORD_COUNT = 17;
    private static final int TYPE = 300;
    private static final int DEF = 301;
    private static final int END = 302;
    private static final int PUT = 303;
    private static final int GET = 304;
    private static final int SEND = 305;
    private static final int TAKE = 306;
    private static final int PICK = 307;
    private static final int CASE = 308;
    private static final int NEW = 309;
    private static final int SAME = 310;
    private static final int GO = 311;
    private static final int IF = 312;
    private static final int ELSE = 313;
    private static final int SAY = 314;
    private static final int CLOSE = 315;
    private static final int WAIT = 316;

    private static final int DOWN = 0;
    private static final int UP = 1;
    private static final int OF_NUMBER = 0;
    private static final int OF_CHANNEL = 1;
    private static final int OF_NAME = 2;
    private static final int OF_END = 3;
    private static final int FIRST_LETTER = 100;

    private final Row tape = new Row(MAX_BYTES);
    private final Row printed = new Row(MAX_PRINTED);
    private final Cursor cursor = new Cursor();
    private final Reader reader;
    private final Stage stage;
    private Book now = new Book();
    private Book spare = new Book();
    private boolean loaded;

    public TalkHouse() {
        reader = new Reader(cursor, spare);
        stage = new Stage(now);
    }

    public int feed(int a, int b, int c, int d, int e) {
        if (tape.size() + BYTES_A_FEED > MAX_BYTES) {
            return NONE;
        }
        tape.addBytes(a);
        tape.addBytes(b);
        tape.addBytes(c);
        tape.addBytes(d);
        tape.addBytes(e);
        return tape.size();
    }

    public boolean end(int n) {
        if (n < 0 || n > tape.size()) {
            return false;
        }
        tape.cut(n);
        return true;
    }

    public int load() {
        cursor.start(tape);
        tape.clear();
        reader.use(spare);
        reader.readTypes();
        for (int i = 0; i <= MAX_DEFS && !cursor.failed(); i++) {
            reader.readDef();
            if (cursor.is(STOP)) {
                break;
            }
        }
        reader.judgeLast();
        if (cursor.failed()) {
            return NONE;
        }
        takeSpare();
        return now.defNames.size();
    }

    /** The book of before becomes the spare one: a faulty text must leave the text that runs as it is. */
    private void takeSpare() {
        Book before = now;
        now = spare;
        spare = before;
        loaded = true;
        stage.start(now);
    }

    public int fault(int what) {
        switch (what) {
            case 0:
                return cursor.fault;
            case 1:
                return cursor.faultPlace;
            default:
                return NONE;
        }
    }

    public int look(int what) {
        if (what < 0 || what > 7) {
            return NONE;
        }
        if (!loaded) {
            return 0;
        }
        switch (what) {
            case 0:
                return now.typeNames.size();
            case 1:
                return now.defNames.size();
            case 2:
                return stage.made();
            case 3:
                return stage.alive();
            case 4:
                return stage.channels.made();
            case 5:
                return stage.done;
            case 6:
                return stage.saidCount;
            default:
                return stage.spent ? 1 : 0;
        }
    }

    public int def(int i, int what) {
        if (!loaded) {
            return NONE;
        }
        switch (what) {
            case 0:
                return now.paramCounts.at(i);
            case 1:
                return now.isDef(i) ? now.channelParams(i) : NONE;
            case 2:
                return now.wordCounts.at(i);
            case 3:
                return now.leasts.at(i);
            default:
                return NONE;
        }
    }

    public int print(int i, int k) {
        int t = talkOf(i, k);
        if (t == NONE) {
            return NONE;
        }
        printed.clear();
        now.types.write(t, printed);
        return printed.size();
    }

    public boolean same(int i, int k, int j, int m) {
        int t = talkOf(i, k);
        return t != NONE && t == talkOf(j, m);
    }

    private int talkOf(int i, int k) {
        if (!loaded) {
            return NONE;
        }
        return k == NONE ? now.gives.at(i) : now.paramT(i, k);
    }

    public int out(int i) {
        return printed.at(i);
    }

    public boolean begin() {
        if (loaded) {
            stage.start(now);
        }
        return loaded;
    }

    public int ready() {
        return stage.readies.size();
    }

    public int which(int k) {
        return stage.readies.at(k);
    }

    public int step(int k) {
        return stage.advance(k);
    }

    public int run(int seed, int n) {
        if (n < 0 || n > MAX_STEPS) {
            return NONE;
        }
        int drawn = seed;
        int count = 0;
        for (int i = 0; i < n; i++) {
            int choices = stage.readies.size();
            if (choices <= 0) {
                break;
            }
            drawn = drawn * 1103515245 + 12345;
            if (stage.advance((drawn >>> 16) % choices) != NONE) {
                count++;
            }
        }
        return count;
    }

    public int process(int p, int what) {
        if (p < 0 || p >= stage.made()) {
            return NONE;
        }
        switch (what) {
            case 0:
                return stage.defs.at(p);
            case 1:
                return stage.overs.at(p);
            case 2:
                return stage.isWaiting(p) ? 1 : 0;
            case 3:
                return stage.steps.at(p);
            case 4:
                return stage.givenBy(p);
            case 5:
                return stage.has.at(p);
            case 6:
                return stage.saids.at(p);
            default:
                return NONE;
        }
    }

    public int channel(int c, int what) {
        Channels channels = stage.channels;
        if (c < 0 || c >= channels.made()) {
            return NONE;
        }
        switch (what) {
            case 0:
                return channels.count(channels.follow(c), DOWN);
            case 1:
                return channels.count(channels.follow(c), UP);
            case 2:
                return channels.follow(c) == c ? 0 : 1;
            default:
                return NONE;
        }
    }

    public int message(int c, int i, int what) {
        Channels channels = stage.channels;
        int place = channels.find(channels.follow(c), i);
        if (place == NONE) {
            return NONE;
        }
        int kind = channels.kinds.at(place);
        int value = channels.values.at(place);
        if (what == 0) {
            return kind;
        }
        if (what == 1) {
            return kind == OF_NAME ? lettersIn(value) : value;
        }
        if (kind != OF_NAME || what < FIRST_LETTER) {
            return NONE;
        }
        return letterOf(value, what - FIRST_LETTER);
    }

    public int said(int i, int what) {
        switch (what) {
            case 0:
                return stage.saidNumbers.at(i);
            case 1:
                return stage.saidProcesses.at(i);
            default:
                return NONE;
        }
    }

    private static boolean isSmallLetter(int sign) {
        return sign >= 'a' && sign <= 'z';
    }

    /** Capital letters stand in no NAME, but a NUMBER has none behind it either. */
    private static boolean isLetter(int sign) {
        return isSmallLetter(sign) || sign >= 'A' && sign <= 'Z';
    }

    private static boolean isDigit(int sign) {
        return sign >= '0' && sign <= '9';
    }

    /** Five bits a letter, the first one highest: so the order of the ints is the order of the alphabet. */
    private static int shiftOf(int k) {
        return 5 * (MAX_LETTERS - 1 - k);
    }

    private static int withLetter(int name, int k, int letter) {
        if (k < 0 || k >= MAX_LETTERS) {
            return name;
        }
        return name | (letter - 'a' + 1) << shiftOf(k);
    }

    private static int letterOf(int name, int k) {
        if (k < 0 || k >= MAX_LETTERS) {
            return NONE;
        }
        int letter = (name >>> shiftOf(k)) & 31;
        return letter == 0 ? NONE : 'a' - 1 + letter;
    }

    private static int lettersIn(int name) {
        int count = 0;
        for (int k = 0; k < MAX_LETTERS; k++) {
            if (letterOf(name, k) != NONE) {
                count++;
            }
        }
        return count;
    }

    /** A row of ints with a fixed room; what lies outside it is NONE, and is not changed. */
    private static final class Row {
        private final int[] items;
        private int size;

        Row(int room) {
            items = new int[Math.max(room, 0)];
        }

        int size() {
            return size;
        }

        void clear() {
            size = 0;
        }

        void cut(int n) {
            if (n >= 0 && n < size) {
                size = n;
            }
        }

        int at(int i) {
            return i >= 0 && i < size ? items[i] : NONE;
        }

        void put(int i, int value) {
            if (i >= 0 && i < size) {
                items[i] = value;
            }
        }

        void bump(int i, int by) {
            if (i >= 0 && i < size) {
                items[i] += by;
            }
        }

        int add(int value) {
            if (size >= items.length) {
                return NONE;
            }
            items[size] = value;
            size++;
            return size - 1;
        }

        void addBytes(int four) {
            for (int shift = 24; shift >= 0; shift -= 8) {
                add((four >>> shift) & 255);
            }
        }

        void addText(String text) {
            for (int i = 0; i < text.length(); i++) {
                add(text.charAt(i));
            }
        }

        /** All of the room is in use from now on, with the same value. */
        void fill(int value) {
            for (int i = 0; i < items.length; i++) {
                items[i] = value;
            }
            size = items.length;
        }

        int find(int value) {
            for (int i = 0; i < size; i++) {
                if (items[i] == value) {
                    return i;
                }
            }
            return NONE;
        }
    }

    /**
     * The TOKENS of a text and the one that is to be read next. The first FAULT is kept; from then on the
     * next token is BAD, which fits nowhere, so that all reading comes to its end.
     */
    private static final class Cursor {
        private final Row words = new Row(WORD_COUNT);
        private final int[] kinds = new int[MAX_BYTES + 1];
        private final int[] values = new int[MAX_BYTES + 1];
        private final int[] places = new int[MAX_BYTES + 1];
        private int count;
        private int next;
        private int kind = STOP;
        private int value;
        private int place;
        private int fault;
        private int faultPlace = NONE;

        Cursor() {
            int word = 0;
            int letters = 0;
            for (int i = 0; i < WORDS.length(); i++) {
                if (WORDS.charAt(i) == ' ') {
                    words.add(word);
                    word = 0;
                    letters = 0;
                } else {
                    word = withLetter(word, letters, WORDS.charAt(i));
                    letters++;
                }
            }
        }

        void start(Row text) {
            count = 0;
            int behind = 0;
            for (int i = 0; i < text.size(); i++) {
                if (i >= behind) {
                    behind = i + cutToken(text, i);
                }
            }
            note(STOP, 0, text.size());
            fault = 0;
            faultPlace = NONE;
            next = 0;
            advance();
        }

        /** How many bytes the token or blank at i has. */
        private int cutToken(Row text, int i) {
            int sign = text.at(i);
            if (isSmallLetter(sign)) {
                return cutLetters(text, i);
            }
            if (isDigit(sign)) {
                return cutDigits(text, i);
            }
            if (sign == ' ' || sign == '\n') {
                return 1;
            }
            if (sign == '=' && text.at(i + 1) == '=') {
                note(EQUAL, 0, i);
                return 2;
            }
            note(SIGNS.indexOf((char) sign) >= 0 ? sign : BAD, 0, i);
            return 1;
        }

        private int cutLetters(Row text, int start) {
            int name = 0;
            int length = 0;
            for (int i = start; i < text.size() && isSmallLetter(text.at(i)); i++) {
                name = withLetter(name, length, text.at(i));
                length++;
            }
            int word = words.find(name);
            if (length > MAX_LETTERS) {
                note(BAD, 0, start);
            } else {
                note(word == NONE ? NAME : TYPE + word, name, start);
            }
            return length;
        }

        private int cutDigits(Row text, int start) {
            int number = 0;
            int length = 0;
            for (int i = start; i < text.size() && isDigit(text.at(i)); i++) {
                number = number * 10 + text.at(i) - '0';
                length++;
            }
            boolean good = length <= MAX_DIGITS && !isLetter(text.at(start + length));
            note(good ? NUMBER : BAD, number, start);
            return length;
        }

        private void note(int kind, int value, int place) {
            if (count < kinds.length) {
                kinds[count] = kind;
                values[count] = value;
                places[count] = place;
                count++;
            }
        }

        void advance() {
            if (fault == 0 && next >= 0 && next < count) {
                kind = kinds[next];
                value = values[next];
                place = places[next];
                next++;
            }
        }

        void refuse(int newFault, int itsPlace) {
            if (fault == 0) {
                fault = newFault;
                faultPlace = itsPlace;
                kind = BAD;
            }
        }

        boolean failed() {
            return fault != 0;
        }

        boolean is(int wanted) {
            return kind == wanted;
        }

        boolean skip(int wanted) {
            if (kind != wanted) {
                return false;
            }
            advance();
            return true;
        }

        void want(int wanted) {
            if (kind == wanted) {
                advance();
            } else {
                refuse(CANNOT_STAND, place);
            }
        }

        /** The NAME that stands here, or 0, which is no NAME's. */
        int takeName() {
            if (kind != NAME) {
                refuse(CANNOT_STAND, place);
                return 0;
            }
            int name = value;
            advance();
            return name;
        }
    }

    /**
     * The Ts of a text. Ts that are alike in all parts are one T with one number, so two are the same if
     * their numbers are. first: A of > A . T and < A . T, else NONE; second: what comes then. Of a CHOICE
     * first tells where its branches begin, second how many there are, in the order of the alphabet.
     */
    private static final class Types {
        private final Row kinds = new Row(MAX_BYTES);
        private final Row firsts = new Row(MAX_BYTES);
        private final Row seconds = new Row(MAX_BYTES);
        private final Row parts = new Row(MAX_BYTES);
        private final Row branchNames = new Row(MAX_BRANCHES);
        private final Row branchTs = new Row(MAX_BRANCHES);
        private final Row openTs = new Row(MAX_PARTS + 1);
        private final Row openTurns = new Row(MAX_PARTS + 1);

        void clear() {
            kinds.clear();
            firsts.clear();
            seconds.clear();
            parts.clear();
            branchNames.clear();
            branchTs.clear();
        }

        private static boolean isChoice(int kind) {
            return kind == '+' || kind == '&';
        }

        int make(int kind, int first, int second) {
            for (int t = 0; t < kinds.size(); t++) {
                if (kinds.at(t) == kind && firsts.at(t) == first && seconds.at(t) == second) {
                    return t;
                }
            }
            int count = 1;
            if (first != NONE) {
                count += parts.at(first);
            }
            if (second != NONE) {
                count += parts.at(second);
            }
            return addT(kind, first, second, count);
        }

        /** The CHOICE whose branches stand in the drafts, in their order, from a place on. */
        int makeChoice(int kind, Row draftNames, Row draftTs, int from) {
            int length = draftNames.size() - from;
            for (int t = 0; t < kinds.size(); t++) {
                if (kinds.at(t) == kind && seconds.at(t) == length && isLike(t, draftNames, draftTs, from)) {
                    return t;
                }
            }
            int start = branchNames.size();
            int count = 1;
            for (int i = from; i < draftNames.size(); i++) {
                branchNames.add(draftNames.at(i));
                branchTs.add(draftTs.at(i));
                count += parts.at(draftTs.at(i));
            }
            return addT(kind, start, length, count);
        }

        private boolean isLike(int t, Row draftNames, Row draftTs, int from) {
            int start = firsts.at(t);
            for (int k = 0; k < seconds.at(t); k++) {
                if (branchNames.at(start + k) != draftNames.at(from + k)
                        || branchTs.at(start + k) != draftTs.at(from + k)) {
                    return false;
                }
            }
            return true;
        }

        private int addT(int kind, int first, int second, int count) {
            firsts.add(first);
            seconds.add(second);
            parts.add(count);
            return kinds.add(kind);
        }

        int branches(int t) {
            return isChoice(kinds.at(t)) ? seconds.at(t) : 0;
        }

        int branchName(int t, int k) {
            return branchNames.at(firsts.at(t) + k);
        }

        int branchT(int t, int k) {
            return branchTs.at(firsts.at(t) + k);
        }

        /** Which branch of a CHOICE bears the NAME. */
        int findBranch(int t, int name) {
            for (int k = 0; k < branches(t); k++) {
                if (branchName(t, k) == name) {
                    return k;
                }
            }
            return NONE;
        }

        /** Without recursion: NAMES of types let Ts grow as deep as they have parts. */
        void write(int t, Row text) {
            openTs.clear();
            openTurns.clear();
            openTs.add(t);
            openTurns.add(0);
            for (int i = 0; i < 2 * MAX_PARTS && openTs.size() > 0; i++) {
                int top = openTs.size() - 1;
                int child = writeAhead(openTs.at(top), openTurns.at(top), text);
                openTurns.bump(top, 1);
                if (child == NONE) {
                    openTs.cut(top);
                    openTurns.cut(top);
                } else {
                    openTs.add(child);
                    openTurns.add(0);
                }
            }
        }

        /** Writes what stands ahead of a T's next child, and tells it; NONE behind the last one. */
        private int writeAhead(int t, int turn, Row text) {
            int kind = kinds.at(t);
            if (isChoice(kind)) {
                return writeBranch(t, turn, text);
            }
            if (kind == END) {
                text.addText("end");
                return NONE;
            }
            if (turn == 0) {
                text.add(kind);
                text.add(' ');
                return firsts.at(t) == NONE ? seconds.at(t) : firsts.at(t);
            }
            if (turn == 1 && firsts.at(t) != NONE) {
                text.addText(" . ");
                return seconds.at(t);
            }
            return NONE;
        }

        private int writeBranch(int t, int turn, Row text) {
            if (turn >= branches(t)) {
                text.addText(" }");
                return NONE;
            }
            if (turn == 0) {
                text.add(kinds.at(t));
                text.addText(" { ");
            } else {
                text.addText(" , ");
            }
            int name = branchName(t, turn);
            for (int k = 0; k < lettersIn(name); k++) {
                text.add(letterOf(name, k));
            }
            text.addText(" : ");
            return branchT(t, turn);
        }
    }

    /** Reads Ts. The branches of CHOICES that are still open lie in the drafts, those of the inmost last. */
    private static final class TypeReader {
        private final Cursor cursor;
        private final Row draftNames = new Row(MAX_OPEN_TALKS * MAX_CHOICES + 1);
        private final Row draftTs = new Row(MAX_OPEN_TALKS * MAX_CHOICES + 1);
        private Book book;
        private int parts;

        TypeReader(Cursor cursor, Book book) {
            this.cursor = cursor;
            this.book = book;
        }

        void use(Book newBook) {
            book = newBook;
            draftNames.clear();
            draftTs.clear();
        }

        /** The T that stands here; NONE after a FAULT. */
        int readWhole() {
            parts = 0;
            return readType(0);
        }

        private int readType(int open) {
            int kind = cursor.kind;
            if (kind == NAME) {
                return readKnown();
            }
            if (kind != END && !isTalkSign(kind)) {
                cursor.refuse(CANNOT_STAND, cursor.place);
            }
            if (kind != END && open >= MAX_OPEN_TALKS) {
                cursor.refuse(TOO_MUCH, cursor.place);
            }
            countParts(1, cursor.place);
            cursor.advance();
            if (cursor.failed()) {
                return NONE;
            }
            if (kind == END) {
                return book.types.make(END, NONE, NONE);
            }
            return Types.isChoice(kind) ? readChoice(kind, open + 1) : readTalk(kind, open + 1);
        }

        private static boolean isTalkSign(int kind) {
            return kind == '!' || kind == '?' || kind == '>' || kind == '<' || Types.isChoice(kind);
        }

        private int readKnown() {
            int place = cursor.place;
            int known = book.typeNames.find(cursor.takeName());
            if (known == NONE) {
                cursor.refuse(WRONG_NAME, place);
                return NONE;
            }
            int t = book.typeTs.at(known);
            countParts(book.types.parts.at(t), place);
            return t;
        }

        private void countParts(int more, int place) {
            parts += more;
            if (parts > MAX_PARTS) {
                cursor.refuse(TOO_MUCH, place);
            }
        }

        private int readTalk(int kind, int open) {
            int first = NONE;
            if (kind == '>' || kind == '<') {
                first = readType(open);
                cursor.want('.');
            }
            int second = readType(open);
            return cursor.failed() ? NONE : book.types.make(kind, first, second);
        }

        private int readChoice(int kind, int open) {
            int from = draftNames.size();
            cursor.want('{');
            for (int k = 0; k <= MAX_CHOICES && !cursor.failed(); k++) {
                int draft = readBranchName(from);
                cursor.want(':');
                draftTs.put(draft, readType(open));
                sortLast(from);
                if (!cursor.skip(',')) {
                    break;
                }
            }
            cursor.want('}');
            if (cursor.failed()) {
                return NONE;
            }
            int t = book.types.makeChoice(kind, draftNames, draftTs, from);
            draftNames.cut(from);
            draftTs.cut(from);
            return t;
        }

        private int readBranchName(int from) {
            int place = cursor.place;
            int name = cursor.takeName();
            for (int i = from; i < draftNames.size(); i++) {
                if (draftNames.at(i) == name) {
                    cursor.refuse(WRONG_NAME, place);
                }
            }
            if (draftNames.size() - from >= MAX_CHOICES) {
                cursor.refuse(TOO_MUCH, place);
            }
            draftTs.add(NONE);
            return draftNames.add(name);
        }

        /** The last branch goes to its place among those of its CHOICE, which are in order already. */
        private void sortLast(int from) {
            for (int i = draftNames.size() - 1; i > from; i--) {
                int name = draftNames.at(i);
                int t = draftTs.at(i);
                if (draftNames.at(i - 1) < name) {
                    break;
                }
                draftNames.put(i, draftNames.at(i - 1));
                draftTs.put(i, draftTs.at(i - 1));
                draftNames.put(i - 1, name);
                draftTs.put(i - 1, t);
            }
        }
    }

    /**
     * The Es of a text as nodes, each behind its parts and with nothing else between them: so an E is
     * worked out from its first node up to its last one, its root, without recursion.
     */
    private static final class Sums {
        private final Row ops = new Row(MAX_BYTES);
        private final Row lefts = new Row(MAX_BYTES);
        private final Row rights = new Row(MAX_BYTES);
        private final Row firsts = new Row(MAX_BYTES);
        private final Row values = new Row(MAX_BYTES);

        void clear() {
            ops.clear();
            lefts.clear();
            rights.clear();
            firsts.clear();
            values.clear();
        }

        /** A NUMBER, or a NAME with its place: both stand in left. */
        int addLeaf(int op, int left) {
            firsts.add(ops.size());
            lefts.add(left);
            rights.add(NONE);
            values.add(0);
            return ops.add(op);
        }

        int addNode(int op, int left, int right) {
            firsts.add(firsts.at(left));
            lefts.add(left);
            rights.add(right);
            values.add(0);
            return ops.add(op);
        }

        /** Slots hold what the NAMES stand for, from base on. */
        int evaluate(int root, Row slots, int base) {
            for (int i = firsts.at(root); i <= root; i++) {
                values.put(i, valueOf(i, slots, base));
            }
            return values.at(root);
        }

        private int valueOf(int node, Row slots, int base) {
            int left = lefts.at(node);
            int a = values.at(left);
            int b = values.at(rights.at(node));
            switch (ops.at(node)) {
                case NUMBER:
                    return left;
                case NAME:
                    return slots.at(base + left);
                case NEGATE:
                    return -a;
                case '+':
                    return a + b;
                case '-':
                    return a - b;
                case '*':
                    return a * b;
                case '<':
                    return a < b ? 1 : 0;
                default:
                    return a == b ? 1 : 0;
            }
        }
    }

    /** Reads Es; open counts what stands open around them. */
    private static final class SumReader {
        private static final int COMPARES = 0;
        private static final int ADDS = 1;
        private static final int MULTIPLIES = 2;

        private final Cursor cursor;
        private final Scope scope;
        private Sums sums;

        SumReader(Cursor cursor, Scope scope, Sums sums) {
            this.cursor = cursor;
            this.scope = scope;
            this.sums = sums;
        }

        void use(Sums newSums) {
            sums = newSums;
        }

        /** The root of the E that stands here; NONE after a FAULT. */
        private int readSum(int rank, int open) {
            if (rank > MULTIPLIES) {
                return readUnit(open);
            }
            int root = readSum(rank + 1, open);
            int most = rank == COMPARES ? 1 : MAX_BYTES;
            for (int i = 0; i < most && joins(rank, cursor.kind); i++) {
                int op = cursor.kind;
                cursor.advance();
                int right = readSum(rank + 1, open);
                root = cursor.failed() ? NONE : sums.addNode(op, root, right);
            }
            return root;
        }

        private static boolean joins(int rank, int kind) {
            switch (rank) {
                case COMPARES:
                    return kind == '<' || kind == EQUAL;
                case ADDS:
                    return kind == '+' || kind == '-';
                default:
                    return kind == '*';
            }
        }

        private int readUnit(int open) {
            int kind = cursor.kind;
            if (kind == NUMBER || kind == NAME) {
                int leaf = kind == NUMBER ? cursor.value : scope.find(cursor.value);
                if (kind == NAME && (leaf == NONE || scope.talkAt(leaf) != NONE)) {
                    cursor.refuse(WRONG_NAME, cursor.place);
                }
                cursor.advance();
                return sums.addLeaf(kind, leaf);
            }
            if (kind != '-' && kind != '(') {
                cursor.refuse(CANNOT_STAND, cursor.place);
                return NONE;
            }
            if (open >= MAX_OPEN) {
                cursor.refuse(TOO_MUCH, cursor.place);
                return NONE;
            }
            cursor.advance();
            if (kind == '-') {
                int negated = readUnit(open + 1);
                return cursor.failed() ? NONE : sums.addNode(NEGATE, negated, NONE);
            }
            int inner = readSum(COMPARES, open + 1);
            cursor.want(')');
            return inner;
        }
    }

    /**
     * The CHANNELS and NUMBERS that are there while a P is read. Each level is the P of one case or if
     * more, and begins with all that is there around it. The place of a NAME is its slot in a PROCESS:
     * the CHANNEL given has place GIVEN, and what is gone leaves its place empty. A NUMBER's T is NONE.
     */
    private static final class Scope {
        private final Row names = new Row((MAX_OPEN + 1) * ROOM);
        private final Row talks = new Row((MAX_OPEN + 1) * ROOM);
        private final Row sizes = new Row(MAX_OPEN + 1);
        private int level;

        Scope() {
            names.fill(0);
            talks.fill(NONE);
            sizes.fill(0);
        }

        /** Nothing is there, and the place of the CHANNEL given is kept for it. */
        void start() {
            level = 0;
            sizes.put(level, 0);
            add(0, NONE);
        }

        void enter() {
            if (level >= MAX_OPEN) {
                return;
            }
            int from = level * ROOM;
            level++;
            int size = sizes.at(level - 1);
            sizes.put(level, size);
            for (int i = 0; i < size; i++) {
                names.put(from + ROOM + i, names.at(from + i));
                talks.put(from + ROOM + i, talks.at(from + i));
            }
        }

        void leave() {
            level = Math.max(level - 1, 0);
        }

        private int index(int at) {
            return at >= 0 && at < ROOM ? level * ROOM + at : NONE;
        }

        int find(int name) {
            for (int i = 0; i < sizes.at(level); i++) {
                if (name != 0 && names.at(level * ROOM + i) == name) {
                    return i;
                }
            }
            return NONE;
        }

        int talkAt(int at) {
            return talks.at(index(at));
        }

        void setTalk(int at, int t) {
            talks.put(index(at), t);
        }

        void set(int at, int name, int t) {
            names.put(index(at), name);
            talks.put(index(at), t);
        }

        int add(int name, int t) {
            int at = sizes.at(level);
            set(at, name, t);
            sizes.bump(level, 1);
            return at;
        }

        void drop(int at) {
            names.put(index(at), 0);
            talks.put(index(at), NONE);
        }

        boolean hasChannels() {
            for (int i = GIVEN + 1; i < sizes.at(level); i++) {
                if (talks.at(level * ROOM + i) != NONE) {
                    return true;
                }
            }
            return false;
        }
    }

    /**
     * A text that has been read. A node is a WORD of a P: channels has the place of its CHANNEL (of new:
     * the one that comes), others and extras what its WORD needs beside it:
     * put, say: E. get, take: the place of what comes. send, same: the place of the other CHANNEL.
     * pick: the NAME. case: its first alternative, and how many. new, go: the DEF, and its first ARG.
     * if: where the second P begins, and E. The next node stands right behind, unless the WORD says else.
     */
    private static final class Book {
        private final Types types = new Types();
        private final Sums sums = new Sums();
        private final Row typeNames = new Row(MAX_TYPES);
        private final Row typeTs = new Row(MAX_TYPES);
        private final Row defNames = new Row(MAX_DEFS);
        private final Row gives = new Row(MAX_DEFS);
        private final Row starts = new Row(MAX_DEFS);
        private final Row wordCounts = new Row(MAX_DEFS);
        private final Row leasts = new Row(MAX_DEFS);
        private final Row paramCounts = new Row(MAX_DEFS);
        private final Row paramTs = new Row(MAX_DEFS * MAX_PARAMS);
        private final Row ops = new Row(MAX_NODES);
        private final Row channels = new Row(MAX_NODES);
        private final Row others = new Row(MAX_NODES);
        private final Row extras = new Row(MAX_NODES);
        private final Row caseNames = new Row(MAX_BRANCHES);
        private final Row caseStarts = new Row(MAX_BRANCHES);
        private final Row args = new Row(MAX_BRANCHES);

        void clear() {
            types.clear();
            sums.clear();
            typeNames.clear();
            typeTs.clear();
            defNames.clear();
            gives.clear();
            starts.clear();
            wordCounts.clear();
            leasts.clear();
            paramCounts.clear();
            paramTs.clear();
            ops.clear();
            channels.clear();
            others.clear();
            extras.clear();
            caseNames.clear();
            caseStarts.clear();
            args.clear();
        }

        boolean isDef(int i) {
            return i >= 0 && i < defNames.size();
        }

        /** The T of a PARAM; NONE if it has none, or there is none such. */
        int paramT(int i, int k) {
            boolean inRange = i >= 0 && i < MAX_DEFS && k >= 0 && k < MAX_PARAMS;
            return inRange ? paramTs.at(i * MAX_PARAMS + k) : NONE;
        }

        int channelParams(int i) {
            int count = 0;
            for (int k = 0; k < MAX_PARAMS; k++) {
                if (paramT(i, k) != NONE) {
                    count++;
                }
            }
            return count;
        }

        int addNode(int op) {
            channels.add(NONE);
            others.add(NONE);
            extras.add(NONE);
            return ops.add(op);
        }

        /** All alternatives of a case at once, so that they stand together whatever its Ps hold. */
        int addAlternatives(int t) {
            int first = caseNames.size();
            for (int k = 0; k < types.branches(t); k++) {
                caseNames.add(types.branchName(t, k));
                caseStarts.add(NONE);
            }
            return first;
        }

        /** Where a case goes on for a NAME. */
        int alternative(int node, int name) {
            int first = others.at(node);
            for (int k = 0; k < extras.at(node); k++) {
                if (caseNames.at(first + k) == name) {
                    return caseStarts.at(first + k);
                }
            }
            return NONE;
        }
    }

    /** Reads and judges a text into a book. */
    private static final class Reader {
        private final Cursor cursor;
        private final Scope scope = new Scope();
        private final TypeReader typeReader;
        private final SumReader sumReader;
        private Book book;
        private int words;
        private int firstParam = NONE;

        Reader(Cursor cursor, Book book) {
            this.cursor = cursor;
            this.book = book;
            typeReader = new TypeReader(cursor, book);
            sumReader = new SumReader(cursor, scope, book.sums);
        }

        void use(Book newBook) {
            newBook.clear();
            book = newBook;
            typeReader.use(newBook);
            sumReader.use(newBook.sums);
            firstParam = NONE;
        }

        void readTypes() {
            for (int i = 0; i <= MAX_TYPES && cursor.skip(TYPE); i++) {
                int name = readFresh(book.typeNames, MAX_TYPES);
                cursor.want('=');
                int t = typeReader.readWhole();
                cursor.want(';');
                book.typeNames.add(name);
                book.typeTs.add(t);
            }
        }

        private int readFresh(Row known, int most) {
            int place = cursor.place;
            int name = cursor.takeName();
            if (known.find(name) != NONE) {
                cursor.refuse(WRONG_NAME, place);
            }
            if (known.size() >= most) {
                cursor.refuse(TOO_MUCH, place);
            }
            return name;
        }

        /** The NAME joins the others at the end, for a DEF is not ahead of itself. */
        void readDef() {
            cursor.want(DEF);
            int name = readFresh(book.defNames, MAX_DEFS);
            scope.start();
            readParams();
            int given = readFreshThing();
            cursor.want(':');
            int t = typeReader.readWhole();
            scope.set(GIVEN, given, t);
            cursor.want('=');
            words = 0;
            book.gives.add(t);
            book.starts.add(book.ops.size());
            book.leasts.add(readSteps(0));
            book.wordCounts.add(words);
            book.defNames.add(name);
        }

        private void readParams() {
            firstParam = NONE;
            int base = book.paramTs.size();
            for (int k = 0; k < MAX_PARAMS; k++) {
                book.paramTs.add(NONE);
            }
            cursor.want('(');
            int count = 0;
            if (cursor.is(NAME)) {
                firstParam = cursor.place;
            }
            for (int k = 0; k <= MAX_PARAMS && (k > 0 || !cursor.is(')')); k++) {
                int place = cursor.place;
                int name = readFreshThing();
                if (k >= MAX_PARAMS) {
                    cursor.refuse(TOO_MUCH, place);
                }
                int t = cursor.skip(':') ? typeReader.readWhole() : NONE;
                book.paramTs.put(base + k, t);
                scope.add(name, t);
                count++;
                if (!cursor.skip(',')) {
                    break;
                }
            }
            cursor.want(')');
            book.paramCounts.add(count);
        }

        /** The NAME of a CHANNEL or NUMBER that comes here. */
        private int readFreshThing() {
            int place = cursor.place;
            int name = cursor.takeName();
            if (scope.find(name) != NONE) {
                cursor.refuse(WRONG_NAME, place);
            }
            return name;
        }

        void judgeLast() {
            if (firstParam != NONE) {
                cursor.refuse(LAST_HAS_PARAM, firstParam);
            }
        }

        /** Reads a P inside of so many case and if that are open: the least number of its STEPS. */
        private int readSteps(int open) {
            for (int least = 1; least <= MAX_WORDS + 1 && !cursor.failed(); least++) {
                int word = cursor.kind;
                countWord(word);
                switch (word) {
                    case IF:
                        return least - 1 + readIf(open);
                    case CASE:
                        return least + readCase(open);
                    case CLOSE:
                        readClose();
                        return least;
                    case GO:
                        readGo(open);
                        return least;
                    case SAME:
                        readSame();
                        return least;
                    case NEW:
                        readNew(open);
                        break;
                    case SAY:
                        readSay(open);
                        break;
                    default:
                        readTalk(word, open);
                        break;
                }
                cursor.want(';');
            }
            return NONE;
        }

        /** All that can be wrong at a WORD before anything behind it is read; an if is not counted. */
        private void countWord(int word) {
            if (word < PUT || word == ELSE) {
                cursor.refuse(CANNOT_STAND, cursor.place);
            }
            if (word == CLOSE && scope.hasChannels()) {
                cursor.refuse(LEFT_OVER, cursor.place);
            }
            if (word != IF) {
                words++;
            }
            if (words > MAX_WORDS) {
                cursor.refuse(TOO_MUCH, cursor.place);
            }
        }

        private void refuseOpen(int open) {
            if (open >= MAX_OPEN) {
                cursor.refuse(TOO_MUCH, cursor.place);
            }
        }

        private int readIf(int open) {
            int node = book.addNode(IF);
            refuseOpen(open);
            cursor.advance();
            book.extras.put(node, sumReader.readSum(SumReader.COMPARES, open + 1));
            int first = readBraced(open + 1);
            cursor.want(ELSE);
            book.others.put(node, book.ops.size());
            return Math.min(first, readBraced(open + 1));
        }

        private int readBraced(int open) {
            cursor.want('{');
            scope.enter();
            int least = readSteps(open);
            scope.leave();
            cursor.want('}');
            return least;
        }

        private int readCase(int open) {
            int node = book.addNode(CASE);
            refuseOpen(open);
            cursor.advance();
            int at = readChannel(CASE);
            int t = scope.talkAt(at);
            int branches = book.types.branches(t);
            book.channels.put(node, at);
            book.others.put(node, book.addAlternatives(t));
            book.extras.put(node, branches);
            cursor.want('{');
            int least = MAX_WORDS;
            int count = 0;
            for (int k = 0; k <= MAX_CHOICES && !cursor.failed(); k++) {
                least = Math.min(least, readAlternative(node, open + 1));
                count++;
                if (!cursor.skip('|')) {
                    break;
                }
            }
            if (cursor.is('}') && count < branches) {
                cursor.refuse(OTHER_TALK, cursor.place);
            }
            cursor.want('}');
            return least;
        }

        private int readAlternative(int node, int open) {
            int at = book.channels.at(node);
            int t = scope.talkAt(at);
            int place = cursor.place;
            int branch = book.types.findBranch(t, cursor.takeName());
            int alternative = book.others.at(node) + branch;
            if (branch == NONE) {
                cursor.refuse(OTHER_TALK, place);
            } else if (book.caseStarts.at(alternative) != NONE) {
                cursor.refuse(WRONG_NAME, place);
            }
            cursor.want(':');
            book.caseStarts.put(alternative, book.ops.size());
            scope.enter();
            scope.setTalk(at, book.types.branchT(t, branch));
            int least = readSteps(open);
            scope.leave();
            return least;
        }

        /** The place of the CHANNEL behind a WORD, whose T must let the WORD stand there. */
        private int readChannel(int word) {
            int place = cursor.place;
            int at = scope.find(cursor.takeName());
            int t = scope.talkAt(at);
            if (t == NONE) {
                cursor.refuse(WRONG_NAME, place);
            }
            if (book.types.kinds.at(t) != talkFor(word, at == GIVEN)) {
                cursor.refuse(OTHER_TALK, place);
            }
            return at;
        }

        private static int talkFor(int word, boolean given) {
            switch (word) {
                case CLOSE:
                    return given ? END : BAD;
                case WAIT:
                    return given ? BAD : END;
                case PUT:
                    return given ? '!' : '?';
                case GET:
                    return given ? '?' : '!';
                case SEND:
                    return given ? '>' : '<';
                case TAKE:
                    return given ? '<' : '>';
                case PICK:
                    return given ? '+' : '&';
                case CASE:
                    return given ? '&' : '+';
                default:
                    return BAD;
            }
        }

        /** wait, put, get, send, take, pick: a CHANNEL, what goes over it, and what it is then. */
        private void readTalk(int word, int open) {
            int node = book.addNode(word);
            cursor.advance();
            int at = readChannel(word);
            int t = scope.talkAt(at);
            int then = book.types.seconds.at(t);
            book.channels.put(node, at);
            switch (word) {
                case WAIT:
                    scope.drop(at);
                    break;
                case PUT:
                    book.others.put(node, sumReader.readSum(SumReader.COMPARES, open));
                    break;
                case SEND:
                    book.others.put(node, readSent(book.types.firsts.at(t)));
                    break;
                case PICK:
                    then = readPicked(node, t);
                    break;
                default:
                    int name = readFreshThing();
                    book.others.put(node, scope.add(name, book.types.firsts.at(t)));
                    break;
            }
            scope.setTalk(at, then);
        }

        private int readSent(int wanted) {
            int place = cursor.place;
            int at = scope.find(cursor.takeName());
            int t = scope.talkAt(at);
            if (t == NONE) {
                cursor.refuse(WRONG_NAME, place);
            }
            if (t != wanted) {
                cursor.refuse(OTHER_TALK, place);
            }
            if (at == GIVEN) {
                cursor.refuse(LEFT_OVER, place);
            }
            scope.drop(at);
            return at;
        }

        private int readPicked(int node, int t) {
            int place = cursor.place;
            int name = cursor.takeName();
            int branch = book.types.findBranch(t, name);
            if (branch == NONE) {
                cursor.refuse(OTHER_TALK, place);
            }
            book.others.put(node, name);
            return book.types.branchT(t, branch);
        }

        private void readClose() {
            int node = book.addNode(CLOSE);
            cursor.advance();
            book.channels.put(node, readChannel(CLOSE));
        }

        private void readSay(int open) {
            int node = book.addNode(SAY);
            cursor.advance();
            book.others.put(node, sumReader.readSum(SumReader.COMPARES, open));
        }

        /** The CHANNEL joins the scope behind the ARGS, for it is not there in them. */
        private void readNew(int open) {
            int node = book.addNode(NEW);
            cursor.advance();
            int name = readFreshThing();
            cursor.want('=');
            int f = readDefAhead();
            readArgs(node, f, open);
            book.channels.put(node, scope.add(name, book.gives.at(f)));
        }

        private void readGo(int open) {
            int node = book.addNode(GO);
            int place = cursor.place;
            cursor.advance();
            int f = readDefAhead();
            readArgs(node, f, open);
            if (book.gives.at(f) != scope.talkAt(GIVEN)) {
                cursor.refuse(OTHER_TALK, place);
            }
            if (scope.hasChannels()) {
                cursor.refuse(LEFT_OVER, place);
            }
        }

        private void readSame() {
            int node = book.addNode(SAME);
            int place = cursor.place;
            cursor.advance();
            int given = readJoined(true);
            int other = readJoined(false);
            if (scope.talkAt(given) != scope.talkAt(other)) {
                cursor.refuse(OTHER_TALK, place);
            }
            scope.drop(other);
            if (scope.hasChannels()) {
                cursor.refuse(LEFT_OVER, place);
            }
            book.channels.put(node, given);
            book.others.put(node, other);
        }

        private int readJoined(boolean asGiven) {
            int place = cursor.place;
            int at = scope.find(cursor.takeName());
            if (scope.talkAt(at) == NONE) {
                cursor.refuse(WRONG_NAME, place);
            }
            if ((at == GIVEN) != asGiven) {
                cursor.refuse(LEFT_OVER, place);
            }
            return at;
        }

        private int readDefAhead() {
            int place = cursor.place;
            int f = book.defNames.find(cursor.takeName());
            if (f == NONE) {
                cursor.refuse(WRONG_NAME, place);
            }
            return f;
        }

        private void readArgs(int node, int f, int open) {
            int last = book.paramCounts.at(f) - 1;
            book.others.put(node, f);
            book.extras.put(node, book.args.size());
            cursor.want('(');
            if (last >= 0 && cursor.is(')')) {
                cursor.refuse(ARGS_COUNT, cursor.place);
            }
            for (int k = 0; k <= last; k++) {
                int t = book.paramT(f, k);
                int arg = t == NONE ? sumReader.readSum(SumReader.COMPARES, open) : readChannelArg(t);
                book.args.add(arg);
                if (cursor.is(k < last ? ')' : ',')) {
                    cursor.refuse(ARGS_COUNT, cursor.place);
                }
                cursor.want(k < last ? ',' : ')');
            }
            if (last < 0) {
                cursor.want(')');
            }
        }

        private int readChannelArg(int wanted) {
            int place = cursor.place;
            int at = scope.find(cursor.takeName());
            int t = scope.talkAt(at);
            if (t == NONE) {
                cursor.refuse(WRONG_NAME, place);
            }
            if (t != wanted || at == GIVEN) {
                cursor.refuse(OTHER_TALK, place);
            }
            scope.drop(at);
            return at;
        }
    }

    /**
     * The CHANNELS of a run, each with two rows of MESSAGES: row 2 * c + DOWN or UP. A MESSAGE lies in the
     * pool, which a run can't fill, as each STEP lays one at most; links lead from one to the next.
     */
    private static final class Channels {
        private final Row joined = new Row(MAX_PROCESSES);
        private final Row heads = new Row(2 * MAX_PROCESSES);
        private final Row tails = new Row(2 * MAX_PROCESSES);
        private final Row counts = new Row(2 * MAX_PROCESSES);
        private final Row kinds = new Row(MAX_STEPS);
        private final Row values = new Row(MAX_STEPS);
        private final Row links = new Row(MAX_STEPS);

        void clear() {
            joined.clear();
            heads.clear();
            tails.clear();
            counts.clear();
            kinds.clear();
            values.clear();
            links.clear();
        }

        int made() {
            return joined.size();
        }

        int open() {
            for (int side = DOWN; side <= UP; side++) {
                heads.add(NONE);
                tails.add(NONE);
                counts.add(0);
            }
            return joined.add(NONE);
        }

        /** The CHANNEL that c is one with now: c itself, if it was not joined. */
        int follow(int c) {
            int found = c;
            for (int i = 0; i < MAX_PROCESSES && joined.at(found) != NONE; i++) {
                found = joined.at(found);
            }
            return found;
        }

        int count(int c, int side) {
            return counts.at(2 * c + side);
        }

        void lay(int c, int side, int kind, int value) {
            int row = 2 * c + side;
            kinds.add(kind);
            values.add(value);
            int place = links.add(NONE);
            if (counts.at(row) == 0) {
                heads.put(row, place);
            } else {
                links.put(tails.at(row), place);
            }
            tails.put(row, place);
            counts.bump(row, 1);
        }

        /** Takes the first MESSAGE away: what it says. */
        int takeFirst(int c, int side) {
            int row = 2 * c + side;
            int place = heads.at(row);
            heads.put(row, links.at(place));
            counts.bump(row, -1);
            return values.at(place);
        }

        /** The place of MESSAGE i DOWN. */
        int find(int c, int i) {
            if (c < 0 || c >= made() || i < 0 || i >= count(c, DOWN)) {
                return NONE;
            }
            int place = heads.at(2 * c + DOWN);
            for (int k = 0; k < i; k++) {
                place = links.at(place);
            }
            return place;
        }

        void join(int given, int other) {
            if (given == other) {
                return;
            }
            append(2 * given + DOWN, 2 * other + DOWN);
            append(2 * other + UP, 2 * given + UP);
            heads.put(2 * given + UP, heads.at(2 * other + UP));
            tails.put(2 * given + UP, tails.at(2 * other + UP));
            counts.put(2 * given + UP, counts.at(2 * other + UP));
            joined.put(other, given);
        }

        /** What lies in the row behind comes behind what lies in the other one. */
        private void append(int row, int behind) {
            if (counts.at(behind) <= 0) {
                return;
            }
            if (counts.at(row) == 0) {
                heads.put(row, heads.at(behind));
            } else {
                links.put(tails.at(row), heads.at(behind));
            }
            tails.put(row, tails.at(behind));
            counts.bump(row, counts.at(behind));
        }
    }

    /** A run: its PROCESSES, their slots (what their NAMES stand for), and what was SAID. */
    private static final class Stage {
        private final Channels channels = new Channels();
        private final Row defs = new Row(MAX_PROCESSES);
        private final Row nodes = new Row(MAX_PROCESSES);
        private final Row overs = new Row(MAX_PROCESSES);
        private final Row steps = new Row(MAX_PROCESSES);
        private final Row has = new Row(MAX_PROCESSES);
        private final Row saids = new Row(MAX_PROCESSES);
        private final Row slots = new Row(MAX_PROCESSES * ROOM);
        private final Row fresh = new Row(MAX_PARAMS);
        private final Row readies = new Row(MAX_PROCESSES);
        private final Row saidNumbers = new Row(MAX_SAID);
        private final Row saidProcesses = new Row(MAX_SAID);
        private Book book;
        private int saidCount;
        private int done;
        private boolean spent;

        Stage(Book book) {
            this.book = book;
            slots.fill(0);
        }

        void start(Book newBook) {
            book = newBook;
            channels.clear();
            defs.clear();
            nodes.clear();
            overs.clear();
            steps.clear();
            has.clear();
            saids.clear();
            fresh.clear();
            saidNumbers.clear();
            saidProcesses.clear();
            saidCount = 0;
            done = 0;
            spent = false;
            addProcess();
            goOn(0, book.defNames.size() - 1);
            settle(0);
            findReady();
        }

        int made() {
            return defs.size();
        }

        int alive() {
            int count = 0;
            for (int p = 0; p < made(); p++) {
                count += 1 - overs.at(p);
            }
            return count;
        }

        int givenBy(int p) {
            return overs.at(p) == 0 ? channels.follow(slotOf(p, GIVEN)) : NONE;
        }

        private int slotOf(int p, int at) {
            return slots.at(p * ROOM + at);
        }

        private void setSlot(int p, int at, int value) {
            slots.put(p * ROOM + at, value);
        }

        /** A PROCESS and the CHANNEL that it gives. */
        private int addProcess() {
            int p = defs.add(NONE);
            nodes.add(NONE);
            overs.add(0);
            steps.add(0);
            has.add(0);
            saids.add(0);
            setSlot(p, GIVEN, channels.open());
            return p;
        }

        /** PROCESS p goes on as a DEF, with the ARGS that lie in fresh. */
        private void goOn(int p, int def) {
            defs.put(p, def);
            nodes.put(p, book.starts.at(def));
            has.put(p, book.channelParams(def));
            for (int k = 0; k < fresh.size(); k++) {
                setSlot(p, GIVEN + 1 + k, fresh.at(k));
            }
        }

        /** Goes through all ifs that PROCESS p has come to. */
        private void settle(int p) {
            for (int i = 0; i < MAX_NODES; i++) {
                int node = nodes.at(p);
                if (book.ops.at(node) != IF) {
                    break;
                }
                boolean first = numberOf(p, book.extras.at(node)) != 0;
                nodes.put(p, first ? node + 1 : book.others.at(node));
            }
        }

        private int numberOf(int p, int root) {
            return book.sums.evaluate(root, slots, p * ROOM);
        }

        boolean isWaiting(int p) {
            int node = nodes.at(p);
            int op = book.ops.at(node);
            boolean takes = op == GET || op == TAKE || op == CASE || op == WAIT;
            return takes && overs.at(p) == 0 && channels.count(talkedOver(p, node), sideTaken(node)) <= 0;
        }

        private int talkedOver(int p, int node) {
            return channels.follow(slotOf(p, book.channels.at(node)));
        }

        private int sideTaken(int node) {
            return book.channels.at(node) == GIVEN ? UP : DOWN;
        }

        /** Looked for once behind each change, for they are asked for more often than they change. */
        private void findReady() {
            readies.clear();
            for (int p = 0; p < made(); p++) {
                if (overs.at(p) == 0 && !isWaiting(p)) {
                    readies.add(p);
                }
            }
        }

        /**
         * The k-th that is ready does its STEP: its number; NONE if it is not done. The last PROCESS is
         * settled too, for it may have come by this STEP.
         */
        int advance(int k) {
            int p = readies.at(k);
            if (p == NONE) {
                return NONE;
            }
            boolean makes = book.ops.at(nodes.at(p)) == NEW;
            if (done >= MAX_STEPS || makes && made() >= MAX_PROCESSES) {
                spent = true;
                readies.clear();
                return NONE;
            }
            done++;
            steps.bump(p, 1);
            doStep(p);
            settle(p);
            settle(made() - 1);
            findReady();
            return p;
        }

        private void doStep(int p) {
            int node = nodes.at(p);
            int other = book.others.at(node);
            nodes.put(p, node + 1);
            switch (book.ops.at(node)) {
                case PUT:
                    lay(p, node, OF_NUMBER, numberOf(p, other));
                    break;
                case SEND:
                    lay(p, node, OF_CHANNEL, channels.follow(slotOf(p, other)));
                    has.bump(p, -1);
                    break;
                case PICK:
                    lay(p, node, OF_NAME, other);
                    break;
                case CLOSE:
                    lay(p, node, OF_END, 0);
                    finish(p);
                    break;
                case NEW:
                    gatherArgs(p, node);
                    makeProcess(p, node);
                    break;
                case GO:
                    gatherArgs(p, node);
                    goOn(p, other);
                    break;
                case SAME:
                    channels.join(talkedOver(p, node), channels.follow(slotOf(p, other)));
                    finish(p);
                    break;
                case SAY:
                    keepSaid(p, numberOf(p, other));
                    break;
                default:
                    takeMessage(p, node);
                    break;
            }
        }

        private void lay(int p, int node, int kind, int value) {
            int side = book.channels.at(node) == GIVEN ? DOWN : UP;
            channels.lay(talkedOver(p, node), side, kind, value);
        }

        /** get, take, case, wait. */
        private void takeMessage(int p, int node) {
            int value = channels.takeFirst(talkedOver(p, node), sideTaken(node));
            switch (book.ops.at(node)) {
                case CASE:
                    nodes.put(p, book.alternative(node, value));
                    break;
                case WAIT:
                    has.bump(p, -1);
                    break;
                case TAKE:
                    has.bump(p, 1);
                    setSlot(p, book.others.at(node), value);
                    break;
                default:
                    setSlot(p, book.others.at(node), value);
                    break;
            }
        }

        private void makeProcess(int p, int node) {
            int def = book.others.at(node);
            int child = addProcess();
            goOn(child, def);
            has.bump(p, 1 - book.channelParams(def));
            setSlot(p, book.channels.at(node), slotOf(child, GIVEN));
        }

        /** The ARGS come to fresh first, for they may stand where the PARAMS will. */
        private void gatherArgs(int p, int node) {
            int def = book.others.at(node);
            int first = book.extras.at(node);
            fresh.clear();
            for (int k = 0; k < book.paramCounts.at(def); k++) {
                int arg = book.args.at(first + k);
                fresh.add(book.paramT(def, k) == NONE ? numberOf(p, arg) : slotOf(p, arg));
            }
        }

        private void finish(int p) {
            overs.put(p, 1);
            has.put(p, 0);
        }

        private void keepSaid(int p, int number) {
            saidCount++;
            saids.bump(p, 1);
            if (saidNumbers.size() < MAX_SAID) {
                saidNumbers.add(number);
                saidProcesses.add(p);
            }
        }
    }
}
