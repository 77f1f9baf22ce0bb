/** A notary's day book: acts and their words, marks, seals, copies, leaves, and what is known. */
public final class NotaryBook {
    public static final int NONE = -1;

    private static final int INPUT_BYTES = 600;
    private static final int APPENDED_BYTES = 20;
    private static final int UNDO_DEPTH = 8;
    private static final int SLOTS = 2;
    private static final int WORD_LETTERS = 8;
    private static final int MOST_WITNESSES = 9;
    private static final int MOST_MARKS = 99;
    private static final int MOST_GRADE = 2;
    private static final int MOST_KIND = 2;

    private final byte[] input = new byte[INPUT_BYTES];
    private int inputSize;
    private int errorCode;
    private int errorPlace = NONE;
    private boolean loaded;
    private Book book = new Book();
    // A text is parsed into the spare book, so that the book in use stays if the text has an error.
    private Book spare = new Book();
    private final Parser parser = new Parser();
    // The books of the past and of the slots are made when they are first needed: most objects never need all.
    private final Book[] past = new Book[UNDO_DEPTH];
    private int pastStart;
    private int pastSize;
    private final Book[] slots = new Book[SLOTS];
    private final boolean[] slotFilled = new boolean[SLOTS];
    private final Leaves trialLeaves = new Leaves();
    private final Pen pen = new Pen();

    public NotaryBook() {
    }

    // ---- input

    public int append(int a, int b, int c, int d, int e) {
        if (inputSize + APPENDED_BYTES > INPUT_BYTES) {
            return NONE;
        }
        putFourBytes(a);
        putFourBytes(b);
        putFourBytes(c);
        putFourBytes(d);
        putFourBytes(e);
        return inputSize;
    }

    private void putFourBytes(int four) {
        for (int shift = 24; shift >= 0 && inputSize < INPUT_BYTES; shift -= 8) {
            input[inputSize] = (byte) (four >> shift);
            inputSize++;
        }
    }

    public int load(int n) throws IndexOutOfBoundsException, IllegalArgumentException {
        requireBytes(n);
        inputSize = 0;
        boolean isBook = parser.readText(input, n, spare);
        errorCode = isBook ? 0 : parser.errorCode;
        errorPlace = isBook ? NONE : parser.errorPlace;
        if (!isBook) {
            throw new IllegalArgumentException("the text is no book");
        }
        Book previous = book;
        book = spare;
        spare = previous;
        loaded = true;
        forgetPast();
        for (int slot = 0; slot < SLOTS; slot++) {
            slotFilled[slot] = false;
        }
        return book.actCount;
    }

    public int parseError() {
        return errorCode;
    }

    public int errorPosition() {
        return errorPlace;
    }

    public int buffered() {
        return inputSize;
    }

    // ---- acts, words and clauses

    public int count(int what) throws IllegalStateException, IllegalArgumentException {
        requireBook();
        requireUpTo(what, 15);
        switch (what) {
            case 0:
                return book.room;
            case 1:
                return book.need;
            case 2:
                return book.leaves.gather;
            case 3:
                return book.actCount;
            case 4:
                return book.script.size;
            case 5:
                return book.leaves.size;
            case 6:
                return book.leaves.countOf(Leaves.LOST);
            case 7:
                return book.leaves.countOf(Leaves.LOOSE);
            case 8:
                return book.copyCount;
            case 9:
                return book.cash;
            case 10:
                return book.marksOfAll();
            case 11:
                return book.script.standingFrom(0, book.script.size);
            case 12:
                return book.actsAt(Act.SEALED);
            case 13:
                return book.actsAt(Act.CANCELLED);
            case 14:
                return book.openNumber();
            default:
                return book.unknownFrom(0, book.script.size);
        }
    }

    public int act(int a, int what)
            throws IllegalStateException, IndexOutOfBoundsException, IllegalArgumentException {
        requireBook();
        Act act = requireAct(a);
        requireUpTo(what, 11);
        switch (what) {
            case 0:
                return act.kind;
            case 1:
                return act.stage;
            case 2:
                return act.witnesses;
            case 3:
                return act.marks;
            case 4:
                return act.size;
            case 5:
                return book.script.standingFrom(act.first, act.size);
            case 6:
                return book.script.clausesFrom(act.first, act.size);
            case 7:
                return book.script.greatestDepth(act.first, act.size);
            case 8:
                return book.leafOf(act.first);
            case 9:
                return book.leafOf(act.first + act.size - 1);
            case 10:
                return act.fee;
            default:
                return book.copiesOf(a);
        }
    }

    public int word(int a, int i, int what)
            throws IllegalStateException, IndexOutOfBoundsException, IllegalArgumentException {
        requireBook();
        Act act = requireAct(a);
        int w = requireWord(act, i);
        requireUpTo(what, 7);
        Script script = book.script;
        switch (what) {
            case 0:
                return book.leafOf(w);
            case 1:
                return script.struck[w] ? 1 : 0;
            case 2:
                return script.depthOf(act.first, w);
            case 3:
                return script.inserted[w];
            case 4:
                return lettersIn(script.words[w]);
            case 5:
                return book.isKnown(w) ? 1 : 0;
            case 6:
                return script.innermostOf(act.first, w);
            default:
                return book.copiesWith(w);
        }
    }

    public int letter(int a, int i, int k) throws IllegalStateException, IndexOutOfBoundsException {
        requireBook();
        int w = requireWord(requireAct(a), i);
        return letterOf(book.script.words[w], k);
    }

    public int innerLetter(int a, int i, int j, int k)
            throws IllegalStateException, IndexOutOfBoundsException {
        requireBook();
        int w = requireWord(requireAct(a), i);
        return letterOf(book.script.insertOf(w, j), k);
    }

    public int clause(int a, int c, int what)
            throws IllegalStateException, IndexOutOfBoundsException, IllegalArgumentException {
        requireBook();
        Act act = requireAct(a);
        Clause clause = book.clause;
        if (!clause.seek(book.script, act, c)) {
            throw new IndexOutOfBoundsException("there is no such clause");
        }
        requireUpTo(what, 5);
        switch (what) {
            case 0:
                return clause.first - act.first;
            case 1:
                return clause.first + clause.size - 1 - act.first;
            case 2:
                return clause.size;
            case 3:
                return book.script.unstruckFrom(clause.first, clause.size);
            case 4:
                return clause.depth;
            default:
                return clause.children;
        }
    }

    // ---- leaves and copies

    public int leaf(int l, int what)
            throws IllegalStateException, IndexOutOfBoundsException, IllegalArgumentException {
        requireBook();
        requireLeaf(l);
        requireUpTo(what, 5);
        switch (what) {
            case 0:
                return book.leaves.stateOf(l);
            case 1:
                return book.wordsOn(l);
            case 2:
                return book.actsOn(l);
            case 3:
                return book.leaves.mateOf(l);
            case 4:
                return book.leaves.gatheringOf(l);
            default:
                return book.firstActOn(l);
        }
    }

    public int copy(int c, int what)
            throws IllegalStateException, IndexOutOfBoundsException, IllegalArgumentException {
        requireBook();
        Copy copy = requireCopy(c);
        requireUpTo(what, 4);
        switch (what) {
            case 0:
                return copy.act;
            case 1:
                return copy.grade;
            case 2:
                return copy.size;
            case 3:
                return copy.fee();
            default:
                return book.knownByAlone(copy);
        }
    }

    public boolean has(int c, int i) throws IllegalStateException, IndexOutOfBoundsException {
        requireBook();
        Copy copy = requireCopy(c);
        int w = requireWord(requireAct(copy.act), i);
        return copy.holds(book.script, w);
    }

    public int known(int a) throws IllegalStateException, IndexOutOfBoundsException {
        requireBook();
        Act act = requireAct(a);
        return act.size - book.unknownFrom(act.first, act.size);
    }

    public int firstUnknown(int a) throws IllegalStateException, IndexOutOfBoundsException {
        requireBook();
        Act act = requireAct(a);
        for (int i = 0; i < act.size; i++) {
            if (!book.isKnown(act.first + i)) {
                return i;
            }
        }
        return NONE;
    }

    public int gap() throws IllegalStateException {
        requireBook();
        return book.wordsGap() + book.standingGap() + book.cashGap() + book.numbersGap();
    }

    // ---- reasons

    public int whyNotSeal(int witnesses, int marks) throws IllegalStateException, IllegalArgumentException {
        requireBook();
        requireUpTo(witnesses, MOST_WITNESSES);
        requireUpTo(marks, MOST_MARKS);
        return book.sealReason(witnesses, marks);
    }

    public int whyNotCopy(int a, int grade)
            throws IllegalStateException, IndexOutOfBoundsException, IllegalArgumentException {
        requireBook();
        requireAct(a);
        requireUpTo(grade, MOST_GRADE);
        return book.copyReason(a, grade);
    }

    public int whyNotStrike(int i) throws IllegalStateException {
        requireBook();
        return book.strikeReason(i);
    }

    // ---- what would be (nothing is changed)

    public int unknownIf(int l) throws IllegalStateException, IndexOutOfBoundsException {
        requireBook();
        requireLeaf(l);
        return book.wouldBeUnknown(l);
    }

    public int worstLeaf() throws IllegalStateException {
        requireBook();
        int worst = NONE;
        int most = -1;
        for (int l = 0; l < book.leaves.size; l++) {
            int unknown = book.wouldBeUnknown(l);
            if (unknown > most) {
                most = unknown;
                worst = l;
            }
        }
        return worst;
    }

    public int shakenOut() throws IllegalStateException {
        requireBook();
        trialLeaves.take(book.leaves);
        int shakes = 0;
        while (shakes < Leaves.MOST && trialLeaves.dropLoose() > 0) {
            shakes++;
        }
        return shakes;
    }

    public int leavesFor(int words) throws IllegalStateException, IllegalArgumentException {
        requireBook();
        requireUpTo(words, Script.MOST);
        int leaves = book.leavesOf(book.script.size + words);
        return leaves > Leaves.MOST ? NONE : leaves - book.leaves.size;
    }

    public int copyWords(int a, int grade)
            throws IllegalStateException, IndexOutOfBoundsException, IllegalArgumentException {
        requireBook();
        Act act = requireAct(a);
        requireUpTo(grade, MOST_GRADE);
        book.trialCopy.draw(book.script, act, grade);
        return book.trialCopy.size;
    }

    public int bestCopy(int a) throws IllegalStateException, IndexOutOfBoundsException {
        requireBook();
        Act act = requireAct(a);
        int best = NONE;
        int most = 0;
        for (int grade = 0; grade <= MOST_GRADE; grade++) {
            if (book.copyReason(a, grade) == 0) {
                int copied = book.copiedWith(act, grade);
                if (copied >= most) {
                    most = copied;
                    best = grade;
                }
            }
        }
        return best;
    }

    public int standingIf(int i, boolean isClause) throws IllegalStateException, IllegalArgumentException {
        requireBook();
        int reason = book.strikeReason(i);
        if (reason == 1 || reason == 2) {
            throw new IllegalArgumentException("there is no such word of an open act");
        }
        if (!isClause) {
            return reason == 3 ? book.openStanding() : book.openStanding() - 1;
        }
        if (!book.seekClauseAround(i)) {
            throw new IllegalArgumentException("the word is in no clause");
        }
        return book.openStanding() - book.script.unstruckFrom(book.clause.first, book.clause.size);
    }

    // ---- words that are looked for

    public int findWord(int n) throws IllegalStateException, IndexOutOfBoundsException {
        requireBook();
        requireBytes(n);
        long word = inputWord(n);
        inputSize = 0;
        return word == 0 ? 0 : book.firstActWith(word);
    }

    public int longest(int a) throws IllegalStateException, IndexOutOfBoundsException {
        requireBook();
        Act act = requireAct(a);
        int longest = NONE;
        int most = 0;
        for (int i = 0; i < act.size; i++) {
            int letters = lettersIn(book.script.words[act.first + i]);
            if (!book.script.struck[act.first + i] && letters > most) {
                most = letters;
                longest = i;
            }
        }
        return longest;
    }

    public int common(int a, int other) throws IllegalStateException, IndexOutOfBoundsException {
        requireBook();
        Act act = requireAct(a);
        Act otherAct = requireAct(other);
        int shared = 0;
        for (int w = act.first; w < act.first + act.size; w++) {
            if (!book.script.struck[w] && book.script.standsWritten(otherAct, book.script.words[w])) {
                shared++;
            }
        }
        return shared;
    }

    // ---- other numbers

    public float knownShare() throws IllegalStateException {
        requireBook();
        int words = book.script.size;
        if (words == 0) {
            return 0.0f;
        }
        return (float) (words - book.unknownFrom(0, words)) / (float) words;
    }

    public double meanWords() throws IllegalStateException {
        requireBook();
        int sealed = book.actsAt(Act.SEALED);
        if (sealed == 0) {
            return 0.0;
        }
        return (double) book.standingOfSealed() / (double) sealed;
    }

    // ---- texts

    public int writeAct(int a) throws IllegalStateException, IndexOutOfBoundsException {
        requireBook();
        Act act = requireAct(a);
        Script script = book.script;
        pen.startText();
        for (int w = act.first; w < act.first + act.size; w++) {
            pen.putSigns('(', script.opens[w]);
            if (!book.isKnown(w)) {
                pen.putSigns('?', 1);
            } else if (script.struck[w]) {
                pen.putMarkedWord('-', script.words[w]);
            } else {
                pen.putWord(script.words[w]);
            }
            for (int j = 0; j < script.inserted[w]; j++) {
                pen.putMarkedWord('^', script.insertOf(w, j));
            }
            pen.putSigns(')', script.closes[w]);
        }
        return pen.text.length();
    }

    public int writeStanding(int a) throws IllegalStateException, IndexOutOfBoundsException {
        requireBook();
        Act act = requireAct(a);
        Script script = book.script;
        pen.startText();
        for (int w = act.first; w < act.first + act.size; w++) {
            if (!script.struck[w] && book.isKnown(w)) {
                pen.putWord(script.words[w]);
            } else if (!script.struck[w]) {
                pen.putSigns('?', 1);
            }
            writeInserts(w);
        }
        return endOfWords();
    }

    public int writeLeaf(int l) throws IllegalStateException, IndexOutOfBoundsException {
        requireBook();
        requireLeaf(l);
        pen.startText();
        if (book.leaves.isLost(l)) {
            pen.putSigns('?', 1);
            return pen.text.length();
        }
        int first = l * book.room;
        for (int w = first; w < first + book.wordsOn(l); w++) {
            int number = book.actBegunAt(w);
            if (number == 0) {
                pen.putWord(book.script.words[w]);
            } else {
                pen.putNumberedWord(number, book.script.words[w]);
            }
        }
        return pen.text.length();
    }

    public int writeCopy(int c) throws IllegalStateException, IndexOutOfBoundsException {
        requireBook();
        Copy copy = requireCopy(c);
        Act act = requireAct(copy.act);
        pen.startText();
        for (int w = act.first; w < act.first + act.size; w++) {
            if (copy.holds(book.script, w)) {
                pen.putWord(book.script.words[w]);
            }
            if (copy.grade == Copy.WHOLE) {
                writeInserts(w);
            }
        }
        return endOfWords();
    }

    private void writeInserts(int w) {
        for (int j = 0; j < book.script.inserted[w]; j++) {
            pen.putWord(book.script.insertOf(w, j));
        }
    }

    private int endOfWords() {
        if (pen.text.length() == 0) {
            pen.putSigns('.', 1);
        }
        return pen.text.length();
    }

    public int textByte(int i) throws IndexOutOfBoundsException {
        if (i < 0 || i >= pen.text.length()) {
            throw new IndexOutOfBoundsException("there is no such byte");
        }
        return pen.text.charAt(i);
    }

    // ---- changes (each can be undone, the latest one first)

    public int begin(int kind, int n)
            throws IllegalStateException, IndexOutOfBoundsException, IllegalArgumentException {
        requireBook();
        requireBytes(n);
        requireUpTo(kind, MOST_KIND);
        if (book.openAct() != null || book.actCount >= Book.MOST_ACTS) {
            throw new IllegalArgumentException("no act can be begun");
        }
        if (!parser.readBodyAlone(input, n, book)) {
            throw new IllegalArgumentException("the bytes are no body for which there is room");
        }
        remember();
        inputSize = 0;
        book.beginAct(kind, parser.staged);
        return book.actCount;
    }

    public int strike(int i) throws IllegalStateException, IllegalArgumentException {
        requireBook();
        if (book.strikeReason(i) != 0) {
            throw new IllegalArgumentException("the word can not be struck");
        }
        remember();
        book.strikeWord(i);
        return book.openStanding();
    }

    public int strikeClause(int i) throws IllegalStateException, IllegalArgumentException {
        requireBook();
        if (!book.seekClauseAround(i)) {
            throw new IllegalArgumentException("there is no such word in a clause of an open act");
        }
        remember();
        return book.strikeAround(i);
    }

    public int interline(int i, int n)
            throws IllegalStateException, IndexOutOfBoundsException, IllegalArgumentException {
        requireBook();
        requireBytes(n);
        long word = inputWord(n);
        if (word == 0 || !book.canInsert(i)) {
            throw new IllegalArgumentException("the bytes can not be interlined there");
        }
        remember();
        inputSize = 0;
        book.insertWord(i, word);
        return book.openStanding();
    }

    public int seal(int witnesses, int marks) throws IllegalStateException, IllegalArgumentException {
        requireBook();
        requireUpTo(witnesses, MOST_WITNESSES);
        requireUpTo(marks, MOST_MARKS);
        if (book.sealReason(witnesses, marks) != 0) {
            throw new IllegalArgumentException("the act can not be sealed");
        }
        remember();
        return book.sealOpen(witnesses);
    }

    public int cancel() throws IllegalStateException, IllegalArgumentException {
        requireBook();
        if (book.openAct() == null) {
            throw new IllegalArgumentException("no act is open");
        }
        remember();
        book.cancelOpen();
        return book.actCount;
    }

    public int addCopy(int a, int grade)
            throws IllegalStateException, IndexOutOfBoundsException, IllegalArgumentException {
        requireBook();
        requireAct(a);
        requireUpTo(grade, MOST_GRADE);
        if (book.copyReason(a, grade) != 0) {
            throw new IllegalArgumentException("the act can not be copied");
        }
        remember();
        book.makeCopy(a, grade);
        return book.copyCount - 1;
    }

    public int burn(int c) throws IllegalStateException, IndexOutOfBoundsException {
        requireBook();
        requireCopy(c);
        remember();
        book.burnCopy(c);
        return book.copyCount;
    }

    public int lose(int l) throws IllegalStateException, IndexOutOfBoundsException, IllegalArgumentException {
        requireBook();
        requireLeafAt(l, !book.leaves.isLost(l));
        remember();
        int lost = book.wouldBeUnknown(l);
        book.leaves.drop(l);
        return lost;
    }

    public int recover(int l) throws IllegalStateException, IndexOutOfBoundsException, IllegalArgumentException {
        requireBook();
        requireLeafAt(l, book.leaves.isLost(l));
        remember();
        book.leaves.bringBack(l);
        // What losing it again would make unknown is just what finding it made known.
        return book.wouldBeUnknown(l);
    }

    public int sew(int l) throws IllegalStateException, IndexOutOfBoundsException, IllegalArgumentException {
        requireBook();
        requireLeafAt(l, book.leaves.isLoose(l));
        remember();
        book.leaves.fasten(l);
        return book.leaves.countOf(Leaves.LOOSE);
    }

    public int shake() throws IllegalStateException {
        requireBook();
        remember();
        return book.leaves.dropLoose();
    }

    public int undo() throws IllegalStateException {
        if (pastSize == 0) {
            throw new IllegalStateException("there is no change to undo");
        }
        pastSize--;
        int place = (pastStart + pastSize) % UNDO_DEPTH;
        Book before = rowAt(past, place);
        past[place] = book;
        book = before;
        return pastSize;
    }

    public int undoable() {
        return pastSize;
    }

    public int save(int slot) throws IllegalStateException, IndexOutOfBoundsException {
        requireBook();
        requireSlot(slot);
        rowAt(slots, slot).take(book);
        slotFilled[slot] = true;
        return book.actCount;
    }

    public int restore(int slot) throws IndexOutOfBoundsException, IllegalStateException {
        requireSlot(slot);
        if (!slotFilled[slot]) {
            throw new IllegalStateException("nothing is saved there");
        }
        book.take(rowAt(slots, slot));
        forgetPast();
        return book.actCount;
    }

    // ---- undo

    /** Keeps the book as it is ahead of a change; the oldest one kept gives way. */
    private void remember() {
        if (pastSize == UNDO_DEPTH) {
            pastStart = (pastStart + 1) % UNDO_DEPTH;
            pastSize--;
        }
        rowAt(past, (pastStart + pastSize) % UNDO_DEPTH).take(book);
        pastSize++;
    }

    private void forgetPast() {
        pastStart = 0;
        pastSize = 0;
    }

    private static Book rowAt(Book[] rows, int place) {
        if (rows[place] == null) {
            rows[place] = new Book();
        }
        return rows[place];
    }

    // ---- what a call requires

    private void requireBook() {
        if (!loaded) {
            throw new IllegalStateException("no text was loaded");
        }
    }

    private void requireBytes(int n) {
        if (n < 0 || n > inputSize) {
            throw new IndexOutOfBoundsException("the buffer has not so many bytes");
        }
    }

    private static void requireUpTo(int number, int most) {
        if (number < 0 || number > most) {
            throw new IllegalArgumentException("a number is out of its range");
        }
    }

    private Act requireAct(int a) {
        if (a < 1 || a > book.actCount) {
            throw new IndexOutOfBoundsException("there is no such act");
        }
        return book.acts[a - 1];
    }

    /** Returns the place of the word among the written words of all acts. */
    private static int requireWord(Act act, int i) {
        if (i < 0 || i >= act.size) {
            throw new IndexOutOfBoundsException("there is no such word");
        }
        return act.first + i;
    }

    private Copy requireCopy(int c) {
        if (c < 0 || c >= book.copyCount) {
            throw new IndexOutOfBoundsException("there is no such copy");
        }
        return book.copies[c];
    }

    private void requireLeaf(int l) {
        if (!book.leaves.isThere(l)) {
            throw new IndexOutOfBoundsException("there is no such leaf");
        }
    }

    private void requireLeafAt(int l, boolean isSo) {
        requireLeaf(l);
        if (!isSo) {
            throw new IllegalArgumentException("the leaf is not so");
        }
    }

    private static void requireSlot(int slot) {
        if (slot < 0 || slot >= SLOTS) {
            throw new IndexOutOfBoundsException("there is no such slot");
        }
    }

    // ---- words: the letters are the bytes of a long, the last letter in its lowest byte

    private static boolean isLetter(int b) {
        return b >= 'a' && b <= 'z';
    }

    private static long joined(long word, int letter) {
        return (word << 8) | letter;
    }

    private static int lettersIn(long word) {
        int letters = 0;
        while (letters < WORD_LETTERS && (word >>> (8 * letters)) != 0) {
            letters++;
        }
        return letters;
    }

    private static int letterOf(long word, int k) {
        int letters = lettersIn(word);
        if (k < 0 || k >= letters) {
            return NONE;
        }
        return (int) (word >>> (8 * (letters - 1 - k))) & 255;
    }

    private static long packed(String name) {
        long word = 0;
        for (int k = 0; k < name.length(); k++) {
            word = joined(word, name.charAt(k));
        }
        return word;
    }

    /** Returns the word that the first n bytes of the buffer are, 0 if they are none. */
    private long inputWord(int n) {
        if (n > WORD_LETTERS) {
            return 0;
        }
        long word = 0;
        for (int at = 0; at < n; at++) {
            if (!isLetter(input[at])) {
                return 0;
            }
            word = joined(word, input[at]);
        }
        return word;
    }

    /** An act: its words are those of the script from its first one on. */
    private static final class Act {
        static final int OPEN = 0;
        static final int SEALED = 1;
        static final int CANCELLED = 2;

        int number;
        int kind;
        int stage;
        int witnesses;
        int marks;
        int first;
        int size;
        int fee;

        void take(Act from) {
            number = from.number;
            kind = from.kind;
            stage = from.stage;
            witnesses = from.witnesses;
            marks = from.marks;
            first = from.first;
            size = from.size;
            fee = from.fee;
        }

        void start(int newNumber, int newKind, int newFirst, int newSize) {
            number = newNumber;
            kind = newKind;
            stage = OPEN;
            witnesses = 0;
            marks = 0;
            first = newFirst;
            size = newSize;
            fee = 0;
        }

        int baseFee() {
            switch (kind) {
                case 0:
                    return 5;
                case 1:
                    return 3;
                default:
                    return 4;
            }
        }
    }

    /**
     * The written words of all acts, one after the other. Every clause has a word, so that it is enough to
     * know how many clauses begin ahead of a word and how many end behind it.
     */
    private static final class Script {
        static final int MOST = 240;
        static final int MOST_BEHIND = 4;
        static final int MOST_DEPTH = 4;

        int size;
        final long[] words = new long[MOST];
        final int[] opens = new int[MOST];
        final int[] closes = new int[MOST];
        final boolean[] struck = new boolean[MOST];
        final int[] inserted = new int[MOST];
        final long[] inserts = new long[MOST * MOST_BEHIND];

        void take(Script from) {
            size = from.size;
            System.arraycopy(from.words, 0, words, 0, size);
            System.arraycopy(from.opens, 0, opens, 0, size);
            System.arraycopy(from.closes, 0, closes, 0, size);
            System.arraycopy(from.inserted, 0, inserted, 0, size);
            System.arraycopy(from.inserts, 0, inserts, 0, size * MOST_BEHIND);
            for (int w = 0; w < size; w++) {
                struck[w] = from.struck[w];
            }
        }

        /** Puts a word at a place behind all written words, where it is none of them as long as size stays. */
        void stage(int place, long word, int brackets) {
            if (place >= size && place < MOST) {
                words[place] = word;
                opens[place] = brackets;
                closes[place] = 0;
                struck[place] = false;
                inserted[place] = 0;
            }
        }

        void closeBehind(int place) {
            if (place >= size && place < MOST) {
                closes[place]++;
            }
        }

        void insert(int w, long word) {
            if (inserted[w] < MOST_BEHIND) {
                inserts[w * MOST_BEHIND + inserted[w]] = word;
                inserted[w]++;
            }
        }

        /** Returns an interlined word, 0 if there is no such one. */
        long insertOf(int w, int j) {
            return j < 0 || j >= inserted[w] ? 0 : inserts[w * MOST_BEHIND + j];
        }

        int unstruckFrom(int first, int count) {
            int unstruck = 0;
            for (int w = first; w < first + count; w++) {
                if (!struck[w]) {
                    unstruck++;
                }
            }
            return unstruck;
        }

        int standingFrom(int first, int count) {
            int standing = unstruckFrom(first, count);
            for (int w = first; w < first + count; w++) {
                standing += inserted[w];
            }
            return standing;
        }

        /** Returns the standing words as the sum of those of each outermost clause and of those in no clause. */
        int standingByClauses(int first, int count) {
            int standing = 0;
            int inClause = 0;
            int depth = 0;
            for (int w = first; w < first + count; w++) {
                depth += opens[w];
                inClause += standingFrom(w, 1);
                depth -= closes[w];
                if (depth == 0) {
                    standing += inClause;
                    inClause = 0;
                }
            }
            return standing;
        }

        int strikeFrom(int first, int count) {
            int struckNow = unstruckFrom(first, count);
            for (int w = first; w < first + count; w++) {
                struck[w] = true;
            }
            return struckNow;
        }

        boolean standsWritten(Act act, long word) {
            for (int w = act.first; w < act.first + act.size; w++) {
                if (!struck[w] && words[w] == word) {
                    return true;
                }
            }
            return false;
        }

        boolean standsInterlined(Act act, long word) {
            for (int w = act.first; w < act.first + act.size; w++) {
                for (int j = 0; j < inserted[w]; j++) {
                    if (insertOf(w, j) == word) {
                        return true;
                    }
                }
            }
            return false;
        }

        int clausesFrom(int first, int count) {
            int clauses = 0;
            for (int w = first; w < first + count; w++) {
                clauses += opens[w];
            }
            return clauses;
        }

        int greatestDepth(int first, int count) {
            int greatest = 0;
            int depth = 0;
            for (int w = first; w < first + count; w++) {
                depth += opens[w];
                greatest = Math.max(greatest, depth);
                depth -= closes[w];
            }
            return greatest;
        }

        /** The depth of word w of the act whose first word is told. */
        int depthOf(int first, int w) {
            int depth = opens[w];
            for (int v = first; v < w; v++) {
                depth += opens[v] - closes[v];
            }
            return depth;
        }

        /** The innermost clause is the last one up to the word that begins at the depth of the word. */
        int innermostOf(int first, int w) {
            int wanted = depthOf(first, w);
            int innermost = NONE;
            int clauses = 0;
            int depth = 0;
            for (int v = first; v <= w; v++) {
                if (depth < wanted && depth + opens[v] >= wanted) {
                    innermost = clauses + wanted - depth - 1;
                }
                clauses += opens[v];
                depth += opens[v] - closes[v];
            }
            return innermost;
        }
    }

    /** A clause that was looked for. */
    private static final class Clause {
        int first;
        int size;
        int depth;
        int children;

        /** Returns whether the act has a clause of that number; then the fields tell of it. */
        boolean seek(Script script, Act act, int number) {
            int clauses = 0;
            int depthNow = 0;
            for (int w = act.first; w < act.first + act.size; w++) {
                if (number >= clauses && number < clauses + script.opens[w]) {
                    first = w;
                    depth = depthNow + number - clauses + 1;
                    followFrom(script, act, depthNow + script.opens[w]);
                    return true;
                }
                clauses += script.opens[w];
                depthNow += script.opens[w] - script.closes[w];
            }
            return false;
        }

        /** Goes from the first word, whose depth is told, to the last one of the clause. */
        private void followFrom(Script script, Act act, int depthOfFirst) {
            children = depthOfFirst > depth ? 1 : 0;
            int depthNow = depthOfFirst - script.closes[first];
            int w = first;
            while (depthNow >= depth && w + 1 < act.first + act.size) {
                w++;
                if (depthNow == depth && script.opens[w] > 0) {
                    children++;
                }
                depthNow += script.opens[w] - script.closes[w];
            }
            size = w - first + 1;
        }
    }

    /** The leaves of the book: each one is fast, loose or lost. */
    private static final class Leaves {
        static final int MOST = 12;
        static final int FAST = 0;
        static final int LOOSE = 1;
        static final int LOST = 2;

        int gather;
        int size;
        final int[] states = new int[MOST];
        // A row for dropLoose() alone, and no part of the state.
        private final boolean[] fallen = new boolean[MOST];

        void take(Leaves from) {
            gather = from.gather;
            size = from.size;
            System.arraycopy(from.states, 0, states, 0, MOST);
        }

        boolean isThere(int l) {
            return l >= 0 && l < size;
        }

        int stateOf(int l) {
            return isThere(l) ? states[l] : FAST;
        }

        boolean isLost(int l) {
            return isThere(l) && states[l] == LOST;
        }

        boolean isLoose(int l) {
            return isThere(l) && states[l] == LOOSE;
        }

        int countOf(int state) {
            int leaves = 0;
            for (int l = 0; l < size; l++) {
                if (states[l] == state) {
                    leaves++;
                }
            }
            return leaves;
        }

        int gatheringOf(int l) {
            return gather > 0 ? l / gather : 0;
        }

        int mateOf(int l) {
            int start = gatheringOf(l) * gather;
            int mate = start + gather - 1 - (l - start);
            return mate != l && isThere(mate) ? mate : NONE;
        }

        void fasten(int l) {
            if (isThere(l)) {
                states[l] = FAST;
            }
        }

        void drop(int l) {
            if (isThere(l)) {
                states[l] = LOST;
                loosenMateOf(l);
            }
        }

        private void loosenMateOf(int l) {
            int mate = mateOf(l);
            if (isThere(mate) && states[mate] == FAST) {
                states[mate] = LOOSE;
            }
        }

        void bringBack(int l) {
            fasten(l);
            int mate = mateOf(l);
            if (isLoose(mate)) {
                fasten(mate);
            }
        }

        /** Shakes the book once; returns how many leaves are lost by it. */
        int dropLoose() {
            int dropped = 0;
            for (int l = 0; l < size; l++) {
                fallen[l] = states[l] == LOOSE;
                if (fallen[l]) {
                    states[l] = LOST;
                    dropped++;
                }
            }
            // Only now, since two mates that are both loose fall at once.
            for (int l = 0; l < size; l++) {
                if (fallen[l]) {
                    loosenMateOf(l);
                }
            }
            return dropped;
        }

        void extendTo(int newSize) {
            while (size < newSize && size < MOST) {
                size++;
                boolean isLoose = isLost(mateOf(size - 1));
                states[size - 1] = isLoose ? LOOSE : FAST;
            }
        }
    }

    /** A copy, made or only thought of: a sealed act stays as it is, so that its words need not be kept. */
    private static final class Copy {
        static final int WHOLE = 0;
        static final int ENDS = 2;

        int act;
        int grade;
        // The first and the last written word of the act that stand; last is less than first if none stands.
        int first;
        int last;
        int size;

        void take(Copy from) {
            act = from.act;
            grade = from.grade;
            first = from.first;
            last = from.last;
            size = from.size;
        }

        void draw(Script script, Act source, int newGrade) {
            act = source.number;
            grade = newGrade;
            first = 0;
            last = NONE;
            size = 0;
            for (int w = source.first; w < source.first + source.size; w++) {
                if (!script.struck[w]) {
                    first = last == NONE ? w : first;
                    last = w;
                }
            }
            for (int w = source.first; w < source.first + source.size; w++) {
                size += holds(script, w) ? 1 : 0;
                size += grade == WHOLE ? script.inserted[w] : 0;
            }
        }

        boolean holds(Script script, int w) {
            if (w < first || w > last || script.struck[w]) {
                return false;
            }
            return grade != ENDS || w == first || w == last;
        }

        int fee() {
            return 3 - grade;
        }
    }

    /** The state: acts, leaves, copies and CASH. */
    private static final class Book {
        static final int MOST_ACTS = 10;
        static final int MOST_COPIES = 8;

        int room;
        int need;
        int actCount;
        int copyCount;
        int cash;
        int burntFees;
        final Act[] acts = new Act[MOST_ACTS];
        final Copy[] copies = new Copy[MOST_COPIES];
        final Script script = new Script();
        final Leaves leaves = new Leaves();
        // For what is looked for and what would be, and no part of the state.
        final Clause clause = new Clause();
        final Copy trialCopy = new Copy();

        Book() {
            for (int k = 0; k < MOST_ACTS; k++) {
                acts[k] = new Act();
            }
            for (int k = 0; k < MOST_COPIES; k++) {
                copies[k] = new Copy();
            }
        }

        void take(Book from) {
            room = from.room;
            need = from.need;
            actCount = from.actCount;
            copyCount = from.copyCount;
            cash = from.cash;
            burntFees = from.burntFees;
            for (int k = 0; k < actCount; k++) {
                acts[k].take(from.acts[k]);
            }
            for (int k = 0; k < copyCount; k++) {
                copies[k].take(from.copies[k]);
            }
            script.take(from.script);
            leaves.take(from.leaves);
        }

        void clear() {
            actCount = 0;
            copyCount = 0;
            cash = 0;
            burntFees = 0;
            script.size = 0;
            leaves.size = 0;
        }

        // ---- acts and words

        Act openAct() {
            if (actCount == 0 || acts[actCount - 1].stage != Act.OPEN) {
                return null;
            }
            return acts[actCount - 1];
        }

        int openNumber() {
            return openAct() == null ? 0 : actCount;
        }

        int openSize() {
            Act act = openAct();
            return act == null ? 0 : act.size;
        }

        int openStanding() {
            Act act = openAct();
            return act == null ? 0 : script.standingFrom(act.first, act.size);
        }

        int marksOfAll() {
            int marks = 0;
            for (int k = 0; k < actCount; k++) {
                marks += acts[k].marks;
            }
            return marks;
        }

        int actsAt(int stage) {
            int there = 0;
            for (int k = 0; k < actCount; k++) {
                if (acts[k].stage == stage) {
                    there++;
                }
            }
            return there;
        }

        int standingOfSealed() {
            int standing = 0;
            for (int k = 0; k < actCount; k++) {
                if (acts[k].stage == Act.SEALED) {
                    standing += script.standingFrom(acts[k].first, acts[k].size);
                }
            }
            return standing;
        }

        int firstActWith(long word) {
            for (int k = 0; k < actCount; k++) {
                if (script.standsWritten(acts[k], word) || script.standsInterlined(acts[k], word)) {
                    return k + 1;
                }
            }
            return 0;
        }

        /** Returns the number of the act whose first word is word w, 0 if there is none. */
        int actBegunAt(int w) {
            for (int k = 0; k < actCount; k++) {
                if (acts[k].first == w) {
                    return k + 1;
                }
            }
            return 0;
        }

        /** Returns whether word i of the open act is in a clause; then clause tells of the innermost one. */
        boolean seekClauseAround(int i) {
            Act act = openAct();
            if (act == null || i < 0 || i >= act.size) {
                return false;
            }
            return clause.seek(script, act, script.innermostOf(act.first, act.first + i));
        }

        // ---- leaves

        int leavesOf(int words) {
            return room > 0 ? (words + room - 1) / room : 0;
        }

        int leafOf(int w) {
            return room > 0 ? w / room : 0;
        }

        int mostWords() {
            return Math.min(Leaves.MOST * room, Script.MOST);
        }

        int wordsOn(int l) {
            return Math.max(0, Math.min(room, script.size - l * room));
        }

        private boolean isOn(Act act, int l) {
            return leafOf(act.first) <= l && leafOf(act.first + act.size - 1) >= l;
        }

        int actsOn(int l) {
            int there = 0;
            for (int k = 0; k < actCount; k++) {
                if (isOn(acts[k], l)) {
                    there++;
                }
            }
            return there;
        }

        int firstActOn(int l) {
            for (int k = 0; k < actCount; k++) {
                if (isOn(acts[k], l)) {
                    return k + 1;
                }
            }
            return 0;
        }

        // ---- what is known

        int copiesWith(int w) {
            int there = 0;
            for (int c = 0; c < copyCount; c++) {
                if (copies[c].holds(script, w)) {
                    there++;
                }
            }
            return there;
        }

        boolean isKnown(int w) {
            return !leaves.isLost(leafOf(w)) || copiesWith(w) > 0;
        }

        int unknownFrom(int first, int count) {
            int unknown = 0;
            for (int w = first; w < first + count; w++) {
                if (!isKnown(w)) {
                    unknown++;
                }
            }
            return unknown;
        }

        int wouldBeUnknown(int l) {
            if (leaves.isLost(l)) {
                return 0;
            }
            int unknown = 0;
            int first = l * room;
            int end = first + wordsOn(l);
            for (int w = first; w < end; w++) {
                if (copiesWith(w) == 0) {
                    unknown++;
                }
            }
            return unknown;
        }

        // ---- copies

        int copiesOf(int a) {
            int there = 0;
            for (int c = 0; c < copyCount; c++) {
                if (copies[c].act == a) {
                    there++;
                }
            }
            return there;
        }

        int knownByAlone(Copy copy) {
            int alone = 0;
            for (int w = copy.first; w <= copy.last; w++) {
                if (copy.holds(script, w) && leaves.isLost(leafOf(w)) && copiesWith(w) == 1) {
                    alone++;
                }
            }
            return alone;
        }

        int copyReason(int a, int grade) {
            if (a < 1 || a > actCount || acts[a - 1].stage != Act.SEALED) {
                return 1;
            }
            trialCopy.draw(script, acts[a - 1], grade);
            for (int w = trialCopy.first; w <= trialCopy.last; w++) {
                if (trialCopy.holds(script, w) && !isKnown(w)) {
                    return 2;
                }
            }
            return copyCount >= MOST_COPIES ? 3 : 0;
        }

        /** Returns how many written words of the act a copy of that grade, or one that there is, would have. */
        int copiedWith(Act act, int grade) {
            trialCopy.draw(script, act, grade);
            int copied = 0;
            for (int w = act.first; w < act.first + act.size; w++) {
                if (trialCopy.holds(script, w) || copiesWith(w) > 0) {
                    copied++;
                }
            }
            return copied;
        }

        void makeCopy(int a, int grade) {
            if (copyCount < MOST_COPIES && a >= 1 && a <= actCount) {
                copies[copyCount].draw(script, acts[a - 1], grade);
                cash += copies[copyCount].fee();
                copyCount++;
            }
        }

        void burnCopy(int c) {
            if (c >= 0 && c < copyCount) {
                burntFees += copies[c].fee();
                for (int k = c; k + 1 < copyCount; k++) {
                    copies[k].take(copies[k + 1]);
                }
                copyCount--;
            }
        }

        // ---- changes of acts

        /** Begins an act whose words are staged behind all written ones. */
        void beginAct(int kind, int staged) {
            if (actCount >= MOST_ACTS || script.size + staged > mostWords()) {
                return;
            }
            int lastLeaf = leaves.size - 1;
            if (leaves.isLost(lastLeaf) && wordsOn(lastLeaf) < room) {
                leaves.fasten(lastLeaf);
            }
            acts[actCount].start(actCount + 1, kind, script.size, staged);
            actCount++;
            script.size += staged;
            leaves.extendTo(leavesOf(script.size));
        }

        int strikeReason(int i) {
            Act act = openAct();
            if (act == null) {
                return 1;
            }
            if (i < 0 || i >= act.size) {
                return 2;
            }
            return script.struck[act.first + i] ? 3 : 0;
        }

        void strikeWord(int i) {
            Act act = openAct();
            if (act != null && i >= 0 && i < act.size) {
                script.strikeFrom(act.first + i, 1);
                act.marks++;
            }
        }

        /** Strikes the innermost clause of a word; returns how many words were struck by it. */
        int strikeAround(int i) {
            Act act = openAct();
            if (act == null || !seekClauseAround(i)) {
                return 0;
            }
            act.marks++;
            return script.strikeFrom(clause.first, clause.size);
        }

        boolean canInsert(int i) {
            Act act = openAct();
            return act != null && i >= 0 && i < act.size && script.inserted[act.first + i] < Script.MOST_BEHIND;
        }

        void insertWord(int i, long word) {
            Act act = openAct();
            if (act != null && canInsert(i)) {
                script.insert(act.first + i, word);
                act.marks++;
            }
        }

        int sealReason(int witnesses, int marks) {
            Act act = openAct();
            if (act == null) {
                return 1;
            }
            if (witnesses < need) {
                return 2;
            }
            if (marks != act.marks) {
                return 3;
            }
            return openStanding() == 0 ? 4 : 0;
        }

        /** Seals the open act and returns its fee. */
        int sealOpen(int witnesses) {
            Act act = openAct();
            if (act == null) {
                return 0;
            }
            act.fee = act.baseFee() + openStanding();
            act.witnesses = witnesses;
            act.stage = Act.SEALED;
            cash += act.fee;
            return act.fee;
        }

        void cancelOpen() {
            Act act = openAct();
            if (act != null) {
                act.stage = Act.CANCELLED;
            }
        }

        // ---- what must agree

        int wordsGap() {
            int gap = 0;
            for (int l = 0; l < leaves.size; l++) {
                gap += wordsOn(l);
            }
            for (int k = 0; k < actCount; k++) {
                gap -= acts[k].size;
            }
            return Math.abs(gap);
        }

        int standingGap() {
            int wrong = 0;
            for (int k = 0; k < actCount; k++) {
                int byClauses = script.standingByClauses(acts[k].first, acts[k].size);
                if (byClauses != script.standingFrom(acts[k].first, acts[k].size)) {
                    wrong++;
                }
            }
            return wrong;
        }

        int cashGap() {
            int gap = cash - burntFees;
            for (int k = 0; k < actCount; k++) {
                gap -= acts[k].fee;
            }
            for (int c = 0; c < copyCount; c++) {
                gap -= copies[c].fee();
            }
            return Math.abs(gap);
        }

        int numbersGap() {
            int wrong = 0;
            for (int k = 0; k < actCount; k++) {
                if (acts[k].number != k + 1) {
                    wrong++;
                }
            }
            return wrong;
        }
    }

    /** Goes through bytes token by token; the fields tell of the token that it is at. */
    private static final class Scanner {
        static final int END = 0;
        static final int WORD = 1;
        static final int NUMBER = 2;
        static final int SEMICOLON = 3;
        static final int OPEN = 4;
        static final int CLOSE = 5;
        static final int BAD = 6;

        private byte[] bytes = new byte[0];
        private int next;
        int end;
        int kind;
        int start;
        int number;
        long word;

        void startAt(byte[] newBytes, int newEnd) {
            bytes = newBytes;
            end = Math.min(newEnd, newBytes.length);
            next = 0;
            step();
        }

        void step() {
            while (next < end && bytes[next] == ' ') {
                next++;
            }
            start = next;
            if (next >= end) {
                kind = END;
            } else if (isLetter(bytes[next])) {
                readWord();
            } else if (isDigit(bytes[next])) {
                readNumber();
            } else {
                kind = kindOfSign(bytes[next]);
                next++;
            }
        }

        private static boolean isDigit(int b) {
            return b >= '0' && b <= '9';
        }

        private static int kindOfSign(int b) {
            switch (b) {
                case ';':
                    return SEMICOLON;
                case '(':
                    return OPEN;
                case ')':
                    return CLOSE;
                default:
                    return BAD;
            }
        }

        private void readWord() {
            word = 0;
            while (next < end && isLetter(bytes[next])) {
                word = joined(word, bytes[next]);
                next++;
            }
            kind = next - start <= WORD_LETTERS ? WORD : BAD;
        }

        private void readNumber() {
            number = 0;
            while (next < end && isDigit(bytes[next])) {
                number = number * 10 + bytes[next] - '0';
                next++;
            }
            kind = next - start <= 2 ? NUMBER : BAD;
        }
    }

    /** Reads texts by the grammar. A method that reads something ends at the token behind it. */
    private static final class Parser {
        static final int SYNTAX = 1;
        static final int BOUNDS = 2;
        static final int REFUSED = 3;
        static final int TOO_MANY = 4;

        int errorCode;
        int errorPlace;
        // How many words of a body were staged in the script of the book.
        int staged;
        private final Scanner scanner = new Scanner();
        private Book book;

        private boolean fail(int code) {
            errorCode = code;
            errorPlace = scanner.start;
            return false;
        }

        /** Returns whether the first n bytes are a book, which then stands in the target. */
        boolean readText(byte[] bytes, int n, Book target) {
            book = target;
            book.clear();
            scanner.startAt(bytes, n);
            if (!readHead()) {
                return false;
            }
            for (int line = 0; line <= scanner.end; line++) {
                if (scanner.kind == Scanner.END) {
                    return true;
                }
                if (scanner.kind != Scanner.SEMICOLON) {
                    return fail(SYNTAX);
                }
                scanner.step();
                if (!readLine()) {
                    return false;
                }
            }
            return fail(SYNTAX);
        }

        /** Returns whether the first n bytes are a body, whose words then are staged in the target. */
        boolean readBodyAlone(byte[] bytes, int n, Book target) {
            book = target;
            scanner.startAt(bytes, n);
            return readBody() && scanner.kind == Scanner.END;
        }

        private boolean isAtWord(String name) {
            return scanner.kind == Scanner.WORD && scanner.word == packed(name);
        }

        /** Fails if the token is no number from low to high, and stays at it. */
        private boolean checkNumber(int low, int high) {
            if (scanner.kind != Scanner.NUMBER) {
                return fail(SYNTAX);
            }
            return scanner.number >= low && scanner.number <= high || fail(BOUNDS);
        }

        /** The same for the token behind this one. */
        private boolean checkNextNumber(int low, int high) {
            scanner.step();
            return checkNumber(low, high);
        }

        private boolean finishLine() {
            scanner.step();
            return true;
        }

        private boolean readHead() {
            if (!isAtWord("book")) {
                return fail(SYNTAX);
            }
            if (!checkNextNumber(4, 20)) {
                return false;
            }
            book.room = scanner.number;
            if (!checkNextNumber(0, 4)) {
                return false;
            }
            book.need = scanner.number;
            if (!checkNextNumber(2, 4)) {
                return false;
            }
            book.leaves.gather = scanner.number;
            return finishLine();
        }

        private boolean readLine() {
            if (isAtWord("act")) {
                return readActLine();
            }
            if (isAtWord("strike")) {
                return readStrikeLine();
            }
            if (isAtWord("out")) {
                return readOutLine();
            }
            if (isAtWord("insert")) {
                return readInsertLine();
            }
            if (isAtWord("seal")) {
                return readSealLine();
            }
            if (isAtWord("cancel")) {
                return readCancelLine();
            }
            if (isAtWord("copy")) {
                return readCopyLine();
            }
            if (isAtWord("shake")) {
                book.leaves.dropLoose();
                return finishLine();
            }
            return readLeafLine();
        }

        private boolean readActLine() {
            if (book.openAct() != null) {
                return fail(REFUSED);
            }
            if (book.actCount >= Book.MOST_ACTS) {
                return fail(TOO_MANY);
            }
            scanner.step();
            int kind = kindAtWord();
            if (kind == NONE) {
                return fail(SYNTAX);
            }
            scanner.step();
            if (!readBody()) {
                return false;
            }
            book.beginAct(kind, staged);
            return true;
        }

        private int kindAtWord() {
            if (isAtWord("sale")) {
                return 0;
            }
            if (isAtWord("will")) {
                return 1;
            }
            return isAtWord("loan") ? 2 : NONE;
        }

        /** Every token that belongs to no body ends it; whether that may follow, the caller sees. */
        private boolean readBody() {
            Script script = book.script;
            int depth = 0;
            int brackets = 0;
            staged = 0;
            for (int token = 0; token <= scanner.end; token++) {
                if (scanner.kind == Scanner.WORD) {
                    if (script.size + staged >= book.mostWords()) {
                        return fail(TOO_MANY);
                    }
                    script.stage(script.size + staged, scanner.word, brackets);
                    staged++;
                    brackets = 0;
                } else if (scanner.kind == Scanner.OPEN) {
                    if (depth == Script.MOST_DEPTH) {
                        return fail(TOO_MANY);
                    }
                    depth++;
                    brackets++;
                } else if (scanner.kind == Scanner.CLOSE && depth > 0 && brackets == 0) {
                    script.closeBehind(script.size + staged - 1);
                    depth--;
                } else {
                    return depth == 0 && staged > 0 || fail(SYNTAX);
                }
                scanner.step();
            }
            return fail(SYNTAX);
        }

        private boolean readStrikeLine() {
            if (!checkNextNumber(0, book.openSize() - 1)) {
                return false;
            }
            if (book.strikeReason(scanner.number) != 0) {
                return fail(REFUSED);
            }
            book.strikeWord(scanner.number);
            return finishLine();
        }

        private boolean readOutLine() {
            if (!checkNextNumber(0, book.openSize() - 1)) {
                return false;
            }
            if (!book.seekClauseAround(scanner.number)) {
                return fail(REFUSED);
            }
            book.strikeAround(scanner.number);
            return finishLine();
        }

        private boolean readInsertLine() {
            if (!checkNextNumber(0, book.openSize() - 1)) {
                return false;
            }
            int i = scanner.number;
            if (!book.canInsert(i)) {
                return fail(REFUSED);
            }
            scanner.step();
            if (scanner.kind != Scanner.WORD) {
                return fail(SYNTAX);
            }
            book.insertWord(i, scanner.word);
            return finishLine();
        }

        private boolean readSealLine() {
            if (!checkNextNumber(0, MOST_WITNESSES)) {
                return false;
            }
            int witnesses = scanner.number;
            if (!checkNextNumber(0, MOST_MARKS)) {
                return false;
            }
            if (book.sealReason(witnesses, scanner.number) != 0) {
                return fail(REFUSED);
            }
            book.sealOpen(witnesses);
            return finishLine();
        }

        private boolean readCancelLine() {
            if (book.openAct() == null) {
                return fail(REFUSED);
            }
            book.cancelOpen();
            return finishLine();
        }

        private boolean readCopyLine() {
            if (book.copyCount >= Book.MOST_COPIES) {
                return fail(TOO_MANY);
            }
            if (!checkNextNumber(1, book.actCount)) {
                return false;
            }
            int a = scanner.number;
            if (!checkNextNumber(0, MOST_GRADE)) {
                return false;
            }
            if (book.copyReason(a, scanner.number) != 0) {
                return fail(REFUSED);
            }
            book.makeCopy(a, scanner.number);
            return finishLine();
        }

        /** The lines of one leaf; what begins with another word is no line at all. */
        private boolean readLeafLine() {
            boolean isLose = isAtWord("lose");
            boolean isFind = isAtWord("find");
            if (!isLose && !isFind && !isAtWord("sew")) {
                return fail(SYNTAX);
            }
            Leaves leaves = book.leaves;
            if (!checkNextNumber(0, leaves.size - 1)) {
                return false;
            }
            int l = scanner.number;
            if (isLose && !leaves.isLost(l)) {
                leaves.drop(l);
            } else if (isFind && leaves.isLost(l)) {
                leaves.bringBack(l);
            } else if (!isLose && !isFind && leaves.isLoose(l)) {
                leaves.fasten(l);
            } else {
                return fail(REFUSED);
            }
            return finishLine();
        }
    }

    /** Writes words into the text, with a blank between two things that it puts. */
    private static final class Pen {
        final StringBuilder text = new StringBuilder();

        void startText() {
            text.setLength(0);
        }

        private void putBlank() {
            if (text.length() > 0) {
                text.append(' ');
            }
        }

        private void putLetters(long word) {
            int letters = lettersIn(word);
            for (int k = 0; k < letters; k++) {
                text.append((char) letterOf(word, k));
            }
        }

        void putWord(long word) {
            putBlank();
            putLetters(word);
        }

        void putMarkedWord(char mark, long word) {
            putBlank();
            text.append(mark);
            putLetters(word);
        }

        void putNumberedWord(int number, long word) {
            putBlank();
            text.append(number);
            text.append(':');
            putLetters(word);
        }

        void putSigns(char sign, int times) {
            for (int k = 0; k < times; k++) {
                putBlank();
                text.append(sign);
            }
        }
    }
}
