import java.util.function.IntFunction;

/** The lines of the document that stand at many methods: no text, no such act, word, copy or leaf, a number out of range. */
final class SentencesOfMany extends Check {
    private static final String NO_TEXT = "Throws `IllegalStateException` if no text was loaded";

    private SentencesOfMany() {
    }

    static void run() {
        withoutTextAsked();
        withoutTextAskedMore();
        withoutTextChanged();
        acts();
        words();
        copies();
        leaves();
        whats();
        grades();
        witnesses();
    }

    interface On {
        Object answer(NotaryBook x);
    }

    // ---- no text

    /** On a new object with bytes in its buffer, and on one whose only text had an error; other exceptions apply, too. */
    private static void without(int promise, On good, On bad) {
        Doc.says(promise, NO_TEXT);
        for (int k = 0; k < 2; k++) {
            NotaryBook x = new NotaryBook();
            if (k == 1) {
                argument("a text with an error", () -> load(x, "book 4 0 2;act sale a;seal 0 0;copy 1 0;lose 0;lose 0"));
            }
            put(x, "a");
            refused(STATE, x, "without a text", () -> good.answer(x));
            refused(STATE, x, "without a text, and with wrong numbers", () -> bad.answer(x));
        }
    }

    private static void withoutTextAsked() {
        without(7, x -> x.count(3), x -> x.count(16));
        without(8, x -> x.act(1, 0), x -> x.act(0, 12));
        without(9, x -> x.word(1, 0, 0), x -> x.word(0, -1, 8));
        without(10, x -> x.letter(1, 0, 0), x -> x.letter(0, -1, -1));
        without(11, x -> x.innerLetter(1, 0, 0, 0), x -> x.innerLetter(0, -1, -1, -1));
        without(12, x -> x.clause(1, 0, 0), x -> x.clause(0, -1, 6));
        without(13, x -> x.leaf(0, 0), x -> x.leaf(-1, 6));
        without(14, x -> x.copy(0, 0), x -> x.copy(-1, 5));
        without(15, x -> x.has(0, 0), x -> x.has(-1, -1));
        without(16, x -> x.known(1), x -> x.known(0));
        without(17, x -> x.firstUnknown(1), x -> x.firstUnknown(0));
        without(18, x -> x.gap(), x -> x.gap());
        without(19, x -> x.whyNotSeal(0, 0), x -> x.whyNotSeal(10, 100));
        without(20, x -> x.whyNotCopy(1, 0), x -> x.whyNotCopy(0, 3));
        without(21, x -> x.whyNotStrike(0), x -> x.whyNotStrike(-1));
    }

    private static void withoutTextAskedMore() {
        without(22, x -> x.unknownIf(0), x -> x.unknownIf(-1));
        without(23, x -> x.worstLeaf(), x -> x.worstLeaf());
        without(24, x -> x.shakenOut(), x -> x.shakenOut());
        without(25, x -> x.leavesFor(0), x -> x.leavesFor(241));
        without(26, x -> x.copyWords(1, 0), x -> x.copyWords(0, 3));
        without(27, x -> x.bestCopy(1), x -> x.bestCopy(0));
        without(28, x -> x.standingIf(0, false), x -> x.standingIf(-1, true));
        without(29, x -> x.findWord(1), x -> x.findWord(21));
        without(30, x -> x.longest(1), x -> x.longest(0));
        without(31, x -> x.common(1, 1), x -> x.common(0, 0));
        without(32, x -> x.knownShare(), x -> x.knownShare());
        without(33, x -> x.meanWords(), x -> x.meanWords());
        without(34, x -> x.writeAct(1), x -> x.writeAct(0));
        without(35, x -> x.writeStanding(1), x -> x.writeStanding(0));
        without(36, x -> x.writeLeaf(0), x -> x.writeLeaf(-1));
        without(37, x -> x.writeCopy(0), x -> x.writeCopy(-1));
    }

    private static void withoutTextChanged() {
        without(39, x -> x.begin(0, 1), x -> x.begin(3, 21));
        without(40, x -> x.strike(0), x -> x.strike(-1));
        without(41, x -> x.strikeClause(0), x -> x.strikeClause(-1));
        without(42, x -> x.interline(0, 1), x -> x.interline(-1, 21));
        without(43, x -> x.seal(0, 0), x -> x.seal(10, 100));
        without(44, x -> x.cancel(), x -> x.cancel());
        without(45, x -> x.addCopy(1, 0), x -> x.addCopy(0, 3));
        without(46, x -> x.burn(0), x -> x.burn(-1));
        without(47, x -> x.lose(0), x -> x.lose(-1));
        without(48, x -> x.recover(0), x -> x.recover(-1));
        without(49, x -> x.sew(0), x -> x.sew(-1));
        without(50, x -> x.shake(), x -> x.shake());
        without(53, x -> x.save(0), x -> x.save(2));
        Doc.says(0, "IllegalStateException is thrown if no text was loaded.");
        answers("but not by parseError", () -> new NotaryBook().parseError());
        answers("nor by undoable", () -> new NotaryBook().undoable());
    }

    // ---- no such thing

    interface Numbered {
        Object answer(NotaryBook x, int number);
    }

    /** Two acts, of which the first is sealed and has a copy; three leaves, of which the second is loose. */
    private static NotaryBook book() {
        return loaded(TWO_ACTS + ";copy 1 0;lose 0");
    }

    private static void range(int promise, String words, String exception, Class<?> want, int low, int high, Numbered call) {
        Doc.says(promise, words);
        answers("the least", () -> call.answer(book(), low));
        answers("the greatest", () -> call.answer(book(), high));
        Doc.says(promise, exception);
        NotaryBook x = book();
        put(x, "a");
        for (int n : outside(low, high)) {
            refused(want, x, "the number " + n, () -> call.answer(x, n));
        }
    }

    private static void act(int promise, Numbered call) {
        actOf(promise, promise >= 9 && promise <= 11 ? "if there is no such act or word"
                : promise == 12 ? "if there is no such act or clause" : "if there is no such act", call);
    }

    private static void actOf(int promise, String exception, Numbered call) {
        range(promise, "`a`: number of an act, from 1", exception, INDEX, 1, 2, call);
        NotaryBook none = loaded("book 4 0 2");
        refused(INDEX, none, "an act of none", () -> call.answer(none, 1));
        NotaryBook ten = loaded("book 20 0 2");
        for (int a = 1; a <= 10; a++) {
            begin(ten, 0, "(a)");
            ten.seal(0, 0);
        }
        answers("the 10th act", () -> call.answer(ten, 10));
        refused(INDEX, ten, "an 11th act", () -> call.answer(ten, 11));
    }

    private static void acts() {
        act(8, (x, a) -> x.act(a, 0));
        act(9, (x, a) -> x.word(a, 0, 0));
        act(10, (x, a) -> x.letter(a, 0, 0));
        act(11, (x, a) -> x.innerLetter(a, 0, 0, 0));
        act(12, (x, a) -> x.clause(a, 0, 0));
        act(16, (x, a) -> x.known(a));
        act(17, (x, a) -> x.firstUnknown(a));
        act(20, (x, a) -> x.whyNotCopy(a, 0));
        act(26, (x, a) -> x.copyWords(a, 0));
        act(27, (x, a) -> x.bestCopy(a));
        act(30, (x, a) -> x.longest(a));
        act(31, (x, a) -> x.common(a, 1));
        act(34, (x, a) -> x.writeAct(a));
        act(35, (x, a) -> x.writeStanding(a));
        Doc.says(45, "`a`: number of an act, from 1");
        for (int a = 1; a <= 3; a++) {
            NotaryBook x = loaded("book 4 0 2;act sale a;seal 0 0;act sale b;seal 0 0;act sale c;seal 0 0");
            x.addCopy(a, 0);
            is("a copy of act " + a, x.copy(0, 0), a);
        }
        Doc.says(45, "if there is no such act");
        NotaryBook x = book();
        for (int a : outside(1, 2)) {
            refused(INDEX, x, "a copy of act " + a, () -> x.addCopy(a, 0));
        }
        NotaryBook none = loaded("book 4 0 2");
        refused(INDEX, none, "a copy of none", () -> none.addCopy(1, 0));
    }

    private static void words() {
        int[] promises = {9, 10, 11};
        Numbered[] calls = {(x, i) -> x.word(1, i, 0), (x, i) -> x.letter(1, i, 0), (x, i) -> x.innerLetter(1, i, 0, 0)};
        Numbered[] seconds = {(x, i) -> x.word(2, i, 0), (x, i) -> x.letter(2, i, 0), (x, i) -> x.innerLetter(2, i, 0, 0)};
        for (int k = 0; k < 3; k++) {
            range(promises[k], "`i`: number of a word of the act, from 0", "if there is no such act or word", INDEX, 0, 6,
                    calls[k]);
            range(promises[k], "`i`: number of a word of the act, from 0", "if there is no such act or word", INDEX, 0, 4,
                    seconds[k]);
        }
    }

    private static void copies() {
        int[] promises = {14, 15, 37, 46};
        Numbered[] calls = {(x, c) -> x.copy(c, 0), (x, c) -> x.has(c, 0), (x, c) -> x.writeCopy(c), (x, c) -> x.burn(c)};
        for (int k = 0; k < 4; k++) {
            Numbered call = calls[k];
            Doc.says(promises[k], "`c`: number of a copy, from 0");
            for (int c = 0; c < 8; c++) {
                int copy = c;
                NotaryBook eight = loaded("book 4 0 2;act sale a;seal 0 0;copy 1 0;copy 1 1;copy 1 2;copy 1 0;copy 1 1;"
                        + "copy 1 2;copy 1 0;copy 1 1");
                answers("copy " + c, () -> call.answer(eight, copy));
            }
            Doc.says(promises[k], k == 1 ? "if there is no such copy or word" : "if there is no such copy");
            NotaryBook x = loaded(TWO_ACTS);
            for (int there = 0; there <= 8; there++) {
                for (int c : outside(0, there - 1)) {
                    refused(INDEX, x, "copy " + c + " of " + there, () -> call.answer(x, c));
                }
                if (there < 8) {
                    x.addCopy(1, 0);
                }
            }
        }
    }

    private static void leaves() {
        int[] promises = {13, 22, 36};
        Numbered[] calls = {(x, l) -> x.leaf(l, 0), (x, l) -> x.unknownIf(l), (x, l) -> x.writeLeaf(l)};
        for (int k = 0; k < 3; k++) {
            range(promises[k], "`l`: number of a leaf, from 0", "if there is no such leaf", INDEX, 0, 2, calls[k]);
        }
        Numbered[] changes = {(x, l) -> x.lose(l), (x, l) -> x.recover(l), (x, l) -> x.sew(l)};
        for (int k = 0; k < 3; k++) {
            Numbered call = changes[k];
            Doc.says(47 + k, "`l`: number of a leaf, from 0");
            for (int l = 0; l < 12; l++) {
                NotaryBook x = loaded("book 4 0 2;act sale " + words(48) + ";cancel");
                int leaf = l;
                if (k > 0) {
                    x.lose(k == 1 ? l : l ^ 1);
                }
                answers("leaf " + l, () -> call.answer(x, leaf));
                is("it is so", x.leaf(l, 0), k == 0 ? LOST : FAST);
            }
            Doc.says(47 + k, "if there is no such leaf");
            for (int words : new int[] {0, 1, 5, 48}) {
                NotaryBook x = loaded("book 4 0 2" + (words == 0 ? "" : ";act sale " + words(words)));
                for (int l : outside(0, (words + 3) / 4 - 1)) {
                    refused(INDEX, x, "leaf " + l, () -> call.answer(x, l));
                }
            }
        }
    }

    private static void whats() {
        int[] promises = {7, 8, 9, 12, 13, 14};
        int[] most = {15, 11, 7, 5, 5, 4};
        Numbered[] calls = {(x, w) -> x.count(w), (x, w) -> x.act(1, w), (x, w) -> x.word(1, 0, w), (x, w) -> x.clause(1, 0, w),
            (x, w) -> x.leaf(0, w), (x, w) -> x.copy(0, w)};
        for (int k = 0; k < 6; k++) {
            Numbered call = calls[k];
            Doc.says(promises[k], k == 0 ? "Returns the count." : "Returns the number.");
            for (int what = 0; what <= most[k]; what++) {
                int w = what;
                answers("what " + w, () -> call.answer(book(), w));
            }
            range(promises[k], "`what`: 0: ", "if what is out of range", ARGUMENT, 0, most[k], calls[k]);
        }
    }

    private static void grades() {
        range(20, "`grade`: GRADE, 0 to 2", "if grade is out of range", ARGUMENT, 0, 2, (x, g) -> x.whyNotCopy(1, g));
        range(26, "`grade`: GRADE, 0 to 2", "if grade is out of range", ARGUMENT, 0, 2, (x, g) -> x.copyWords(1, g));
        range(45, "`grade`: GRADE, 0 to 2", "if grade is out of range", ARGUMENT, 0, 2, (x, g) -> x.addCopy(1, g));
        Doc.says(39, "`kind`: KIND, 0 to 2");
        for (int kind = 0; kind <= 2; kind++) {
            NotaryBook x = twoActs();
            is("its number", begin(x, kind, "a"), 3);
            is("its kind", x.act(3, 0), kind);
        }
        Doc.says(39, "if kind is out of range");
        NotaryBook x = twoActs();
        put(x, "a");
        for (int kind : outside(0, 2)) {
            refused(ARGUMENT, x, "kind " + kind, () -> x.begin(kind, 1));
        }
    }

    private static void witnesses() {
        IntFunction<NotaryBook> open = need -> loaded("book 4 " + need + " 2;act sale a");
        for (int promise : new int[] {19, 43}) {
            Numbered seal = promise == 19 ? (x, w) -> x.whyNotSeal(w, 0) : (x, w) -> x.seal(w, 0);
            Numbered marks = promise == 19 ? (x, m) -> x.whyNotSeal(0, m) : (x, m) -> x.seal(0, m);
            Doc.says(promise, "`witnesses`: 0 to 9");
            for (int w = 0; w <= 9; w++) {
                int many = w;
                answers("witnesses " + w, () -> seal.answer(open.apply(Math.min(many, 4)), many));
            }
            Doc.says(promise, "`marks`: 0 to 99");
            for (int m = 0; m <= 99; m++) {
                int many = m;
                NotaryBook x = loaded("book 4 0 2;act sale (a) b");
                for (int k = 0; k < m; k++) {
                    x.strikeClause(0);
                }
                answers("marks " + m, () -> marks.answer(x, many));
            }
            Doc.says(promise, "if witnesses or marks is out of range");
            NotaryBook hundred = loaded("book 4 0 2;act sale (a) b");
            for (int k = 0; k < 100; k++) {
                hundred.strikeClause(0);
            }
            refused(ARGUMENT, hundred, "100 marks, as there are", () -> marks.answer(hundred, 100));
            for (NotaryBook x : new NotaryBook[] {open.apply(0), open.apply(4), twoActs()}) {
                for (int w : outside(0, 9)) {
                    refused(ARGUMENT, x, "witnesses " + w, () -> seal.answer(x, w));
                }
                for (int m : outside(0, 99)) {
                    refused(ARGUMENT, x, "marks " + m, () -> marks.answer(x, m));
                }
            }
        }
    }
}
