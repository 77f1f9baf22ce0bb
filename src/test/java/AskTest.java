/** Promises 7 to 38: what is asked of a book. The answers are worked out by hand from ../shared/DOC.md. */
public final class AskTest extends Check {
    // The clauses of this body: 0 has a, b and c in it, 1 has a, 2 has clause 3, and that has b.
    private static final String CLAUSES = "((a) ((b)) c) d";

    private static int writtenIs(NotaryBook x, int bytes, String want) {
        is("the text", text(x, bytes), want);
        return bytes;
    }

    // ---- acts, words and clauses

    private static void count() {
        promise = 7;
        NotaryBook x = twoActs();
        int[] due = {4, 1, 2, 2, 12, 3, 0, 0, 0, 9, 3, 9, 1, 1, 0, 0};
        NotaryBook y = loaded("book 4 3 3;act loan a b (c d) e f g h i;seal 4 0;copy 1 2;lose 0;"
                + "act sale j;insert 0 k");
        int[] dueOfY = {4, 3, 3, 2, 10, 3, 1, 1, 1, 14, 1, 11, 1, 0, 2, 3};
        NotaryBook z = loaded("book 20 0 4");
        int[] dueOfZ = {20, 0, 4, 0, 0, 0, 0, 0, 0, 0, 0, 0, 0, 0, 0, 0};
        for (int what = 0; what < due.length; what++) {
            is("count " + what, x.count(what), due[what]);
            is("count of the second book " + what, y.count(what), dueOfY[what]);
            is("count of an empty book " + what, z.count(what), dueOfZ[what]);
        }
        argument("count 16", () -> x.count(16));
        argument("count -1", () -> x.count(-1));
        state("count without a book, and of nothing", () -> new NotaryBook().count(16));
    }

    private static void act() {
        promise = 8;
        NotaryBook x = twoActs();
        x.addCopy(1, 2);
        begin(x, 2, CLAUSES);
        int[] first = {0, 1, 2, 3, 7, 4, 1, 1, 0, 1, 9, 1};
        int[] second = {1, 2, 0, 0, 5, 5, 2, 2, 1, 2, 0, 0};
        int[] third = {2, 0, 0, 0, 4, 4, 4, 3, 3, 3, 0, 0};
        for (int what = 0; what < first.length; what++) {
            is("act 1 " + what, x.act(1, what), first[what]);
            is("act 2 " + what, x.act(2, what), second[what]);
            is("act 3 " + what, x.act(3, what), third[what]);
        }
        x.seal(9, 0);
        is("witnesses", x.act(3, 2), 9);
        is("fee", x.act(3, 10), 8);
        index("act 0", () -> x.act(0, 0));
        index("act 4, and a number out of range", () -> x.act(4, 12));
        argument("number 12", () -> x.act(1, 12));
        argument("number -1", () -> x.act(1, -1));
        state("without a book", () -> new NotaryBook().act(0, 12));
    }

    private static void word() {
        promise = 9;
        NotaryBook x = twoActs();
        x.addCopy(1, 2);
        x.addCopy(1, 1);
        int[][] due = {
            {1, 0, 0, 0, 0, 0, 3, 1, -1, 2},
            {1, 1, 0, 1, 0, 1, 5, 1, -1, 0},
            {1, 4, 1, 1, 1, 0, 3, 1, 0, 0},
            {1, 5, 1, 0, 0, 0, 2, 1, -1, 1},
            {2, 0, 1, 0, 0, 0, 3, 1, -1, 0},
            {2, 3, 2, 0, 2, 0, 4, 1, 1, 0},
            {2, 4, 2, 0, 1, 0, 3, 1, 0, 0},
        };
        for (int[] row : due) {
            for (int what = 0; what < 8; what++) {
                is("word " + row[0] + " " + row[1] + " " + what, x.word(row[0], row[1], what), row[2 + what]);
            }
        }
        x.lose(0);
        is("a word of a lost leaf", x.word(1, 1, 5), 0);
        is("one that a copy has", x.word(1, 0, 5), 1);
        begin(x, 0, CLAUSES);
        int[] innermost = {1, 3, 0, -1};
        int[] depths = {2, 3, 1, 0};
        for (int i = 0; i < 4; i++) {
            is("innermost clause " + i, x.word(3, i, 6), innermost[i]);
            is("depth " + i, x.word(3, i, 2), depths[i]);
        }
        index("act 0", () -> x.word(0, 0, 0));
        index("act 4", () -> x.word(4, 0, 8));
        index("word 7", () -> x.word(1, 7, 8));
        index("word -1", () -> x.word(1, -1, 0));
        argument("number 8", () -> x.word(1, 0, 8));
        argument("number -1", () -> x.word(1, 0, -1));
        state("without a book", () -> new NotaryBook().word(0, 0, 8));
    }

    private static void letters() {
        NotaryBook x = twoActs();
        x.lose(0);
        begin(x, 0, "abcdefgh z");
        interline(x, 0, "one");
        interline(x, 0, "two");
        promise = 10;
        for (int k = 0; k < 5; k++) {
            is("letter " + k, x.letter(1, 1, k), (int) "house".charAt(k));
        }
        for (int k = 0; k < 8; k++) {
            is("letter " + k, x.letter(3, 0, k), 'a' + k);
        }
        is("behind the word", x.letter(1, 1, 5), -1);
        is("behind a word of 8", x.letter(3, 0, 8), -1);
        is("ahead of the word", x.letter(1, 1, -1), -1);
        is("far behind", x.letter(1, 1, Integer.MAX_VALUE), -1);
        index("word 7", () -> x.letter(1, 7, 0));
        index("act 4", () -> x.letter(4, 0, 0));
        state("without a book", () -> new NotaryBook().letter(1, 0, 0));
        promise = 11;
        for (int k = 0; k < 4; k++) {
            is("letter " + k, x.innerLetter(1, 1, 0, k), (int) "barn".charAt(k));
        }
        is("the first one", x.innerLetter(3, 0, 0, 0), (int) 'o');
        is("the second one", x.innerLetter(3, 0, 1, 0), (int) 't');
        is("no third one", x.innerLetter(3, 0, 2, 0), -1);
        is("behind the word", x.innerLetter(1, 1, 0, 4), -1);
        is("ahead of the word", x.innerLetter(1, 1, 0, -1), -1);
        is("no such one", x.innerLetter(1, 1, -1, 0), -1);
        is("none at all", x.innerLetter(1, 0, 0, 0), -1);
        index("word 7", () -> x.innerLetter(1, 7, 0, 0));
        index("act 0", () -> x.innerLetter(0, 0, 0, 0));
        state("without a book", () -> new NotaryBook().innerLetter(1, 0, 0, 0));
    }

    private static void clause() {
        promise = 12;
        NotaryBook x = twoActs();
        begin(x, 0, CLAUSES);
        x.strike(1);
        int[][] due = {
            {1, 0, 2, 4, 3, 0, 1, 0},
            {2, 0, 2, 4, 3, 3, 1, 1},
            {2, 1, 3, 3, 1, 1, 2, 0},
            {3, 0, 0, 2, 3, 2, 1, 2},
            {3, 1, 0, 0, 1, 1, 2, 0},
            {3, 2, 1, 1, 1, 0, 2, 1},
            {3, 3, 1, 1, 1, 0, 3, 0},
        };
        for (int[] row : due) {
            for (int what = 0; what < 6; what++) {
                is("clause " + row[0] + " " + row[1] + " " + what, x.clause(row[0], row[1], what), row[2 + what]);
            }
        }
        x.cancel();
        begin(x, 0, "a ((((b)))) ((((c) d))) (e)");
        is("deepest", x.clause(4, 3, 4), 4);
        is("the last one", x.clause(4, 8, 0), 4);
        is("the one with d", x.clause(4, 6, 2), 2);
        is("its depth", x.clause(4, 6, 4), 3);
        index("clause 9", () -> x.clause(4, 9, 0));
        index("clause 1 of act 1", () -> x.clause(1, 1, 6));
        index("clause -1", () -> x.clause(1, -1, 0));
        index("act 0", () -> x.clause(0, 0, 0));
        argument("number 6", () -> x.clause(1, 0, 6));
        argument("number -1", () -> x.clause(1, 0, -1));
        state("without a book", () -> new NotaryBook().clause(0, 0, 6));
    }

    // ---- leaves and copies

    private static void leaf() {
        promise = 13;
        NotaryBook x = twoActs();
        int[][] due = {{0, 4, 1, 1, 0, 1}, {0, 4, 2, 0, 0, 1}, {0, 4, 1, -1, 1, 2}};
        for (int l = 0; l < 3; l++) {
            for (int what = 0; what < 6; what++) {
                is("leaf " + l + " " + what, x.leaf(l, what), due[l][what]);
            }
        }
        begin(x, 0, "a");
        int[] last = {0, 1, 1, 2, 1, 3};
        for (int what = 0; what < 6; what++) {
            is("leaf 3 " + what, x.leaf(3, what), last[what]);
        }
        is("a mate that has come", x.leaf(2, 3), 3);
        x.lose(0);
        is("lost", x.leaf(0, 0), 2);
        is("loose", x.leaf(1, 0), 1);
        int[] mates = {2, -1, 0, 5, -1, 3};
        int[] matesOfFour = {3, 2, 1, 0, -1, -1};
        NotaryBook three = loaded("book 4 0 3;act sale " + words(24));
        NotaryBook four = loaded("book 4 0 4;act sale " + words(24));
        for (int l = 0; l < 6; l++) {
            is("mate of " + l, three.leaf(l, 3), mates[l]);
            is("gathering of " + l, three.leaf(l, 4), l / 3);
            is("mate of " + l, four.leaf(l, 3), matesOfFour[l]);
        }
        index("leaf 4", () -> x.leaf(4, 6));
        index("leaf -1", () -> x.leaf(-1, 0));
        argument("number 6", () -> x.leaf(0, 6));
        argument("number -1", () -> x.leaf(0, -1));
        state("without a book", () -> new NotaryBook().leaf(-1, 6));
    }

    private static void copy() {
        NotaryBook x = twoActs();
        x.addCopy(1, 0);
        x.addCopy(1, 2);
        x.addCopy(1, 1);
        promise = 14;
        int[][] due = {{1, 0, 4, 3, 0}, {1, 2, 2, 1, 0}, {1, 1, 3, 2, 0}};
        for (int c = 0; c < 3; c++) {
            for (int what = 0; what < 5; what++) {
                is("copy " + c + " " + what, x.copy(c, what), due[c][what]);
            }
        }
        index("copy 3", () -> x.copy(3, 5));
        index("copy -1", () -> x.copy(-1, 0));
        argument("number 5", () -> x.copy(0, 5));
        argument("number -1", () -> x.copy(0, -1));
        x.burn(2);
        x.lose(0);
        x.lose(1);
        is("by the whole one alone", x.copy(0, 4), 1);
        is("by the one of two words alone", x.copy(1, 4), 0);
        x.burn(1);
        is("by the only one", x.copy(0, 4), 3);
        x.recover(0);
        is("one word of the lost leaf is known by it no more than by its leaf", x.copy(0, 4), 2);
        state("without a book", () -> new NotaryBook().copy(-1, 5));
        has();
    }

    private static void has() {
        promise = 15;
        NotaryBook x = twoActs();
        x.addCopy(1, 0);
        x.addCopy(1, 1);
        x.addCopy(1, 2);
        String[] due = {"1000011", "1000011", "1000001"};
        for (int c = 0; c < 3; c++) {
            for (int i = 0; i < 7; i++) {
                is("has " + c + " " + i, x.has(c, i), due[c].charAt(i) == '1');
            }
        }
        index("word 7", () -> x.has(0, 7));
        index("word -1", () -> x.has(0, -1));
        index("copy 3", () -> x.has(3, 0));
        index("copy -1", () -> x.has(-1, 0));
        state("without a book", () -> new NotaryBook().has(0, 0));
    }

    private static void known() {
        NotaryBook x = twoActs();
        promise = 16;
        is("all", x.known(1), 7);
        promise = 17;
        is("all are known", x.firstUnknown(1), -1);
        x.addCopy(1, 2);
        x.lose(0);
        promise = 16;
        is("without a leaf", x.known(1), 4);
        is("an act on other leaves", x.known(2), 5);
        x.lose(1);
        is("without two", x.known(1), 2);
        is("an act with one word there", x.known(2), 4);
        index("act 3", () -> x.known(3));
        index("act 0", () -> x.known(0));
        state("without a book", () -> new NotaryBook().known(1));
        promise = 17;
        is("behind one that a copy has", x.firstUnknown(1), 1);
        is("the first word of all", x.firstUnknown(2), 0);
        x.recover(0);
        is("later ones", x.firstUnknown(1), 4);
        index("act 3", () -> x.firstUnknown(3));
        index("act 0", () -> x.firstUnknown(0));
        state("without a book", () -> new NotaryBook().firstUnknown(1));
    }

    private static void gap() {
        promise = 18;
        NotaryBook x = twoActs();
        is("a loaded book", x.gap(), 0);
        x.addCopy(1, 0);
        x.lose(1);
        x.burn(0);
        is("after a copy is burnt", x.gap(), 0);
        begin(x, 1, CLAUSES);
        interline(x, 3, "x");
        x.strikeClause(1);
        is("with an open act", x.gap(), 0);
        x.seal(4, 2);
        is("after it is sealed", x.gap(), 0);
        x.undo();
        x.undo();
        is("after undo", x.gap(), 0);
        is("an empty book", loaded("book 4 0 2").gap(), 0);
        state("without a book", () -> new NotaryBook().gap());
    }

    // ---- reasons

    private static void whyNotSeal() {
        promise = 19;
        NotaryBook x = twoActs();
        is("no act is open", x.whyNotSeal(1, 0), 1);
        argument("10 witnesses", () -> x.whyNotSeal(10, 0));
        begin(x, 0, "a");
        is("it can", x.whyNotSeal(1, 0), 0);
        is("more witnesses", x.whyNotSeal(9, 0), 0);
        is("too few witnesses, and other marks", x.whyNotSeal(0, 5), 2);
        is("other marks", x.whyNotSeal(1, 99), 3);
        x.strike(0);
        is("other marks, and no word stands", x.whyNotSeal(1, 0), 3);
        is("no word stands", x.whyNotSeal(1, 1), 4);
        interline(x, 0, "b");
        is("an interlined word stands", x.whyNotSeal(1, 2), 0);
        argument("-1 witnesses", () -> x.whyNotSeal(-1, 0));
        argument("100 marks", () -> x.whyNotSeal(1, 100));
        argument("-1 marks", () -> x.whyNotSeal(1, -1));
        state("without a book", () -> new NotaryBook().whyNotSeal(10, 0));
    }

    private static void whyNotCopy() {
        promise = 20;
        NotaryBook x = twoActs();
        begin(x, 0, "a");
        is("it can", x.whyNotCopy(1, 0), 0);
        is("it is cancelled", x.whyNotCopy(2, 0), 1);
        is("it is open", x.whyNotCopy(3, 2), 1);
        x.lose(1);
        is("sold is not known", x.whyNotCopy(1, 2), 2);
        x.recover(1);
        x.addCopy(1, 2);
        x.lose(1);
        is("a copy has sold, but none has is", x.whyNotCopy(1, 1), 2);
        is("the first and the last word are known", x.whyNotCopy(1, 2), 0);
        for (int k = 1; k < 8; k++) {
            is("copy", x.addCopy(1, 2), k);
        }
        is("there are 8 copies", x.whyNotCopy(1, 2), 3);
        is("a word is not known, and there are 8 copies", x.whyNotCopy(1, 0), 2);
        is("it is cancelled, and there are 8 copies", x.whyNotCopy(2, 0), 1);
        index("act 0", () -> x.whyNotCopy(0, 0));
        index("act 4", () -> x.whyNotCopy(4, 3));
        argument("grade 3", () -> x.whyNotCopy(2, 3));
        argument("grade -1", () -> x.whyNotCopy(1, -1));
        state("without a book", () -> new NotaryBook().whyNotCopy(0, 3));
        NotaryBook y = loaded("book 4 0 2;act sale a b;strike 0;strike 1;insert 0 c;seal 0 3;lose 0");
        is("only an interlined word stands", y.whyNotCopy(1, 0), 0);
        is("the copy would have none", y.whyNotCopy(1, 2), 0);
    }

    private static void whyNotStrike() {
        promise = 21;
        NotaryBook x = twoActs();
        is("no act is open", x.whyNotStrike(99), 1);
        begin(x, 0, "a b");
        is("it can", x.whyNotStrike(1), 0);
        is("no such word", x.whyNotStrike(2), 2);
        is("no such word", x.whyNotStrike(-1), 2);
        is("no such word", x.whyNotStrike(Integer.MAX_VALUE), 2);
        x.strike(1);
        is("it is struck", x.whyNotStrike(1), 3);
        state("without a book", () -> new NotaryBook().whyNotStrike(0));
    }

    // ---- what would be

    private static void lostLeaves() {
        NotaryBook x = twoActs();
        promise = 23;
        is("of equal ones the first", x.worstLeaf(), 0);
        x.addCopy(1, 1);
        promise = 22;
        is("all but one", x.unknownIf(0), 3);
        is("all but two", x.unknownIf(1), 2);
        is("all", x.unknownIf(2), 4);
        is("nothing is changed", x.leaf(2, 0), 0);
        promise = 23;
        is("the last leaf", x.worstLeaf(), 2);
        x.lose(2);
        is("another, as that is lost", x.worstLeaf(), 0);
        promise = 22;
        is("it is lost", x.unknownIf(2), 0);
        index("leaf 3", () -> x.unknownIf(3));
        index("leaf -1", () -> x.unknownIf(-1));
        state("without a book", () -> new NotaryBook().unknownIf(0));
        promise = 23;
        x.lose(0);
        x.lose(1);
        is("all are lost", x.worstLeaf(), 0);
        is("no leaves", loaded("book 4 0 2").worstLeaf(), -1);
        state("without a book", () -> new NotaryBook().worstLeaf());
    }

    private static void shakenOut() {
        promise = 24;
        NotaryBook x = loaded("book 4 0 2;act sale a b c d e;cancel");
        is("all fast", x.shakenOut(), 0);
        x.lose(1);
        is("one loose", x.shakenOut(), 1);
        begin(x, 0, "f");
        is("a loose one whose mate is fast", x.shakenOut(), 2);
        is("nothing is changed", x.leaf(0, 0) * 10 + x.leaf(1, 0), 10);
        x.shake();
        is("after a shake", x.shakenOut(), 1);
        x.shake();
        is("after two", x.shakenOut(), 0);
        is("no leaves", loaded("book 4 0 2").shakenOut(), 0);
        state("without a book", () -> new NotaryBook().shakenOut());
        // A mate that was sewn, while its leaf was lost before, stays fast.
        NotaryBook y = loaded("book 4 0 2;act sale a b c d e f g h i j k l m;lose 0;sew 1;lose 2");
        is("one of two", y.shakenOut(), 1);
    }

    private static void leavesFor() {
        promise = 25;
        NotaryBook x = twoActs();
        int[][] due = {{0, 0}, {1, 1}, {4, 1}, {5, 2}, {36, 9}, {37, -1}, {240, -1}};
        for (int[] row : due) {
            is("leavesFor " + row[0], x.leavesFor(row[0]), row[1]);
        }
        NotaryBook y = loaded("book 20 0 2");
        is("a whole book", y.leavesFor(240), 12);
        begin(y, 0, "a");
        is("room on the leaf", y.leavesFor(19), 0);
        is("one word more", y.leavesFor(20), 1);
        is("one word too many", y.leavesFor(240), -1);
        argument("241 words", () -> x.leavesFor(241));
        argument("-1 words", () -> x.leavesFor(-1));
        state("without a book", () -> new NotaryBook().leavesFor(241));
    }

    private static void copyWords() {
        promise = 26;
        NotaryBook x = twoActs();
        begin(x, 0, "a");
        int[][] due = {{4, 3, 2}, {5, 5, 2}, {1, 1, 1}};
        for (int a = 1; a <= 3; a++) {
            for (int grade = 0; grade < 3; grade++) {
                is("copyWords " + a + " " + grade, x.copyWords(a, grade), due[a - 1][grade]);
            }
        }
        x.strike(0);
        interline(x, 0, "b");
        interline(x, 0, "c");
        is("two interlined", x.copyWords(3, 0), 2);
        is("none written", x.copyWords(3, 1), 0);
        is("none written", x.copyWords(3, 2), 0);
        index("act 4", () -> x.copyWords(4, 3));
        index("act 0", () -> x.copyWords(0, 0));
        argument("grade 3", () -> x.copyWords(1, 3));
        argument("grade -1", () -> x.copyWords(1, -1));
        state("without a book", () -> new NotaryBook().copyWords(0, 3));
    }

    private static void bestCopy() {
        promise = 27;
        NotaryBook x = twoActs();
        is("of the first two the greater grade", x.bestCopy(1), 1);
        is("it is cancelled", x.bestCopy(2), -1);
        x.addCopy(1, 1);
        is("another copy has them all", x.bestCopy(1), 2);
        x.burn(0);
        x.lose(1);
        is("its last word is not known", x.bestCopy(1), -1);
        NotaryBook y = loaded("book 4 0 2;act sale " + words(12) + ";seal 0 0;lose 1");
        is("the first and the last word are known", y.bestCopy(1), 2);
        y.recover(1);
        is("all are known", y.bestCopy(1), 1);
        for (int k = 0; k < 8; k++) {
            y.addCopy(1, 2);
        }
        is("there are 8 copies", y.bestCopy(1), -1);
        is("one word", loaded("book 4 0 2;act sale a;seal 0 0").bestCopy(1), 2);
        is("no written word stands", loaded("book 4 0 2;act sale a;strike 0;insert 0 b;seal 0 2").bestCopy(1), 2);
        index("act 0", () -> x.bestCopy(0));
        index("act 3", () -> x.bestCopy(3));
        state("without a book", () -> new NotaryBook().bestCopy(1));
    }

    private static void standingIf() {
        promise = 28;
        NotaryBook x = twoActs();
        argument("no act is open", () -> x.standingIf(0, false));
        begin(x, 0, CLAUSES);
        interline(x, 2, "x");
        is("a word", x.standingIf(0, false), 4);
        is("its clause", x.standingIf(0, true), 4);
        is("a clause of three", x.standingIf(2, true), 2);
        is("a word in no clause", x.standingIf(3, false), 4);
        argument("its clause", () -> x.standingIf(3, true));
        x.strike(0);
        is("a word that is struck", x.standingIf(0, false), 4);
        is("its clause", x.standingIf(0, true), 4);
        is("a clause with it", x.standingIf(2, true), 2);
        argument("no such word", () -> x.standingIf(4, false));
        argument("no such word", () -> x.standingIf(-1, true));
        is("nothing is changed", x.act(3, 5), 4);
        state("without a book", () -> new NotaryBook().standingIf(0, false));
    }

    // ---- words that are looked for

    private static void findWord() {
        promise = 29;
        NotaryBook x = twoActs();
        is("an interlined one", find(x, "barn"), 1);
        is("the buffer is empty", x.buffered(), 0);
        is("a written one of a cancelled act", find(x, "dear"), 2);
        is("a struck one", find(x, "house"), 0);
        is("one of two that is not struck", find(x, "the"), 1);
        is("a part of one", find(x, "dea"), 0);
        is("more than one", find(x, "dears"), 0);
        is("a blank behind it", find(x, "dear "), 0);
        is("no word", find(x, "7"), 0);
        is("nine letters", find(x, "abcdefghi"), 0);
        x.lose(2);
        is("one that is not known", find(x, "dear"), 2);
        begin(x, 0, "abcdefgh dear zebra");
        is("eight letters of an open act", find(x, "abcdefgh"), 3);
        is("the first act", find(x, "dear"), 2);
        x.strike(2);
        is("struck again", find(x, "zebra"), 0);
        is("no change", x.undoable(), 3);
        put(x, "barn");
        index("more than the buffer has", () -> x.findWord(21));
        index("less than none", () -> x.findWord(-1));
        is("the buffer stays", x.buffered(), 20);
        is("no bytes", x.findWord(0), 0);
        is("the buffer is empty", x.buffered(), 0);
        NotaryBook y = new NotaryBook();
        put(y, "barn");
        state("without a book", () -> y.findWord(99));
        is("the buffer stays", y.buffered(), 20);
    }

    private static void longest() {
        promise = 30;
        NotaryBook x = twoActs();
        is("not the struck one", x.longest(1), 6);
        is("in a clause", x.longest(2), 3);
        begin(x, 0, "a bb cc d");
        is("the first of two", x.longest(3), 1);
        interline(x, 0, "long");
        is("written ones alone", x.longest(3), 1);
        x.strike(1);
        is("the other one", x.longest(3), 2);
        x.strike(0);
        x.strike(2);
        x.strike(3);
        is("none stands", x.longest(3), -1);
        x.lose(0);
        is("known or not", x.longest(1), 6);
        index("act 4", () -> x.longest(4));
        index("act 0", () -> x.longest(0));
        state("without a book", () -> new NotaryBook().longest(1));
    }

    private static void common() {
        promise = 31;
        NotaryBook x = twoActs();
        is("none", x.common(1, 2), 0);
        begin(x, 0, "the sold the barn house the");
        is("each one", x.common(3, 1), 4);
        is("each one of the other act", x.common(1, 3), 2);
        is("with itself", x.common(3, 3), 6);
        x.strike(1);
        is("one that is struck there", x.common(1, 3), 1);
        is("one that is struck here", x.common(3, 1), 3);
        index("act 4", () -> x.common(1, 4));
        index("act 0", () -> x.common(0, 1));
        index("act 0", () -> x.common(1, 0));
        state("without a book", () -> new NotaryBook().common(1, 1));
    }

    // ---- other numbers

    private static void quotients() {
        NotaryBook x = twoActs();
        NotaryBook empty = loaded("book 4 0 2");
        promise = 32;
        is("all", x.knownShare(), 1.0f);
        is("no words", empty.knownShare(), 0.0f);
        x.lose(0);
        is("two thirds", x.knownShare(), 8.0f / 12.0f);
        x.shake();
        is("a third", x.knownShare(), 4.0f / 12.0f);
        x.lose(2);
        is("none", x.knownShare(), 0.0f);
        state("without a book", () -> new NotaryBook().knownShare());
        promise = 33;
        is("one act", x.meanWords(), 4.0);
        begin(x, 0, "a");
        is("an open one", x.meanWords(), 4.0);
        x.seal(1, 0);
        is("two acts", x.meanWords(), 2.5);
        begin(x, 0, "a");
        x.seal(1, 0);
        is("three acts", x.meanWords(), 2.0);
        begin(x, 0, "a b");
        x.seal(1, 0);
        is("four acts", x.meanWords(), 2.0);
        is("no act", empty.meanWords(), 0.0);
        state("without a book", () -> new NotaryBook().meanWords());
    }

    // ---- texts

    private static void writeAct() {
        promise = 34;
        NotaryBook x = twoActs();
        is("bytes", writtenIs(x, x.writeAct(1), "the -house ^barn ( -by -the -sea ) is sold"), 42);
        writtenIs(x, x.writeAct(2), "all to ( my ( dear ) son )");
        x.addCopy(1, 2);
        x.lose(0);
        writtenIs(x, x.writeAct(1), "the ? ^barn ( ? ? -sea ) is sold");
        begin(x, 0, CLAUSES);
        interline(x, 1, "x");
        interline(x, 1, "y");
        writtenIs(x, x.writeAct(3), "( ( a ) ( ( b ^x ^y ) ) c ) d");
        x.strikeClause(1);
        writtenIs(x, x.writeAct(3), "( ( a ) ( ( -b ^x ^y ) ) c ) d");
        index("act 4", () -> x.writeAct(4));
        index("act 0", () -> x.writeAct(0));
        state("without a book", () -> new NotaryBook().writeAct(1));
    }

    private static void writeStanding() {
        promise = 35;
        NotaryBook x = twoActs();
        is("bytes", writtenIs(x, x.writeStanding(1), "the barn is sold"), 16);
        writtenIs(x, x.writeStanding(2), "all to my dear son");
        x.lose(0);
        writtenIs(x, x.writeStanding(1), "? barn is sold");
        begin(x, 0, "(a b)");
        interline(x, 0, "y");
        interline(x, 0, "z");
        writtenIs(x, x.writeStanding(3), "a y z b");
        x.undo();
        x.undo();
        x.strikeClause(0);
        is("no word stands", writtenIs(x, x.writeStanding(3), "."), 1);
        index("act 4", () -> x.writeStanding(4));
        index("act 0", () -> x.writeStanding(0));
        state("without a book", () -> new NotaryBook().writeStanding(1));
    }

    private static void writeLeaf() {
        promise = 36;
        NotaryBook x = twoActs();
        writtenIs(x, x.writeLeaf(0), "1:the house by the");
        is("bytes", writtenIs(x, x.writeLeaf(1), "sea is sold 2:all"), 17);
        writtenIs(x, x.writeLeaf(2), "to my dear son");
        x.addCopy(1, 0);
        x.lose(0);
        is("a lost one", writtenIs(x, x.writeLeaf(0), "?"), 1);
        writtenIs(x, x.writeLeaf(1), "sea is sold 2:all");
        begin(x, 0, "a");
        x.cancel();
        begin(x, 0, "(b)");
        interline(x, 0, "x");
        writtenIs(x, x.writeLeaf(3), "3:a 4:b");
        NotaryBook y = loaded("book 20 0 2;act sale a;cancel;act sale b;cancel;act sale c;cancel;"
                + "act sale d;cancel;act sale e;cancel;act sale f;cancel;act sale g;cancel;act sale h;cancel;"
                + "act sale i;cancel;act sale j k");
        writtenIs(y, y.writeLeaf(0), "1:a 2:b 3:c 4:d 5:e 6:f 7:g 8:h 9:i 10:j k");
        index("leaf 4", () -> x.writeLeaf(4));
        index("leaf -1", () -> x.writeLeaf(-1));
        state("without a book", () -> new NotaryBook().writeLeaf(0));
    }

    private static void writeCopy() {
        promise = 37;
        NotaryBook x = twoActs();
        x.addCopy(1, 0);
        x.addCopy(1, 1);
        x.addCopy(1, 2);
        x.lose(0);
        writtenIs(x, x.writeCopy(0), "the barn is sold");
        is("bytes", writtenIs(x, x.writeCopy(1), "the is sold"), 11);
        writtenIs(x, x.writeCopy(2), "the sold");
        NotaryBook y = loaded("book 4 0 2;act sale a;strike 0;insert 0 b;insert 0 c;seal 0 3;"
                + "copy 1 0;copy 1 1;copy 1 2");
        writtenIs(y, y.writeCopy(0), "b c");
        is("no word", writtenIs(y, y.writeCopy(1), "."), 1);
        writtenIs(y, y.writeCopy(2), ".");
        NotaryBook z = loaded("book 4 0 2;act sale a;seal 0 0;copy 1 2");
        writtenIs(z, z.writeCopy(0), "a");
        index("copy 3", () -> x.writeCopy(3));
        index("copy -1", () -> x.writeCopy(-1));
        state("without a book", () -> new NotaryBook().writeCopy(0));
    }

    private static void textByte() {
        promise = 38;
        NotaryBook x = twoActs();
        index("ahead of the first text", () -> x.textByte(0));
        x.writeLeaf(0);
        is("the first byte", x.textByte(0), 49);
        is("the colon", x.textByte(1), 58);
        is("the last byte", x.textByte(17), (int) 'e');
        index("behind it", () -> x.textByte(18));
        index("ahead of it", () -> x.textByte(-1));
        index("far behind it", () -> x.textByte(Integer.MAX_VALUE));
        index("a call that writes nothing", () -> x.writeLeaf(9));
        is("the text stays", x.textByte(17), (int) 'e');
        x.save(0);
        x.lose(0);
        x.undo();
        x.restore(0);
        load(x, "book 4 0 2");
        is("the text stays behind load, undo and restore", x.textByte(17), (int) 'e');
        begin(x, 0, "a");
        x.writeAct(1);
        is("a shorter one", x.textByte(0), (int) 'a');
        index("takes its place", () -> x.textByte(1));
    }

    public static void main(String[] args) {
        count();
        act();
        word();
        letters();
        clause();
        leaf();
        copy();
        known();
        gap();
        whyNotSeal();
        whyNotCopy();
        whyNotStrike();
        lostLeaves();
        shakenOut();
        leavesFor();
        copyWords();
        bestCopy();
        standingIf();
        findWord();
        longest();
        common();
        quotients();
        writeAct();
        writeStanding();
        writeLeaf();
        writeCopy();
        textByte();
        end("AskTest");
    }
}
