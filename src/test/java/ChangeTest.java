/** Promises 39 to 54: the changes, undo, and the slots. The answers are worked out by hand from ../shared/DOC.md. */
public final class ChangeTest extends Check {
    // ---- acts

    private static void begin() {
        promise = 39;
        NotaryBook x = twoActs();
        put(x, "a(b) c");
        index("more than the buffer has", () -> x.begin(3, 21));
        index("less than none", () -> x.begin(0, -1));
        argument("kind 3", () -> x.begin(3, 4));
        argument("kind -1", () -> x.begin(-1, 4));
        is("the buffer stays", x.buffered(), 20);
        is("nothing is changed", x.undoable(), 0);
        is("its number", x.begin(2, 4), 3);
        is("the buffer is empty", x.buffered(), 0);
        is("one change", x.undoable(), 1);
        is("its kind", x.act(3, 0), 2);
        is("it is open", x.count(14), 3);
        is("its words", x.act(3, 4), 2);
        is("its clauses", x.act(3, 6), 1);
        argument("an act is open", () -> begin(x, 0, "a"));
        is("the buffer stays", x.buffered(), 20);
        NotaryBook y = new NotaryBook();
        put(y, "a");
        state("without a book", () -> y.begin(3, 99));
        is("the buffer stays", y.buffered(), 20);
        bodies();
        limits();
    }

    private static void bodies() {
        NotaryBook x = twoActs();
        for (String body : new String[] {"", " ", "()", "(a", "a)", ")", "a;b", "a;", "7", "a 7", "abcdefghi", "A", "a.b",
                "(((((a)))))", "a ()", "(a ())"}) {
            argument("the body " + body, () -> begin(x, 0, body));
            x.findWord(0);
        }
        is("nothing is changed", x.count(3) + x.undoable(), 2);
        for (String body : new String[] {"a", " a ", "abcdefgh", "((((a))))", "act seal(cancel)copy", "a(b(c)d)e"}) {
            is("the body " + body, begin(x, 1, body), 3);
            x.undo();
        }
    }

    private static void limits() {
        NotaryBook x = loaded("book 4 0 2;act sale " + words(47) + ";cancel");
        argument("a 13th leaf", () -> begin(x, 0, "a b"));
        is("the buffer stays", x.buffered(), 20);
        x.findWord(0);
        is("the last word of the last leaf", begin(x, 0, "a"), 2);
        x.cancel();
        argument("no room at all", () -> begin(x, 0, "a"));
        NotaryBook y = loaded("book 20 0 2");
        for (int a = 1; a <= 10; a++) {
            is("act", begin(y, 0, "a"), a);
            y.cancel();
        }
        argument("an 11th act", () -> begin(y, 0, "a"));
        NotaryBook z = loaded("book 20 0 4;act sale " + words(240) + ";seal 9 0");
        is("240 words", z.count(4), 240);
        is("12 leaves", z.count(5), 12);
        is("the last word", z.word(1, 239, 0), 11);
    }

    private static void leavesThatCome() {
        promise = 39;
        NotaryBook full = loaded("book 4 0 2;act sale " + words(12) + ";cancel;lose 2");
        begin(full, 0, "a");
        leavesAre(full, FAST, FAST, LOST, LOOSE);
        NotaryBook found = loaded("book 4 0 2;act sale " + words(9) + ";cancel;lose 2");
        begin(found, 0, words(4));
        leavesAre(found, FAST, FAST, FAST, FAST);
        is("its words are known", found.count(15), 0);
        NotaryBook mate = loaded("book 4 0 2;act sale " + words(5) + ";cancel;lose 1");
        begin(mate, 0, "a");
        leavesAre(mate, LOOSE, FAST);
        NotaryBook loose = loaded("book 4 0 2;act sale " + words(5) + ";cancel;lose 0");
        begin(loose, 0, words(4));
        leavesAre(loose, LOST, LOOSE, FAST);
        NotaryBook four = loaded("book 4 0 4;act sale " + words(5) + ";cancel;lose 0;lose 1");
        begin(four, 0, words(9));
        leavesAre(four, LOST, FAST, FAST, LOOSE);
        NotaryBook three = loaded("book 4 0 3;act sale " + words(8) + ";cancel;lose 0;lose 1");
        begin(three, 0, words(8));
        leavesAre(three, LOST, LOST, LOOSE, FAST);
        NotaryBook line = loaded("book 4 0 2;act sale a;cancel;lose 0;act will b c d;cancel;lose 0;act loan e");
        leavesAre(line, LOST, LOOSE);
        NotaryBook again = loaded("book 4 0 2;act sale " + words(8) + ";cancel");
        begin(again, 0, words(8));
        again.lose(2);
        again.lose(3);
        again.undo();
        again.undo();
        again.undo();
        begin(again, 0, words(8));
        leavesAre(again, FAST, FAST, FAST, FAST);
    }

    private static void strike() {
        promise = 40;
        NotaryBook x = twoActs();
        argument("no act is open", () -> x.strike(0));
        begin(x, 0, "a b c");
        is("two stand", x.strike(1), 2);
        is("it is struck", x.word(3, 1, 1), 1);
        is("one mark", x.act(3, 3), 1);
        argument("it is struck", () -> x.strike(1));
        argument("no such word", () -> x.strike(3));
        argument("no such word", () -> x.strike(-1));
        is("no mark more", x.act(3, 3), 1);
        interline(x, 1, "d");
        is("an interlined one stands", x.strike(0), 2);
        is("the last written one", x.strike(2), 1);
        is("changes", x.undoable(), 5);
        is("the other acts stay", x.act(1, 5), 4);
        state("without a book", () -> new NotaryBook().strike(0));
    }

    private static void strikeClause() {
        promise = 41;
        NotaryBook x = twoActs();
        argument("no act is open", () -> x.strikeClause(2));
        begin(x, 0, "a (b (c d) e) f");
        is("the innermost one", x.strikeClause(2), 2);
        is("one mark", x.act(3, 3), 1);
        is("those that are struck stay so", x.strikeClause(4), 2);
        is("none is struck by it", x.strikeClause(3), 0);
        is("it is a mark all the same", x.act(3, 3), 3);
        is("it is a change all the same", x.undoable(), 4);
        x.writeAct(3);
        is("the text", text(x, x.writeAct(3)), "a ( -b ( -c -d ) -e ) f");
        argument("a word in no clause", () -> x.strikeClause(0));
        argument("a word in no clause, behind one", () -> x.strikeClause(5));
        argument("no such word", () -> x.strikeClause(6));
        argument("no such word", () -> x.strikeClause(-1));
        is("no mark more", x.act(3, 3), 3);
        state("without a book", () -> new NotaryBook().strikeClause(0));
    }

    private static void interline() {
        promise = 42;
        NotaryBook x = twoActs();
        argument("no act is open", () -> interline(x, 0, "x"));
        is("the buffer stays", x.buffered(), 20);
        x.findWord(0);
        begin(x, 0, "a b");
        is("three stand", interline(x, 0, "abcdefgh"), 3);
        is("the buffer is empty", x.buffered(), 0);
        is("one mark", x.act(3, 3), 1);
        is("its first letter", x.innerLetter(3, 0, 0, 0), (int) 'a');
        is("its last letter", x.innerLetter(3, 0, 0, 7), (int) 'h');
        interline(x, 0, "y");
        interline(x, 0, "z");
        is("behind all that are there", interline(x, 0, "x"), 6);
        is("the order", text(x, x.writeStanding(3)), "a abcdefgh y z x b");
        put(x, "word");
        argument("4 are interlined there", () -> x.interline(0, 4));
        argument("no such word", () -> x.interline(2, 4));
        argument("no such word", () -> x.interline(-1, 4));
        argument("no bytes", () -> x.interline(1, 0));
        argument("9 bytes", () -> x.interline(1, 9));
        argument("a blank", () -> x.interline(1, 5));
        index("more than the buffer has", () -> x.interline(2, 21));
        index("less than none", () -> x.interline(1, -1));
        is("the buffer stays", x.buffered(), 20);
        is("no mark more", x.act(3, 3), 4);
        is("behind another word", x.interline(1, 3), 7);
        is("a part of the bytes", x.innerLetter(3, 1, 0, 2), (int) 'r');
        for (String bytes : new String[] {"A", "a1", "(a", "~", "`", "{"}) {
            argument("the bytes " + bytes, () -> interline(x, 1, bytes));
            x.findWord(0);
        }
        x.strike(1);
        is("behind a struck word", interline(x, 1, "w"), 7);
        NotaryBook y = new NotaryBook();
        state("without a book", () -> y.interline(0, 21));
    }

    private static void seal() {
        promise = 43;
        NotaryBook x = twoActs();
        argument("no act is open", () -> x.seal(1, 0));
        begin(x, 0, "a b");
        x.strike(0);
        argument("too few witnesses", () -> x.seal(0, 1));
        argument("other marks", () -> x.seal(1, 0));
        argument("10 witnesses", () -> x.seal(10, 1));
        argument("-1 witnesses", () -> x.seal(-1, 1));
        argument("100 marks", () -> x.seal(1, 100));
        argument("-1 marks", () -> x.seal(1, -1));
        is("it is open", x.act(3, 1), 0);
        is("the fee of a sale", x.seal(1, 1), 6);
        is("it is sealed", x.act(3, 1), 1);
        is("CASH", x.count(9), 15);
        is("none is open", x.count(14), 0);
        argument("it is sealed", () -> x.seal(1, 1));
        begin(x, 1, "a b");
        interline(x, 1, "c");
        is("the fee of a will", x.seal(9, 1), 6);
        is("witnesses", x.act(4, 2), 9);
        begin(x, 2, "a b");
        x.strike(0);
        x.strike(1);
        argument("no word stands", () -> x.seal(1, 2));
        interline(x, 0, "c");
        is("the fee of a loan", x.seal(2, 3), 5);
        is("CASH", x.count(9), 26);
        x.undo();
        is("CASH as it was", x.count(9), 21);
        is("it is open again", x.count(14), 5);
        state("without a book", () -> new NotaryBook().seal(10, 0));
        NotaryBook y = loaded("book 4 0 2;act sale (a) b");
        for (int k = 0; k < 100; k++) {
            y.strikeClause(0);
        }
        is("a hundred marks", y.act(1, 3), 100);
        is("other marks", y.whyNotSeal(0, 99), 3);
        argument("they can not be told", () -> y.seal(0, 100));
        argument("they can not be told", () -> y.whyNotSeal(0, 100));
    }

    private static void cancel() {
        promise = 44;
        NotaryBook x = twoActs();
        argument("no act is open", () -> x.cancel());
        begin(x, 0, "a b");
        is("its number", x.cancel(), 3);
        is("it is cancelled", x.act(3, 1), 2);
        is("no fee", x.act(3, 10) + x.count(9), 9);
        is("it keeps its number", begin(x, 0, "a"), 4);
        is("its words stay", x.count(4), 15);
        x.undo();
        is("changes", x.undoable(), 2);
        argument("it is cancelled", () -> x.cancel());
        state("without a book", () -> new NotaryBook().cancel());
    }

    // ---- copies

    private static void addCopy() {
        promise = 45;
        NotaryBook x = twoActs();
        is("the first", x.addCopy(1, 0), 0);
        is("its fee", x.count(9), 12);
        is("behind it", x.addCopy(1, 1), 1);
        is("its fee", x.count(9), 14);
        is("behind both", x.addCopy(1, 2), 2);
        is("its fee", x.count(9), 15);
        is("its grade", x.copy(2, 1), 2);
        argument("it is cancelled", () -> x.addCopy(2, 0));
        argument("grade 3", () -> x.addCopy(1, 3));
        argument("grade -1", () -> x.addCopy(1, -1));
        index("act 0", () -> x.addCopy(0, 0));
        index("act 3", () -> x.addCopy(3, 3));
        x.burn(0);
        x.burn(0);
        x.lose(1);
        argument("a word is not known", () -> x.addCopy(1, 1));
        is("the words are known by a copy", x.addCopy(1, 2), 1);
        for (int c = 2; c < 8; c++) {
            is("copy", x.addCopy(1, 2), c);
        }
        argument("a 9th copy", () -> x.addCopy(1, 2));
        is("8 copies", x.count(8), 8);
        begin(x, 0, "a");
        argument("it is open", () -> x.addCopy(3, 2));
        state("without a book", () -> new NotaryBook().addCopy(0, 3));
    }

    private static void burn() {
        promise = 46;
        NotaryBook x = twoActs();
        x.addCopy(1, 0);
        x.addCopy(1, 1);
        x.addCopy(1, 2);
        index("copy 3", () -> x.burn(3));
        index("copy -1", () -> x.burn(-1));
        is("two are left", x.burn(1), 2);
        is("the one behind it", x.copy(1, 1), 2);
        is("the one ahead of it", x.copy(0, 1), 0);
        is("its fee stays", x.count(9), 15);
        is("copies of the act", x.act(1, 11), 2);
        x.lose(0);
        is("known by both", x.firstUnknown(1), 1);
        x.burn(0);
        x.burn(0);
        is("known no more", x.firstUnknown(1), 0);
        index("no copies", () -> x.burn(0));
        x.undo();
        is("it is there again", x.copy(0, 1), 2);
        is("changes", x.undoable(), 6);
        state("without a book", () -> new NotaryBook().burn(0));
    }

    // ---- leaves

    private static void lose() {
        promise = 47;
        NotaryBook x = twoActs();
        is("four words", x.lose(0), 4);
        leavesAre(x, LOST, LOOSE, FAST);
        argument("it is lost", () -> x.lose(0));
        index("leaf 3", () -> x.lose(3));
        index("leaf -1", () -> x.lose(-1));
        is("a loose one", x.lose(1), 4);
        leavesAre(x, LOST, LOST, FAST);
        is("one without a mate", x.lose(2), 4);
        is("changes", x.undoable(), 3);
        NotaryBook y = twoActs();
        y.addCopy(1, 2);
        is("one word of it is in a copy", y.lose(0), 3);
        NotaryBook own = loaded("book 4 0 3;act sale " + words(12) + ";cancel");
        own.lose(1);
        leavesAre(own, FAST, LOST, FAST);
        own.lose(2);
        leavesAre(own, LOOSE, LOST, LOST);
        NotaryBook four = loaded("book 4 0 4;act sale " + words(20) + ";cancel");
        four.lose(1);
        leavesAre(four, FAST, LOST, LOOSE, FAST, FAST);
        four.lose(4);
        leavesAre(four, FAST, LOST, LOOSE, FAST, LOST);
        state("without a book", () -> new NotaryBook().lose(0));
    }

    private static void recover() {
        promise = 48;
        NotaryBook x = twoActs();
        argument("it is fast", () -> x.recover(0));
        x.lose(0);
        argument("it is loose", () -> x.recover(1));
        is("four words", x.recover(0), 4);
        leavesAre(x, FAST, FAST, FAST);
        x.lose(0);
        x.shake();
        is("its mate is lost, too", x.recover(1), 4);
        leavesAre(x, LOST, FAST, FAST);
        is("the mate is fast", x.recover(0), 4);
        leavesAre(x, FAST, FAST, FAST);
        x.addCopy(1, 2);
        x.lose(1);
        is("one word of it is in a copy", x.recover(1), 3);
        index("leaf 3", () -> x.recover(3));
        index("leaf -1", () -> x.recover(-1));
        is("changes", x.undoable(), 8);
        state("without a book", () -> new NotaryBook().recover(0));
    }

    private static void sew() {
        promise = 49;
        NotaryBook x = loaded("book 4 0 2;act sale " + words(16) + ";cancel;lose 0;lose 3");
        leavesAre(x, LOST, LOOSE, LOOSE, LOST);
        argument("it is lost", () -> x.sew(0));
        is("one is loose", x.sew(2), 1);
        leavesAre(x, LOST, LOOSE, FAST, LOST);
        argument("it is fast", () -> x.sew(2));
        is("none is loose", x.sew(1), 0);
        leavesAre(x, LOST, FAST, FAST, LOST);
        is("nothing falls", x.shake(), 0);
        leavesAre(x, LOST, FAST, FAST, LOST);
        index("leaf 4", () -> x.sew(4));
        index("leaf -1", () -> x.sew(-1));
        is("changes", x.undoable(), 3);
        state("without a book", () -> new NotaryBook().sew(0));
    }

    private static void shake() {
        promise = 50;
        NotaryBook x = loaded("book 4 0 2;act sale " + words(16) + ";cancel;lose 0;lose 3");
        is("two fall", x.shake(), 2);
        leavesAre(x, LOST, LOST, LOST, LOST);
        is("none falls", x.shake(), 0);
        is("it is a change all the same", x.undoable(), 2);
        NotaryBook y = loaded("book 4 0 2;act sale a b c d e;cancel;lose 1;act will f");
        leavesAre(y, LOOSE, FAST);
        is("one falls", y.shake(), 1);
        leavesAre(y, LOST, LOOSE);
        is("its mate falls", y.shake(), 1);
        leavesAre(y, LOST, LOST);
        is("no leaves", loaded("book 4 0 2").shake(), 0);
        state("without a book", () -> new NotaryBook().shake());
    }

    // ---- undo and slots

    private static void undo() {
        promise = 51;
        NotaryBook x = twoActs();
        state("nothing to undo", () -> x.undo());
        begin(x, 0, "a b (c)");
        x.strike(0);
        x.strikeClause(2);
        interline(x, 1, "x");
        x.seal(1, 3);
        x.addCopy(3, 0);
        x.lose(3);
        x.burn(0);
        is("changes", x.undoable(), 8);
        is("burn", x.undo(), 7);
        is("copies", x.count(8), 1);
        is("lose", x.undo(), 6);
        is("leaves", x.count(6), 0);
        is("addCopy", x.undo(), 5);
        is("CASH", x.count(9), 16);
        is("seal", x.undo(), 4);
        is("CASH", x.count(9), 9);
        is("MARKS", x.act(3, 3), 3);
        is("interline", x.undo(), 3);
        is("interlined words", x.word(3, 1, 3), 0);
        is("strikeClause", x.undo(), 2);
        is("standing words", x.act(3, 5), 2);
        is("strike", x.undo(), 1);
        is("MARKS", x.act(3, 3), 0);
        is("begin", x.undo(), 0);
        is("acts", x.count(3), 2);
        is("leaves", x.count(5), 3);
        state("nothing to undo", () -> x.undo());
        state("without a book", () -> new NotaryBook().undo());
    }

    private static void undoable() {
        promise = 52;
        NotaryBook x = twoActs();
        for (int k = 1; k <= 12; k++) {
            x.lose(0);
            is("after a change", x.undoable(), Math.min(8, 2 * k - 1));
            x.recover(0);
            is("after another", x.undoable(), Math.min(8, 2 * k));
        }
        argument("a call that throws", () -> x.recover(0));
        x.save(0);
        x.writeAct(1);
        is("calls that are no changes", x.undoable(), 8);
        for (int k = 7; k >= 3; k--) {
            is("undo", x.undo(), k);
        }
        x.shake();
        is("those that were undone do not count", x.undoable(), 4);
        for (int k = 0; k < 5; k++) {
            x.shake();
        }
        is("eight at most", x.undoable(), 8);
        load(x, TWO_ACTS);
        is("after load", x.undoable(), 0);
        x.shake();
        argument("a load that fails", () -> load(x, "book"));
        is("after a load that fails", x.undoable(), 1);
        x.save(0);
        x.restore(0);
        is("after restore", x.undoable(), 0);
    }

    private static void slots() {
        NotaryBook x = twoActs();
        promise = 53;
        is("acts", x.save(0), 2);
        begin(x, 0, "a");
        is("acts", x.save(1), 3);
        index("slot 2", () -> x.save(2));
        index("slot -1", () -> x.save(-1));
        state("without a book", () -> new NotaryBook().save(2));
        x.seal(1, 0);
        x.addCopy(3, 2);
        x.lose(0);
        promise = 54;
        is("the first slot", x.restore(0), 2);
        is("leaves", x.count(6), 0);
        is("copies", x.count(8), 0);
        is("CASH", x.count(9), 9);
        state("nothing can be undone", () -> x.undo());
        x.lose(2);
        is("it stays saved", x.restore(0), 2);
        is("leaves", x.count(6), 0);
        is("the second slot", x.restore(1), 3);
        is("it is open", x.count(14), 3);
        x.cancel();
        promise = 53;
        is("in place of what was saved", x.save(0), 3);
        x.undo();
        is("undo leaves the slot", x.restore(0), 3);
        is("it is cancelled", x.act(3, 1), 2);
        promise = 54;
        index("slot 2", () -> x.restore(2));
        index("slot -1", () -> x.restore(-1));
        NotaryBook y = twoActs();
        state("nothing is saved there", () -> y.restore(0));
        y.save(0);
        state("nothing is saved in the other one", () -> y.restore(1));
        index("without a book, slot 2", () -> new NotaryBook().restore(2));
        state("without a book", () -> new NotaryBook().restore(1));
        argument("a load that fails", () -> load(y, "book"));
        is("after a load that fails", y.restore(0), 2);
        load(y, TWO_ACTS);
        state("after load nothing is saved", () -> y.restore(0));
    }

    /** Everything that a slot or a change keeps comes back, and nothing stays of what came after it. */
    private static void wholeState() {
        promise = 54;
        NotaryBook x = twoActs();
        x.addCopy(1, 2);
        x.addCopy(1, 0);
        x.save(0);
        begin(x, 2, "(a (b) c) d e");
        x.strike(0);
        interline(x, 2, "x");
        interline(x, 2, "y");
        x.lose(1);
        x.burn(0);
        x.save(1);
        x.restore(0);
        is("the copies", x.copy(0, 1) * 10 + x.copy(1, 1), 20);
        begin(x, 0, "f g (h i)");
        x.seal(3, 0);
        x.addCopy(3, 1);
        is("another act in the same place", text(x, x.writeAct(3)), "f g ( h i )");
        is("its copy", text(x, x.writeCopy(2)), "f g h i");
        x.restore(1);
        is("the act", text(x, x.writeAct(3)), "( -a ( b ) c ^x ^y ) d e");
        is("its kind", x.act(3, 0), 2);
        is("its witnesses", x.act(3, 2), 0);
        is("its fee", x.act(3, 10), 0);
        is("its marks", x.act(3, 3), 3);
        leavesAre(x, LOOSE, LOST, FAST, FAST, FAST);
        is("the copy", text(x, x.writeCopy(0)), "the barn is sold");
        is("the words that it has", x.copy(0, 2), 4);
        is("the copies", x.count(8), 1);
        is("CASH", x.count(9), 13);
        is("what agrees", x.gap(), 0);
        x.restore(0);
        is("the copy", text(x, x.writeCopy(0)), "the sold");
        leavesAre(x, FAST, FAST, FAST);
    }

    private static void nothingStays() {
        promise = 51;
        NotaryBook x = twoActs();
        begin(x, 2, "((a) (b))");
        x.strike(0);
        interline(x, 1, "x");
        x.strikeClause(1);
        x.seal(9, 3);
        for (int k = 0; k < 5; k++) {
            x.undo();
        }
        begin(x, 0, "c d");
        is("the text", text(x, x.writeAct(3)), "c d");
        is("MARKS", x.act(3, 3), 0);
        is("witnesses", x.act(3, 2), 0);
        is("its fee", x.act(3, 10), 0);
        is("clauses", x.act(3, 6), 0);
        promise = 3;
        NotaryBook y = loaded(TWO_ACTS + ";copy 1 0;lose 0");
        for (int k = 0; k < 3; k++) {
            load(y, "book 5 2 4;act loan a b");
            is("CASH", y.count(9), 0);
            is("MARKS", y.act(1, 3), 0);
            is("witnesses", y.act(1, 2), 0);
            is("copies", y.count(8), 0);
            is("what agrees", y.gap(), 0);
            leavesAre(y, FAST);
            y.strike(0);
            y.lose(0);
            load(y, TWO_ACTS + ";copy 1 0;lose 0");
            is("CASH", y.count(9), 12);
            y.burn(0);
            is("what agrees", y.gap(), 0);
        }
    }

    public static void main(String[] args) {
        begin();
        leavesThatCome();
        strike();
        strikeClause();
        interline();
        seal();
        cancel();
        addCopy();
        burn();
        lose();
        recover();
        sew();
        shake();
        undo();
        undoable();
        slots();
        wholeState();
        nothingStays();
        end("ChangeTest");
    }
}
