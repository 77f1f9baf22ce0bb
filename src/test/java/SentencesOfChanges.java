/** The sentences of promises 39 to 54 that name a boundary; those that many methods share are in SentencesOfMany. */
final class SentencesOfChanges extends Check {
    private SentencesOfChanges() {
    }

    static void run() {
        begin();
        beginRefused();
        strike();
        strikeClause();
        interline();
        interlineRefused();
        seal();
        cancel();
        addCopy();
        burn();
        lose();
        recover();
        sew();
        shake();
        undo();
        undoable();
        save();
        restore();
    }

    /** The call is one change, and undo takes all of it back. */
    private static int change(NotaryBook x, String call, Call it) {
        String before = Shot.ofBook(x);
        int undoable = x.undoable();
        Object answer = it.answer();
        String after = Shot.ofBook(x);
        is(call + " is one change", x.undoable(), Math.min(8, undoable + 1));
        x.save(1);
        is(call + " is undone", x.undo(), Math.min(7, undoable));
        is(call + " is undone", Shot.difference(before, Shot.ofBook(x)), "");
        x.restore(1);
        is(call + " is there again", Shot.difference(after, Shot.ofBook(x)), "");
        return (Integer) answer;
    }

    // ---- acts

    private static void begin() {
        Doc.says(39, "Begins an act whose words and clauses the first n bytes of the input buffer are, as a body (section 7); the"
                + " buffer is emptied, but stays if an exception is thrown. This is a change.");
        NotaryBook x = loaded("book 4 0 2;act sale a b c;cancel");
        put(x, "abc (de)f)");
        refused(ARGUMENT, x, "all the bytes", () -> x.begin(0, 10));
        is("nine of them", change(x, "begin", () -> x.begin(2, 9)), 2);
        is("the buffer", x.buffered(), 0);
        is("the body", text(x, x.writeAct(2)), "abc ( de ) f");
        is("it is open", x.count(14), 2);
        is("no marks", x.act(2, 3), 0);

        Doc.says(39, "Returns its number.");
        NotaryBook y = loaded("book 4 0 2");
        for (int a = 1; a <= 10; a++) {
            is("its number", begin(y, 0, "a"), a);
            y.seal(0, 0);
        }

        Doc.says(39, "`n`: how many bytes");
        NotaryBook z = loaded("book 20 0 2");
        String body = "ab (cd (e)) f";
        boolean[] isBody = {false, true, true, true, false, false, false, false, false, false, false, true, true, true, true};
        for (int n = 0; n < isBody.length; n++) {
            int first = n;
            put(z, body);
            if (isBody[n]) {
                is("the first " + n, z.begin(0, n), 1);
                is("the buffer", z.buffered(), 0);
                z.undo();
            } else {
                refused(ARGUMENT, z, "the first " + n, () -> z.begin(0, first));
                z.findWord(0);
            }
        }
        for (int k = 0; k < 30; k++) {
            z.append(0x61206120, 0x61206120, 0x61206120, 0x61206120, 0x61206120);
        }
        refused(ARGUMENT, z, "300 words", () -> z.begin(0, 600));
        refused(ARGUMENT, z, "241 words", () -> z.begin(0, 481));
        is("240 words", z.begin(0, 480), 1);
        is("words", z.act(1, 4), 240);
    }

    private static void beginRefused() {
        Doc.says(39, "if n is negative or greater than the number of bytes in the buffer");
        NotaryBook x = twoActs();
        for (int n : outside(0, 0)) {
            refused(INDEX, x, n + " of none", () -> x.begin(0, n));
        }
        put(x, "a");
        for (int n : outside(0, 20)) {
            refused(INDEX, x, n + " of twenty", () -> x.begin(0, n));
        }
        is("all of them", x.begin(0, 20), 3);

        Doc.says(39, "an act is open");
        put(x, "b");
        refused(ARGUMENT, x, "an act is open", () -> x.begin(0, 1));
        x.cancel();
        is("it is cancelled", x.begin(0, 1), 4);

        Doc.says(39, "there are 10 acts");
        NotaryBook ten = loaded("book 20 0 2");
        for (int a = 1; a <= 9; a++) {
            begin(ten, 0, "a");
            ten.cancel();
        }
        is("nine acts", begin(ten, 0, "a"), 10);
        ten.cancel();
        put(ten, "a");
        refused(ARGUMENT, ten, "ten acts", () -> ten.begin(0, 1));
        ten.undo();
        ten.undo();
        is("nine acts", ten.begin(0, 1), 10);

        Doc.says(39, "the bytes are no body");
        NotaryBook z = twoActs();
        for (String body : new String[] {"", " ", "()", "(a", "a)", ")", "(", "a;b", ";a", "a;", "7", "a 7", "abcdefghi", "aB", "a.b",
                "a-b", "(((((a)))))", "a ()", "(a ())", "a\tb", "a\u00e1"}) {
            put(z, body.isEmpty() ? "a" : body);
            refused(ARGUMENT, z, "the body " + body, () -> z.begin(0, body.length()));
            z.findWord(0);
        }

        Doc.says(39, "or there would be more than 12 leaves");
        for (int room = 4; room <= 20; room++) {
            NotaryBook full = loaded("book " + room + " 0 2;act sale " + words(12 * room - 2) + ";cancel;lose 11");
            put(full, "a b c");
            refused(ARGUMENT, full, "one word too many", () -> full.begin(0, 5));
            is("two words", full.begin(0, 3), 2);
            is("12 leaves", full.count(5), 12);
            full.cancel();
            put(full, "a");
            refused(ARGUMENT, full, "a full book", () -> full.begin(0, 1));
        }
    }

    private static void strike() {
        Doc.says(40, "Returns the standing words of the act then.");
        NotaryBook x = loaded("book 4 0 2;act sale z;cancel;act will a b (c) d");
        is("the first", change(x, "strike", () -> x.strike(0)), 3);
        is("it is struck", x.word(2, 0, 1), 1);
        is("one mark", x.act(2, 3), 1);
        interline(x, 0, "x");
        is("the last", change(x, "strike", () -> x.strike(3)), 3);
        is("two are left", x.strike(1), 2);
        is("one is left", x.strike(2), 1);
        Doc.says(40, "`i`: number of the word");
        is("the other act stays", x.act(1, 5), 1);
        Doc.says(40, "if whyNotStrike() tells a reason");
        for (int i = 0; i < 4; i++) {
            int struck = i;
            refused(ARGUMENT, x, "struck word " + i, () -> x.strike(struck));
        }
        for (int i : outside(0, 3)) {
            refused(ARGUMENT, x, "word " + i, () -> x.strike(i));
        }
        x.undo();
        x.cancel();
        refused(ARGUMENT, x, "no act is open", () -> x.strike(2));
    }

    private static void strikeClause() {
        Doc.says(41, "Strikes all words of the innermost clause in which a written word of the open act is, with one mark (those"
                + " that are struck stay so). This is a change.");
        NotaryBook x = loaded("book 4 0 2;act sale (z);cancel;act will a (b (c d (e)) f) (g) h");
        is("the word is struck", x.strike(3), 7);
        is("the three of the clause", x.standingIf(2, true), 5);
        Doc.says(41, "Returns how many words were struck by it.");
        is("those of inner clauses, too", change(x, "strikeClause", () -> x.strikeClause(2)), 2);
        is("marks", x.act(2, 3), 2);
        is("all are struck", change(x, "strikeClause", () -> x.strikeClause(4)), 0);
        is("marks", x.act(2, 3), 3);
        is("the outer one", change(x, "strikeClause", () -> x.strikeClause(1)), 2);
        is("it is all struck", change(x, "strikeClause", () -> x.strikeClause(5)), 0);
        is("the text", text(x, x.writeAct(2)), "a ( -b ( -c -d ( -e ) ) -f ) ( g ) h");
        is("the last one", change(x, "strikeClause", () -> x.strikeClause(6)), 1);
        Doc.says(41, "`i`: number of the word");
        is("the other act stays", x.act(1, 5), 1);
        Doc.says(41, "if no act is open, there is no such word, or it is in no clause");
        refused(ARGUMENT, x, "in no clause", () -> x.strikeClause(0));
        refused(ARGUMENT, x, "in no clause", () -> x.strikeClause(7));
        for (int i : outside(0, 7)) {
            refused(ARGUMENT, x, "word " + i, () -> x.strikeClause(i));
        }
        x.cancel();
        refused(ARGUMENT, x, "no act is open", () -> x.strikeClause(1));
        NotaryBook inner = loaded("book 4 0 2;act sale a (b c);insert 1 x;insert 1 y");
        is("no interlined ones", change(inner, "strikeClause", () -> inner.strikeClause(2)), 2);
        is("they stand", inner.act(1, 5), 3);
        NotaryBook full = loaded("book 20 0 2;act sale (" + words(240) + ")");
        for (int i : outside(0, 239)) {
            refused(ARGUMENT, full, "word " + i + " of a full book", () -> full.strikeClause(i));
        }
        is("all of it", full.strikeClause(239), 240);
    }

    private static void interline() {
        Doc.says(42, "Interlines the word that the first n bytes of the input buffer are, behind a written word of the open act,"
                + " and behind all that are interlined there; the buffer is emptied, but stays if an exception is thrown. This is"
                + " a change.");
        NotaryBook x = loaded("book 4 0 2;act sale z;cancel;act will a b");
        put(x, "first");
        is("three", change(x, "interline", () -> x.interline(1, 5)), 3);
        is("the buffer", x.buffered(), 0);
        put(x, "second");
        is("four", change(x, "interline", () -> x.interline(1, 6)), 4);
        x.strike(1);
        put(x, "third");
        is("behind a struck one", change(x, "interline", () -> x.interline(1, 5)), 4);
        put(x, "fourth");
        is("behind another one", change(x, "interline", () -> x.interline(0, 6)), 5);
        is("the text", text(x, x.writeAct(2)), "a ^fourth -b ^first ^second ^third");
        is("marks", x.act(2, 3), 5);
        Doc.says(42, "Returns the standing words of the act then.");
        put(x, "fifth");
        is("two written, five interlined, one struck", x.interline(0, 5), 6);
        is("as the act tells", x.act(2, 5), 6);
        Doc.says(42, "`n`: how many bytes, 1 to 8");
        NotaryBook y = loaded("book 4 0 2;act sale a b c");
        for (int n = 1; n <= 8; n++) {
            put(y, "abcdefghi");
            is("the first " + n, y.interline(n % 3, n), 3 + n);
            is("its letters", y.innerLetter(1, n % 3, y.word(1, n % 3, 3) - 1, n - 1), 'a' + n - 1);
            is("no more of them", y.innerLetter(1, n % 3, y.word(1, n % 3, 3) - 1, n), -1);
        }
        Doc.says(42, "`i`: number of the word");
        is("the other act stays", x.act(1, 5), 1);
    }

    private static void interlineRefused() {
        Doc.says(42, "if n is negative or greater than the number of bytes in the buffer");
        NotaryBook x = loaded("book 4 0 2;act sale a b");
        for (int n : outside(0, 0)) {
            refused(INDEX, x, n + " of none", () -> x.interline(0, n));
        }
        put(x, "abcdefghij");
        for (int n : outside(0, 20)) {
            refused(INDEX, x, n + " of twenty", () -> x.interline(0, n));
        }
        Doc.says(42, "if n is out of range");
        refused(ARGUMENT, x, "no bytes", () -> x.interline(0, 0));
        for (int n = 9; n <= 20; n++) {
            int many = n;
            refused(ARGUMENT, x, n + " bytes", () -> x.interline(0, many));
        }
        Doc.says(42, "there is no such word");
        for (int i : outside(0, 1)) {
            refused(ARGUMENT, x, "word " + i, () -> x.interline(i, 1));
        }
        is("the bytes stay", x.interline(0, 8), 3);
        Doc.says(42, "a byte is no letter a to z");
        for (int b = 0; b <= 255; b++) {
            String bytes = "a" + (char) b + "z";
            put(x, bytes);
            if (b >= 'a' && b <= 'z') {
                is("the byte " + b, x.interline(1, 3), 4);
                x.undo();
            } else {
                refused(ARGUMENT, x, "the byte " + b, () -> x.interline(1, 3));
                refused(ARGUMENT, x, "the byte " + b + " at the end", () -> x.interline(1, 2));
                is("none of it", x.interline(1, 1), 4);
                x.undo();
            }
        }
        Doc.says(42, "or 4 words are interlined there");
        for (int j = 0; j < 4; j++) {
            is("one more", interline(x, 1, "x"), 4 + j);
        }
        put(x, "x");
        refused(ARGUMENT, x, "a fifth", () -> x.interline(1, 1));
        Doc.says(42, "no act is open");
        x.cancel();
        refused(ARGUMENT, x, "it is cancelled", () -> x.interline(0, 1));
    }

    private static void seal() {
        Doc.says(43, "Returns its fee.");
        NotaryBook x = loaded("book 4 2 2");
        int[] base = {5, 3, 4};
        for (int kind = 0; kind <= 2; kind++) {
            begin(x, kind, "a (b) c");
            x.strikeClause(1);
            is("the fee", change(x, "seal", () -> x.seal(2, 1)), base[kind] + 2);
            is("it is sealed", x.act(kind + 1, 1), 1);
            is("its witnesses", x.act(kind + 1, 2), 2);
            is("its marks", x.act(kind + 1, 3), 1);
        }
        is("CASH", x.count(9), 18);
        Doc.says(43, "or whyNotSeal() tells a reason");
        refused(ARGUMENT, x, "no act is open", () -> x.seal(2, 1));
        begin(x, 0, "a");
        refused(ARGUMENT, x, "fewer witnesses than NEED", () -> x.seal(1, 0));
        refused(ARGUMENT, x, "other marks", () -> x.seal(2, 1));
        x.strike(0);
        refused(ARGUMENT, x, "no word stands", () -> x.seal(2, 1));
        interline(x, 0, "b");
        is("now one does", change(x, "seal", () -> x.seal(9, 2)), 6);
    }

    private static void cancel() {
        Doc.says(44, "Cancels the open act; it keeps its number. This is a change.");
        NotaryBook x = loaded("book 4 0 2;act sale a;seal 0 0;act will b c");
        is("its number", change(x, "cancel", () -> x.cancel()), 2);
        is("it is cancelled", x.act(2, 1), 2);
        is("its words stay", x.act(2, 5), 2);
        is("no fee", x.count(9), 6);
        is("the next one", begin(x, 0, "d"), 3);
        Doc.says(44, "Returns its number.");
        is("its number", x.cancel(), 3);
        x.undo();
        Doc.says(44, "if no act is open");
        x.seal(0, 0);
        refused(ARGUMENT, x, "it is sealed", () -> x.cancel());
        begin(x, 0, "e");
        x.cancel();
        refused(ARGUMENT, x, "it is cancelled", () -> x.cancel());
        NotaryBook none = loaded("book 4 0 2");
        refused(ARGUMENT, none, "there is none", () -> none.cancel());
    }

    // ---- copies

    private static void addCopy() {
        Doc.says(45, "Makes a copy, behind all others. This is a change.");
        NotaryBook x = loaded("book 4 0 2;act sale a;seal 0 0;act will b c d;seal 0 0;act loan e");
        for (int c = 0; c < 8; c++) {
            int a = 1 + c % 2;
            int grade = c % 3;
            is("its number", change(x, "addCopy", () -> x.addCopy(a, grade)), c);
            is("its act", x.copy(c, 0), a);
            is("its grade", x.copy(c, 1), grade);
        }
        Doc.says(45, "Returns its number.");
        x.burn(7);
        is("the greatest", x.addCopy(1, 2), 7);
        Doc.says(45, "or whyNotCopy() tells a reason");
        refused(ARGUMENT, x, "8 copies", () -> x.addCopy(1, 2));
        for (int c = 0; c < 8; c++) {
            x.burn(0);
        }
        refused(ARGUMENT, x, "it is open", () -> x.addCopy(3, 0));
        x.cancel();
        refused(ARGUMENT, x, "it is cancelled", () -> x.addCopy(3, 0));
        x.lose(0);
        for (int grade = 0; grade <= 2; grade++) {
            int g = grade;
            refused(ARGUMENT, x, "a word is not known", () -> x.addCopy(1, g));
        }
    }

    private static void burn() {
        Doc.says(46, "Burns a copy; those behind it get numbers that are 1 less. This is a change.");
        NotaryBook x = loaded("book 4 0 2;act sale a;seal 0 0;act sale b;seal 0 0;act sale c;seal 0 0;act sale d;seal 0 0;"
                + "copy 1 2;copy 2 2;copy 3 2;copy 4 2");
        is("one in the middle", change(x, "burn", () -> x.burn(1)), 3);
        is("the others", x.copy(0, 0) * 100 + x.copy(1, 0) * 10 + x.copy(2, 0), 134);
        is("the last", change(x, "burn", () -> x.burn(2)), 2);
        is("the others", x.copy(0, 0) * 10 + x.copy(1, 0), 13);
        is("the first", change(x, "burn", () -> x.burn(0)), 1);
        is("the other", x.copy(0, 0), 3);
        Doc.says(46, "Returns the copies then.");
        is("the only one", change(x, "burn", () -> x.burn(0)), 0);
        is("CASH stays", x.count(9), 28);
    }

    // ---- leaves

    private static void lose() {
        Doc.says(47, "Returns how many written words more are not known then.");
        NotaryBook x = loaded("book 4 0 2;act sale a b c d e;seal 0 0;copy 1 2");
        is("but for one that a copy has", change(x, "lose", () -> x.lose(0)), 3);
        is("a loose one, of whose words a copy has all", change(x, "lose", () -> x.lose(1)), 0);
        leavesAre(x, LOST, LOST);
        NotaryBook y = loaded("book 20 0 2;act sale " + words(20) + ";seal 0 0");
        is("a full one", change(y, "lose", () -> y.lose(0)), 20);
        Doc.says(47, "if it is lost");
        refused(ARGUMENT, x, "lost", () -> x.lose(0));
        refused(ARGUMENT, x, "lost", () -> x.lose(1));
        x.recover(0);
        answers("found", () -> x.lose(0));
    }

    private static void recover() {
        Doc.says(48, "A lost leaf is found, and sewn in again: it is fast, and so is its mate, if that is loose. This is a"
                + " change.");
        NotaryBook x = loaded("book 4 0 3;act sale " + words(21) + ";seal 0 0;copy 1 2;lose 0;lose 1;lose 3;lose 4");
        leavesAre(x, LOST, LOST, LOOSE, LOST, LOST, LOOSE);
        Doc.says(48, "Returns how many written words more are known then.");
        is("but for one that a copy has", change(x, "recover", () -> x.recover(0)), 3);
        leavesAre(x, FAST, LOST, FAST, LOST, LOST, LOOSE);
        is("its own mate", change(x, "recover", () -> x.recover(1)), 4);
        leavesAre(x, FAST, FAST, FAST, LOST, LOST, LOOSE);
        x.shake();
        leavesAre(x, FAST, FAST, FAST, LOST, LOST, LOST);
        is("a leaf of one word, that a copy has", change(x, "recover", () -> x.recover(5)), 0);
        leavesAre(x, FAST, FAST, FAST, LOST, LOST, FAST);
        is("its mate is fast", change(x, "recover", () -> x.recover(3)), 4);
        leavesAre(x, FAST, FAST, FAST, FAST, LOST, FAST);
        Doc.says(48, "if it is not lost");
        refused(ARGUMENT, x, "fast", () -> x.recover(0));
        x.lose(3);
        refused(ARGUMENT, x, "loose", () -> x.recover(5));
    }

    private static void sew() {
        Doc.says(49, "Returns the loose leaves then.");
        NotaryBook x = loaded("book 4 0 4;act sale " + words(32) + ";cancel;lose 0;lose 5;lose 7");
        leavesAre(x, LOST, FAST, FAST, LOOSE, LOOSE, LOST, LOOSE, LOST);
        is("two", change(x, "sew", () -> x.sew(4)), 2);
        is("one", change(x, "sew", () -> x.sew(3)), 1);
        is("none", change(x, "sew", () -> x.sew(6)), 0);
        leavesAre(x, LOST, FAST, FAST, FAST, FAST, LOST, FAST, LOST);
        Doc.says(49, "if it is not loose");
        refused(ARGUMENT, x, "lost", () -> x.sew(0));
        refused(ARGUMENT, x, "fast", () -> x.sew(1));
        refused(ARGUMENT, x, "sewn", () -> x.sew(3));
    }

    private static void shake() {
        Doc.says(50, "Returns how many leaves are lost by it.");
        NotaryBook x = loaded("book 4 0 4;act sale " + words(45) + ";cancel;lose 0;lose 5;lose 11");
        leavesAre(x, LOST, FAST, FAST, LOOSE, FAST, LOST, LOOSE, FAST, LOOSE, FAST, FAST, LOST);
        begin(x, 0, "a");
        is("three", change(x, "shake", () -> x.shake()), 3);
        leavesAre(x, LOST, FAST, FAST, LOST, FAST, LOST, LOST, FAST, LOST, FAST, FAST, LOOSE);
        is("one", change(x, "shake", () -> x.shake()), 1);
        is("none", change(x, "shake", () -> x.shake()), 0);
        is("no leaves", loaded("book 4 0 2").shake(), 0);
    }

    // ---- undo and slots

    private static void undo() {
        Doc.says(51, "Returns the number of changes that can still be undone.");
        NotaryBook x = twoActs();
        String first = Shot.ofBook(x);
        for (int k = 1; k <= 8; k++) {
            x.shake();
        }
        for (int k = 7; k >= 0; k--) {
            is("left", x.undo(), k);
        }
        Doc.says(51, "if there is none");
        refused(STATE, x, "all are undone", () -> x.undo());
        is("the book", Shot.ofBook(x), first);
        refused(STATE, new NotaryBook(), "a new object", () -> new NotaryBook().undo());
        x.shake();
        load(x, TWO_ACTS);
        refused(STATE, x, "after load", () -> x.undo());
        x.save(0);
        x.shake();
        x.restore(0);
        refused(STATE, x, "after restore", () -> x.undo());
        Doc.says(51, "Undoes the latest change that was not undone yet.");
        String three = Shot.ofBook(x);
        for (int k = 0; k < 12; k++) {
            begin(x, k % 3, "((zz)) " + words(k + 1));
            interline(x, k, "yy");
            x.strikeClause(0);
            x.seal(k % 9 + 1, 2);
            x.addCopy(3, 0);
            for (int left = 4; left >= 0; left--) {
                is("left", x.undo(), left);
            }
            is("nothing stays", Shot.difference(three, Shot.ofBook(x)), "");
            is("no word of it", find(x, "zz") + find(x, "yy"), 0);
            is("nor a fee", x.meanWords(), 4.0);
            begin(x, 0, "a b");
            is("nothing stays in its place", text(x, x.writeAct(3)), "a b");
            is("no interlined word", x.innerLetter(3, 0, 0, 0), -1);
            is("all is as at first", x.act(3, 1) + x.act(3, 2) + x.act(3, 3) + x.act(3, 10) + x.act(3, 11), 0);
            x.undo();
        }
        x.lose(0);
        x.lose(1);
        x.undo();
        leavesAre(x, LOST, LOOSE, FAST);
        x.lose(2);
        x.undo();
        leavesAre(x, LOST, LOOSE, FAST);
        x.undo();
        leavesAre(x, FAST, FAST, FAST);
    }

    private static void undoable() {
        Doc.says(52, "Returns 0 to 8.");
        NotaryBook x = new NotaryBook();
        is("without a book", x.undoable(), 0);
        load(x, TWO_ACTS);
        for (int k = 0; k <= 20; k++) {
            is("after " + k, x.undoable(), Math.min(k, 8));
            x.shake();
        }
        for (int k = 8; k >= 1; k--) {
            is("before an undo", x.undoable(), k);
            x.undo();
        }
        is("none", x.undoable(), 0);
    }

    private static void save() {
        Doc.says(53, "Returns the number of acts.");
        NotaryBook x = loaded("book 4 0 2");
        is("none", x.save(0), 0);
        begin(x, 0, "a");
        is("one", x.save(1), 1);
        Doc.says(53, "`slot`: 0 or 1");
        is("the first", x.restore(0), 0);
        is("the second", x.restore(1), 1);
        Doc.says(53, "if there is no such slot");
        for (int slot : outside(0, 1)) {
            refused(INDEX, x, "slot " + slot, () -> x.save(slot));
        }
        Doc.says(53, "Saves the state in a slot, in place of what was saved there.");
        x.strike(0);
        String before = Shot.ofBook(x);
        is("in its place", x.save(0), 1);
        is("it is no change", x.undoable(), 1);
        x.undo();
        is("the other one stays", x.restore(1), 1);
        is("one word", x.act(1, 5), 1);
        is("the new one", x.restore(0), 1);
        is("all of it", Shot.difference(before, Shot.ofBook(x)), "");
    }

    private static void restore() {
        Doc.says(54, "Returns the number of acts then.");
        NotaryBook x = twoActs();
        x.save(0);
        x.addCopy(1, 0);
        begin(x, 0, "a");
        x.lose(0);
        x.save(1);
        String second = Shot.ofBook(x);
        is("two", x.restore(0), 2);
        is("three", x.restore(1), 3);
        is("all of it", Shot.difference(second, Shot.ofBook(x)), "");
        Doc.says(54, "Restores what was saved in a slot; it stays saved. Nothing can be undone afterwards.");
        for (int k = 0; k < 3; k++) {
            x.strike(0);
            x.recover(0);
            is("changes", x.undoable(), 2);
            is("it stays saved", x.restore(1), 3);
            is("all of it", Shot.difference(second, Shot.ofBook(x)), "");
            refused(STATE, x, "nothing can be undone", () -> x.undo());
        }
        Doc.says(54, "`slot`: 0 or 1");
        is("the other one", x.restore(0), 2);
        Doc.says(54, "if there is no such slot");
        for (int slot : outside(0, 1)) {
            refused(INDEX, x, "slot " + slot, () -> x.restore(slot));
            NotaryBook none = new NotaryBook();
            refused(INDEX, none, "slot " + slot + " without a book", () -> none.restore(slot));
        }
        Doc.says(54, "if nothing is saved there");
        for (int slot = 0; slot <= 1; slot++) {
            int s = slot;
            NotaryBook y = twoActs();
            y.shake();
            refused(STATE, y, "slot " + slot, () -> y.restore(s));
            y.save(1 - slot);
            refused(STATE, y, "slot " + slot, () -> y.restore(s));
            is("the other one", y.restore(1 - slot), 2);
            NotaryBook none = new NotaryBook();
            refused(STATE, none, "without a book", () -> none.restore(s));
        }
    }
}
