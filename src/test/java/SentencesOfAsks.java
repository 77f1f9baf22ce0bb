/** The sentences of promises 7 to 38 that name a boundary; those that many methods share are in SentencesOfMany. */
final class SentencesOfAsks extends Check {
    private SentencesOfAsks() {
    }

    static void run() {
        countBook();
        countActs();
        act();
        word();
        letters();
        clause();
        leaf();
        copy();
        has();
        known();
        gap();
        whyNotSeal();
        whyNotCopy();
        whyNotStrike();
        unknownIf();
        worstLeaf();
        shakenOut();
        leavesFor();
        copyWords();
        bestCopy();
        standingIf();
        findWord();
        findWordLimits();
        longest();
        common();
        quotients();
        writeAct();
        writeStanding();
        writeLeaf();
        writeCopy();
        textByte();
    }

    /** Twelve leaves of twenty words, all lost; eight copies have the first and the last word. */
    private static NotaryBook allLost() {
        NotaryBook x = loaded("book 20 4 4;act loan " + words(240) + ";seal 9 0");
        for (int c = 0; c < 8; c++) {
            x.addCopy(1, 2);
        }
        for (int l = 0; l < 12; l++) {
            x.lose(l);
        }
        return x;
    }

    private static void countBook() {
        NotaryBook empty = loaded("book 4 0 2");
        NotaryBook full = allLost();
        String[] pieces = {"0: ROOM", "1: NEED", "2: GATHER", "3: acts", "4: written words of all acts", "5: leaves",
            "6: lost leaves", "7: loose leaves", "8: copies", "9: CASH", "10: MARKS of all acts",
            "11: standing words of all acts, cancelled ones, too", "12: sealed acts", "13: cancelled acts",
            "14: the number of the open act, 0 if none is", "15: written words of all acts that are not known"};
        int[] most = {20, 4, 4, 1, 240, 12, 12, 0, 8, 252, 0, 240, 1, 0, 0, 238};
        for (int what = 0; what <= 15; what++) {
            Doc.says(7, pieces[what]);
            is("of an empty book", empty.count(what), what == 0 ? 4 : what == 2 ? 2 : 0);
            is("of a full one", full.count(what), most[what]);
        }
        Doc.says(7, "7: loose leaves");
        NotaryBook x = loaded("book 4 0 4;act sale " + words(48) + ";cancel;lose 0;lose 5;lose 8");
        is("three are loose", x.count(7), 3);
        is("three are lost", x.count(6), 3);
        x.sew(3);
        is("two are loose", x.count(7), 2);
        x.shake();
        is("none is loose", x.count(7), 0);
        is("five are lost", x.count(6), 5);
        Doc.says(7, "15: written words of all acts that are not known");
        is("those of five leaves", x.count(15), 20);
    }

    private static void countActs() {
        NotaryBook x = loaded("book 20 0 2");
        for (int a = 1; a <= 10; a++) {
            begin(x, 0, "a b (c)");
            interline(x, 0, "x");
            x.strikeClause(2);
            Doc.says(7, "14: the number of the open act, 0 if none is");
            is("it is open", x.count(14), a);
            Doc.says(7, "10: MARKS of all acts");
            is("two of each", x.count(10), 2 * a);
            Doc.says(7, "11: standing words of all acts, cancelled ones, too");
            is("three of each", x.count(11), 3 * a);
            if (a % 2 == 0) {
                x.cancel();
            } else {
                x.seal(0, 2);
            }
            Doc.says(7, "14: the number of the open act, 0 if none is");
            is("none is open", x.count(14), 0);
            Doc.says(7, "12: sealed acts");
            is("each second one", x.count(12), (a + 1) / 2);
            Doc.says(7, "13: cancelled acts");
            is("each second one", x.count(13), a / 2);
            Doc.says(7, "9: CASH");
            is("eight of each that is sealed", x.count(9), (a + 1) / 2 * 8);
        }
    }

    private static void act() {
        NotaryBook x = loaded("book 4 0 2;act sale a b c;seal 9 0;act will ((((d)))) e (f) g h i;strike 0;strike 1;"
                + "insert 1 x;cancel;act loan j k");
        for (int c = 0; c < 8; c++) {
            x.addCopy(1, 2);
        }
        String[] pieces = {"0: KIND", "1: 0 if it is open, 1 if it is sealed, 2 if it is cancelled",
            "2: witnesses (0 if it is not sealed)", "3: MARKS", "4: written words", "5: standing words", "6: clauses",
            "7: the greatest depth of a word (0 for one that is in no clause)", "8: the leaf of its first word",
            "9: the leaf of its last word", "10: its fee (0 if it is not sealed)", "11: copies of it"};
        int[][] due = {
            {0, 1, 9, 0, 3, 3, 0, 0, 0, 0, 8, 8},
            {1, 2, 0, 3, 6, 5, 5, 4, 0, 2, 0, 0},
            {2, 0, 0, 0, 2, 2, 0, 0, 2, 2, 0, 0},
        };
        for (int what = 0; what <= 11; what++) {
            Doc.says(8, pieces[what]);
            for (int a = 1; a <= 3; a++) {
                is("act " + a, x.act(a, what), due[a - 1][what]);
            }
        }
        Doc.says(8, "2: witnesses (0 if it is not sealed)");
        x.seal(0, 0);
        is("without witnesses", x.act(3, 2), 0);
        Doc.says(8, "10: its fee (0 if it is not sealed)");
        is("now it is sealed", x.act(3, 10), 6);
        x.undo();
        is("now it is not", x.act(3, 10), 0);
        Doc.says(8, "7: the greatest depth of a word (0 for one that is in no clause)");
        String[] bodies = {"a", "(a) b", "a ((b)) (c)", "(((a)) b)", "a ((((b)))) c"};
        for (int depth = 0; depth <= 4; depth++) {
            is("the depth", loaded("book 4 0 2;act sale " + bodies[depth]).act(1, 7), depth);
        }
        Doc.says(8, "6: clauses");
        String[] clauses = {"a", "(a)", "a (b)", "((a)) (b)", "a ((b (c)) (d))"};
        for (int k = 0; k < 5; k++) {
            is("clauses", loaded("book 4 0 2;act will (z);cancel;act sale " + clauses[k]).act(2, 6), k == 4 ? 4 : k == 3 ? 3
                    : k == 0 ? 0 : 1);
        }
        Doc.says(8, "9: the leaf of its last word");
        NotaryBook y = loaded("book 4 0 2;act sale a b c d;cancel;act sale " + words(44));
        is("a full leaf", y.act(1, 9), 0);
        is("the last leaf of all", y.act(2, 9), 11);
        Doc.says(8, "8: the leaf of its first word");
        is("the next leaf", y.act(2, 8), 1);
    }

    private static void word() {
        NotaryBook x = loaded("book 4 0 2;act sale a bb (ccc (dddd (eeeee (ffffff)))) ggggggg hhhhhhhh;strike 0;"
                + "insert 1 x;insert 1 x;insert 1 x;insert 1 x;insert 2 x;seal 0 6");
        for (int c = 0; c < 8; c++) {
            x.addCopy(1, c < 3 ? 1 : 2);
        }
        x.lose(0);
        String[] pieces = {"0: its leaf", "1: 1 if it is struck, otherwise 0", "2: its depth",
            "3: words that are interlined behind it", "4: its letters", "5: 1 if it is known, otherwise 0",
            "6: the innermost clause in which it is, NONE if it is in none", "7: copies that have it"};
        int[][] due = {
            {0, 0, 0, 0, 1, 1, 1, 1},
            {1, 0, 0, 0, 0, 0, 0, 0},
            {0, 0, 1, 2, 3, 4, 0, 0},
            {0, 4, 1, 0, 0, 0, 0, 0},
            {1, 2, 3, 4, 5, 6, 7, 8},
            {0, 1, 1, 1, 1, 1, 1, 1},
            {-1, -1, 0, 1, 2, 3, -1, -1},
            {0, 8, 3, 3, 3, 3, 3, 8},
        };
        for (int what = 0; what <= 7; what++) {
            Doc.says(9, pieces[what]);
            for (int i = 0; i < 8; i++) {
                is("word " + i, x.word(1, i, what), due[what][i]);
            }
        }
        Doc.says(9, "0: its leaf");
        NotaryBook y = loaded("book 20 0 2;act sale " + words(240));
        for (int i = 0; i < 240; i++) {
            is("word " + i, y.word(1, i, 0), i / 20);
        }
        Doc.says(9, "6: the innermost clause in which it is, NONE if it is in none");
        NotaryBook z = loaded("book 20 0 2;act sale ((a) b ((c) d) (e)) f (g)");
        int[] clauses = {1, 0, 3, 2, 4, -1, 5};
        for (int i = 0; i < 7; i++) {
            is("word " + i, z.word(1, i, 6), clauses[i]);
        }
    }

    private static void letters() {
        NotaryBook x = loaded("book 4 0 2;act sale a bc def ghij klmno pqrstu vwxyzab cdefghij");
        for (int i = 0; i < 4; i++) {
            for (int j = 0; j <= i; j++) {
                interline(x, i, "abcdefgh".substring(0, i + j + 1));
            }
        }
        x.lose(0);
        x.lose(1);
        Doc.says(10, "Returns the letter, as a byte; NONE if there is no such index.");
        String[] words = {"a", "bc", "def", "ghij", "klmno", "pqrstu", "vwxyzab", "cdefghij"};
        for (int i = 0; i < 8; i++) {
            for (int k = 0; k <= i; k++) {
                is("letter " + k, x.letter(1, i, k), (int) words[i].charAt(k));
            }
            for (int k : outside(0, i)) {
                is("letter " + k, x.letter(1, i, k), -1);
            }
        }
        Doc.says(10, "`k`: its index, from 0");
        is("the first", x.letter(1, 7, 0), (int) 'c');
        is("ahead of it", x.letter(1, 7, -1), -1);

        Doc.says(11, "Returns the letter, as a byte; NONE if there is no such word or index.");
        for (int i = 0; i < 4; i++) {
            for (int j = 0; j <= i; j++) {
                for (int k = 0; k <= i + j; k++) {
                    is("letter " + k, x.innerLetter(1, i, j, k), 'a' + k);
                }
                for (int k : outside(0, i + j)) {
                    is("letter " + k, x.innerLetter(1, i, j, k), -1);
                }
            }
            for (int j : outside(0, i)) {
                is("interlined word " + j, x.innerLetter(1, i, j, 0), -1);
            }
        }
        for (int j : outside(0, -1)) {
            is("of none", x.innerLetter(1, 5, j, 0), -1);
        }
        Doc.says(11, "`j`: number of the interlined word, from 0 in the order in which they were interlined there");
        is("the first has one letter less than the second", x.innerLetter(1, 1, 0, 2), -1);
        is("the second", x.innerLetter(1, 1, 1, 2), (int) 'c');
        Doc.says(11, "`k`: the index of the letter, from 0");
        is("the first", x.innerLetter(1, 0, 0, 0), (int) 'a');
        is("ahead of it", x.innerLetter(1, 0, 0, -1), -1);
    }

    private static void clause() {
        NotaryBook x = loaded("book 20 0 2;act will (z);cancel;act sale a (b ((c) d (e f (g)) h)) (i);strike 3;out 6;strike 8");
        String[] pieces = {"0: its first word", "1: its last word", "2: its written words, also those of clauses in it",
            "3: those of these that are not struck", "4: its depth, 1 if it is in no other one",
            "5: the clauses that are in it directly"};
        int[][] due = {
            {1, 2, 2, 4, 6, 8},
            {7, 7, 2, 6, 6, 8},
            {7, 6, 1, 3, 1, 1},
            {5, 4, 1, 2, 0, 0},
            {1, 2, 3, 3, 4, 1},
            {1, 2, 0, 1, 0, 0},
        };
        for (int what = 0; what <= 5; what++) {
            Doc.says(12, pieces[what]);
            for (int c = 0; c < 6; c++) {
                is("clause " + c, x.clause(2, c, what), due[what][c]);
            }
        }
        NotaryBook y = loaded("book 20 0 2;act will " + words(12) + ";cancel;act sale (a b) (c (d e) f (g) h) i;insert 1 x;"
                + "insert 3 y;strike 3");
        int[][] later = {{0, 2, 3, 6}, {1, 7, 4, 6}, {2, 6, 2, 1}, {2, 5, 1, 1}, {1, 1, 2, 2}, {0, 2, 0, 0}};
        for (int what = 0; what <= 5; what++) {
            Doc.says(12, pieces[what]);
            for (int c = 0; c < 4; c++) {
                is("clause " + c + " of an act far behind", y.clause(2, c, what), later[what][c]);
            }
        }
        Doc.says(12, "number of a clause, from 0 in the order in which they begin");
        is("the only one of another act", x.clause(1, 0, 2), 1);
        for (int c : outside(0, 5)) {
            refused(INDEX, x, "clause " + c, () -> x.clause(2, c, 0));
        }
        Doc.says(12, "if there is no such act or clause");
        x.cancel();
        begin(x, 0, "(j (k))");
        refused(INDEX, x, "the first clause of the next act", () -> x.clause(2, 6, 0));
        for (int c : outside(0, 0)) {
            refused(INDEX, x, "clause " + c, () -> x.clause(1, c, 0));
        }
        NotaryBook none = loaded("book 4 0 2;act sale a b");
        for (int c : outside(0, -1)) {
            refused(INDEX, none, "clause " + c + " of none", () -> none.clause(1, c, 0));
        }
        for (int a : outside(1, 3)) {
            refused(INDEX, x, "act " + a, () -> x.clause(a, 0, 0));
        }
    }

    private static void leaf() {
        NotaryBook x = loaded("book 4 0 3;act sale a;cancel;act sale b;cancel;act sale c;cancel;act sale " + words(13)
                + ";cancel;lose 0");
        String[] pieces = {"0: 0 if it is fast, 1 loose, 2 lost", "1: written words on it", "2: acts that have a word on it",
            "3: its mate, NONE if there is no such leaf yet, or it is its own", "4: its gathering",
            "5: the number of the first act that has a word on it"};
        int[][] due = {
            {LOST, FAST, LOOSE, FAST},
            {4, 4, 4, 4},
            {4, 1, 1, 1},
            {2, -1, 0, -1},
            {0, 0, 0, 1},
            {1, 4, 4, 4},
        };
        for (int what = 0; what <= 5; what++) {
            Doc.says(13, pieces[what]);
            for (int l = 0; l < 4; l++) {
                is("leaf " + l, x.leaf(l, what), due[what][l]);
            }
        }
        begin(x, 0, "d");
        Doc.says(13, "1: written words on it");
        is("one word", x.leaf(4, 1), 1);
        Doc.says(13, "2: acts that have a word on it");
        is("one act", x.leaf(4, 2), 1);
        Doc.says(13, "5: the number of the first act that has a word on it");
        is("a new act on a new leaf", x.leaf(4, 5), 5);
        is("the act ahead of it", x.leaf(3, 5), 4);
        Doc.says(13, "3: its mate, NONE if there is no such leaf yet, or it is its own");
        is("there is none yet", x.leaf(3, 3), -1);
        is("its own", x.leaf(4, 3), -1);
        x.cancel();
        begin(x, 0, "e f g h");
        is("now there is one", x.leaf(3, 3), 5);
        x.undo();
        is("now there is none", x.leaf(3, 3), -1);
        Doc.says(13, "2: acts that have a word on it");
        NotaryBook y = loaded("book 4 0 2;act sale a b c;cancel;act sale d;cancel;act sale e");
        is("two acts", y.leaf(0, 2), 2);
        is("another one", y.leaf(1, 2), 1);
    }

    private static void copy() {
        NotaryBook x = loaded("book 4 0 2;act will z;cancel;act sale a b c d e;strike 1;insert 1 x;seal 0 2;"
                + "copy 2 0;copy 2 1;copy 2 2");
        String[] pieces = {"0: its act", "1: GRADE", "2: words that it has, interlined ones, too", "3: its fee",
            "4: written words that are known by it alone"};
        int[][] due = {{2, 2, 2}, {0, 1, 2}, {5, 4, 2}, {3, 2, 1}, {0, 0, 0}};
        for (int what = 0; what <= 4; what++) {
            Doc.says(14, pieces[what]);
            for (int c = 0; c < 3; c++) {
                is("copy " + c, x.copy(c, what), due[what][c]);
            }
        }
        Doc.says(14, "4: written words that are known by it alone");
        x.lose(0);
        x.lose(1);
        is("others have them, too", x.copy(0, 4), 0);
        x.burn(1);
        is("the two in the middle", x.copy(0, 4), 2);
        is("the ends are in the other, too", x.copy(1, 4), 0);
        x.burn(0);
        is("the ends", x.copy(0, 4), 2);
        x.recover(1);
        is("the first", x.copy(0, 4), 1);
        x.recover(0);
        is("no leaf is lost", x.copy(0, 4), 0);
        x.lose(0);
        x.recover(0);
        x.lose(1);
        is("the last, as a loose leaf is not lost", x.copy(0, 4), 1);
    }

    private static void has() {
        Doc.says(15, "Returns whether it has.");
        NotaryBook x = loaded("book 4 0 2;act will y z;cancel;act sale a b c d e;strike 0;strike 3;seal 0 2;"
                + "copy 2 0;copy 2 1;copy 2 2");
        for (int i = 0; i < 5; i++) {
            is("grade 0 has " + i, x.has(0, i), i != 0 && i != 3);
            is("grade 1 has " + i, x.has(1, i), i != 0 && i != 3);
            is("grade 2 has " + i, x.has(2, i), i == 1 || i == 4);
        }
        Doc.says(15, "number of a word of the act, from 0");
        for (int i : outside(0, 4)) {
            refused(INDEX, x, "word " + i, () -> x.has(0, i));
        }
        Doc.says(15, "if there is no such copy or word");
        begin(x, 0, "f");
        refused(INDEX, x, "a word of the next act", () -> x.has(0, 5));
        refused(INDEX, x, "a word of the act ahead", () -> x.has(0, -1));
        for (int c : outside(0, 2)) {
            refused(INDEX, x, "copy " + c, () -> x.has(c, 0));
        }
    }

    private static void known() {
        Doc.says(16, "Returns how many.");
        NotaryBook x = loaded("book 4 0 2;act sale a b c;seal 0 0;act will d e f g h i;seal 0 0");
        is("all", x.known(2), 6);
        x.lose(0);
        is("none", x.known(1), 0);
        is("but one", x.known(2), 5);
        x.lose(1);
        x.lose(2);
        is("none", x.known(2), 0);
        Doc.says(17, "Returns the word; NONE if all are known.");
        is("the first", x.firstUnknown(2), 0);
        x.recover(0);
        is("all are known", x.firstUnknown(1), -1);
        is("the second", x.firstUnknown(2), 1);
        x.recover(1);
        is("the last", x.firstUnknown(2), 5);
        x.recover(2);
        is("all are known", x.firstUnknown(2), -1);
        x.addCopy(1, 0);
        x.lose(0);
        is("a copy has them", x.firstUnknown(1), -1);
        Doc.says(16, "Returns how many.");
        is("a copy has them", x.known(1), 3);
    }

    private static void gap() {
        Doc.says(18, "Returns the sum, each taken as 0 or more, which is always 0.");
        NotaryBook x = loaded("book 4 0 2");
        is("an empty book", x.gap(), 0);
        is("a full one", allLost().gap(), 0);
        for (int a = 1; a <= 10; a++) {
            begin(x, a % 3, "(a ((b) c)) d");
            x.strikeClause(1);
            interline(x, 1, "x");
            x.strike(3);
            is("an open act", x.gap(), 0);
            if (a % 4 == 0) {
                x.cancel();
            } else {
                x.seal(0, 3);
                x.addCopy(a, a % 3);
                is("a copy", x.gap(), 0);
                if (a % 2 == 0) {
                    x.burn(0);
                }
            }
            is("a sealed or a cancelled act", x.gap(), 0);
            if (x.leaf(a - 1, 0) != LOST) {
                x.lose(a - 1);
            }
        }
        for (int k = 0; k < 8; k++) {
            x.undo();
            is("undo", x.gap(), 0);
        }
    }

    // ---- reasons

    private static void whyNotSeal() {
        Doc.says(19, "Returns 0 if it can; otherwise 1 no act is open; 2 there are fewer witnesses than NEED; 3 marks is not"
                + " MARKS; 4 no word of it stands; the first that applies.");
        NotaryBook x = loaded("book 4 2 2");
        is("no act, too few witnesses, other marks", x.whyNotSeal(0, 99), 1);
        begin(x, 0, "a");
        is("it can", x.whyNotSeal(2, 0), 0);
        is("too few witnesses", x.whyNotSeal(1, 0), 2);
        is("too few witnesses, other marks", x.whyNotSeal(1, 1), 2);
        is("other marks", x.whyNotSeal(2, 1), 3);
        is("many other marks", x.whyNotSeal(9, 99), 3);
        x.strike(0);
        is("all three", x.whyNotSeal(1, 0), 2);
        is("other marks, no word", x.whyNotSeal(2, 0), 3);
        is("too few witnesses, no word", x.whyNotSeal(1, 1), 2);
        is("no word", x.whyNotSeal(2, 1), 4);
        interline(x, 0, "b");
        is("a word stands", x.whyNotSeal(2, 2), 0);
        x.seal(2, 2);
        is("it is sealed", x.whyNotSeal(2, 2), 1);
        begin(x, 0, "a");
        x.cancel();
        is("it is cancelled", x.whyNotSeal(2, 0), 1);
        NotaryBook y = loaded("book 4 0 2;act sale (a) b");
        for (int k = 0; k < 99; k++) {
            y.strikeClause(0);
        }
        is("99 marks", y.whyNotSeal(0, 99), 0);
    }

    private static void whyNotCopy() {
        Doc.says(20, "Returns 0 if it can; otherwise 1 it is not sealed; 2 a written word that the copy would have is not"
                + " known; 3 there are 8 copies; the first that applies.");
        NotaryBook x = loaded("book 4 0 2;act sale " + words(12) + ";seal 0 0;act will a;cancel;act loan b");
        for (int grade = 0; grade <= 2; grade++) {
            is("it can", x.whyNotCopy(1, grade), 0);
            is("it is cancelled", x.whyNotCopy(2, grade), 1);
            is("it is open", x.whyNotCopy(3, grade), 1);
        }
        x.lose(1);
        is("the middle is not known", x.whyNotCopy(1, 0), 2);
        is("the middle is not known", x.whyNotCopy(1, 1), 2);
        is("the ends are known", x.whyNotCopy(1, 2), 0);
        for (int c = 0; c < 7; c++) {
            x.addCopy(1, 2);
        }
        is("7 copies", x.whyNotCopy(1, 2), 0);
        x.addCopy(1, 2);
        is("8 copies", x.whyNotCopy(1, 2), 3);
        is("8 copies, and a word is not known", x.whyNotCopy(1, 1), 2);
        is("8 copies, and it is cancelled", x.whyNotCopy(2, 0), 1);
        x.lose(2);
        is("a copy has the last word", x.whyNotCopy(1, 2), 3);
        x.lose(3);
        is("not known, and it is open", x.whyNotCopy(3, 0), 1);
        for (int c = 0; c < 8; c++) {
            x.burn(0);
        }
        is("no copy has the last word", x.whyNotCopy(1, 2), 2);
        x.recover(2);
        x.lose(0);
        is("the first word is not known", x.whyNotCopy(1, 2), 2);
    }

    private static void whyNotStrike() {
        Doc.says(21, "Returns 0 if it can; otherwise 1 no act is open; 2 there is no such word; 3 it is struck; the first that"
                + " applies.");
        NotaryBook x = loaded("book 4 0 2;act sale a b c;strike 0;seal 0 1");
        for (int i : new int[] {0, 1, -1, 3, Integer.MIN_VALUE, Integer.MAX_VALUE}) {
            is("no act is open", x.whyNotStrike(i), 1);
        }
        begin(x, 0, "d e (f)");
        x.strikeClause(2);
        is("the first, which is struck in the other act", x.whyNotStrike(0), 0);
        is("the second", x.whyNotStrike(1), 0);
        is("it is struck", x.whyNotStrike(2), 3);
        for (int i : outside(0, 2)) {
            is("no such word " + i, x.whyNotStrike(i), 2);
        }
        Doc.says(21, "`i`: number of the word");
        x.strike(0);
        is("it is struck", x.whyNotStrike(0), 3);
        is("the next is not", x.whyNotStrike(1), 0);
        x.cancel();
        is("it is cancelled", x.whyNotStrike(1), 1);
    }

    // ---- what would be

    private static void unknownIf() {
        Doc.says(22, "Returns how many; 0 if it is lost.");
        NotaryBook x = loaded("book 4 0 2;act sale a b c d e;seal 0 0");
        is("a full leaf", x.unknownIf(0), 4);
        is("one word", x.unknownIf(1), 1);
        x.lose(1);
        is("it is lost", x.unknownIf(1), 0);
        is("it is loose", x.unknownIf(0), 4);
        x.recover(1);
        x.addCopy(1, 2);
        is("a copy has one", x.unknownIf(0), 3);
        is("a copy has the only one", x.unknownIf(1), 0);
        String before = Shot.of(x);
        for (int l = 0; l < 2; l++) {
            int more = x.unknownIf(l);
            is("nothing is changed", Shot.of(x), before);
            int now = x.count(15);
            x.lose(l);
            is("as it is then", x.count(15) - now, more);
            x.undo();
            before = Shot.of(x);
        }
    }

    private static void worstLeaf() {
        Doc.says(23, "Returns the leaf, of several the smallest number; NONE if there are no leaves.");
        is("no leaves", loaded("book 4 0 2").worstLeaf(), -1);
        NotaryBook x = loaded("book 4 0 2;act sale " + words(11) + ";seal 0 0");
        is("of two equal ones the first", x.worstLeaf(), 0);
        x.lose(0);
        is("the other one", x.worstLeaf(), 1);
        x.lose(1);
        is("the last", x.worstLeaf(), 2);
        x.lose(2);
        is("all are lost, and all are equal", x.worstLeaf(), 0);
        x.recover(2);
        x.recover(1);
        x.recover(0);
        x.addCopy(1, 2);
        is("a copy has a word of the first", x.worstLeaf(), 1);
        x.addCopy(1, 0);
        is("copies have all", x.worstLeaf(), 0);
    }

    private static void shakenOut() {
        Doc.says(24, "Returns how many times the book would have to be shaken until a shake loses no leaf, that one not"
                + " counted.");
        NotaryBook x = loaded("book 4 0 4;act sale " + words(9) + ";cancel");
        is("no loose leaf", x.shakenOut(), 0);
        x.lose(2);
        is("one falls", x.shakenOut(), 1);
        begin(x, 0, "a");
        leavesAre(x, FAST, LOOSE, FAST);
        String before = Shot.of(x);
        is("one falls, and then its mate", x.shakenOut(), 2);
        is("nothing is changed", Shot.of(x), before);
        for (int k = 1; k >= 0; k--) {
            is("a leaf falls", x.shake(), 1);
            is("once less", x.shakenOut(), k);
        }
        is("none falls", x.shake(), 0);
        is("no leaves", loaded("book 4 0 2").shakenOut(), 0);
        Doc.says(24, "Returns how many.");
        NotaryBook y = loaded("book 4 0 2;act sale " + words(48) + ";cancel");
        for (int l = 0; l < 12; l += 2) {
            y.lose(l);
        }
        is("six fall at once", y.shakenOut(), 1);
        is("six", y.shake(), 6);
    }

    private static void leavesFor() {
        Doc.says(25, "Returns how many; NONE if there would be more than 12 leaves.");
        for (int room = 4; room <= 20; room++) {
            for (int there : new int[] {0, 1, room - 1, room, room + 1, 12 * room - 1, 12 * room}) {
                NotaryBook x = loaded("book " + room + " 0 2" + (there == 0 ? "" : ";act sale " + words(there)));
                int leaves = (there + room - 1) / room;
                for (int more : new int[] {0, 1, room - 1, room, 12 * room - there - 1, 12 * room - there,
                        12 * room - there + 1, 240}) {
                    int then = (there + more + room - 1) / room;
                    if (more >= 0 && more <= 240) {
                        is(more + " behind " + there, x.leavesFor(more), then > 12 ? -1 : then - leaves);
                    }
                }
            }
        }
        Doc.says(25, "`words`: 0 to 240");
        NotaryBook y = loaded("book 20 0 2");
        is("none", y.leavesFor(0), 0);
        is("all", y.leavesFor(240), 12);
        Doc.says(25, "if words is out of range");
        for (int words : outside(0, 240)) {
            refused(ARGUMENT, y, words + " words", () -> y.leavesFor(words));
        }
        NotaryBook full = loaded("book 20 0 2;act sale " + words(240));
        is("a full book", full.leavesFor(0), 0);
        is("one word more", full.leavesFor(1), -1);
    }

    private static void copyWords() {
        Doc.says(26, "Returns how many words a copy of an act would have, interlined ones, too, whether it can be made or not.");
        NotaryBook x = loaded("book 4 0 2;act sale a b c;strike 1;insert 1 x;insert 1 y;seal 0 3;act will d;cancel;"
                + "act loan e f g h;strike 0;strike 1;strike 2;insert 0 z");
        int[][] due = {{4, 2, 2}, {1, 1, 1}, {2, 1, 1}};
        for (int round = 0; round < 3; round++) {
            for (int a = 1; a <= 3; a++) {
                for (int grade = 0; grade <= 2; grade++) {
                    is("grade " + grade, x.copyWords(a, grade), due[a - 1][grade]);
                }
            }
            for (int c = 0; c < 8 && round == 0; c++) {
                x.addCopy(1, 2);
            }
            for (int l = 0; l < 2 && round == 1; l++) {
                x.burn(0);
                x.lose(l);
            }
        }
        Doc.says(26, "Returns how many.");
        x.strike(3);
        is("no written word stands", x.copyWords(3, 1) + x.copyWords(3, 2), 0);
        is("an interlined one does", x.copyWords(3, 0), 1);
    }

    private static void bestCopy() {
        Doc.says(27, "Returns GRADE, of several the greatest one; NONE if none can be made.");
        NotaryBook x = loaded("book 4 0 2;act sale " + words(12) + ";seal 0 0;act will a;cancel;act loan b");
        is("0 and 1 are equal", x.bestCopy(1), 1);
        is("it is cancelled", x.bestCopy(2), -1);
        is("it is open", x.bestCopy(3), -1);
        x.lose(1);
        is("2 can be made", x.bestCopy(1), 2);
        x.lose(2);
        is("none can", x.bestCopy(1), -1);
        x.recover(2);
        x.recover(1);
        x.addCopy(1, 1);
        is("another has all", x.bestCopy(1), 2);
        x.burn(0);
        for (int c = 0; c < 7; c++) {
            x.addCopy(1, 2);
        }
        is("the others have two", x.bestCopy(1), 1);
        x.addCopy(1, 2);
        is("there are 8 copies", x.bestCopy(1), -1);
        is("two words", loaded("book 4 0 2;act sale a b;seal 0 0").bestCopy(1), 2);
        is("three words", loaded("book 4 0 2;act sale a b c;seal 0 0").bestCopy(1), 1);
        is("no written word stands", loaded("book 4 0 2;act sale a;strike 0;insert 0 b;seal 0 2;lose 0").bestCopy(1), 2);
        NotaryBook other = loaded("book 4 0 2;act sale a b c;seal 0 0;act sale d e f;seal 0 0;copy 2 0");
        is("a copy of another act", other.bestCopy(1), 1);
        other.burn(0);
        is("the second act", other.bestCopy(2), 1);
        other.addCopy(2, 1);
        is("a copy has it all", other.bestCopy(2), 2);
        NotaryBook behind = loaded("book 4 0 2;act sale " + words(12) + ";cancel;act sale d e f;seal 0 0");
        is("a short act far behind", behind.bestCopy(2), 1);
    }

    private static void standingIf() {
        Doc.says(28, "Returns how many.");
        NotaryBook x = loaded("book 4 0 2;act sale a (b (c d) e) f;insert 2 x");
        is("a word", x.standingIf(0, false), 6);
        is("an inner clause", x.standingIf(2, true), 5);
        is("an outer clause", x.standingIf(1, true), 3);
        is("nothing is changed", x.act(1, 5), 7);
        Doc.says(28, "`isClause`: whether the clause is struck");
        x.strikeClause(1);
        is("all of it is struck", x.standingIf(4, true), 3);
        is("a word of it", x.standingIf(4, false), 3);
        Doc.says(28, "if whyNotStrike() tells 1 or 2 (a word that is struck may be told), or the clause is asked for and the"
                + " word is in none");
        answers("a struck word", () -> x.standingIf(3, false));
        for (int i : outside(0, 5)) {
            refused(ARGUMENT, x, "no such word " + i, () -> x.standingIf(i, false));
            refused(ARGUMENT, x, "no such word " + i, () -> x.standingIf(i, true));
        }
        refused(ARGUMENT, x, "in no clause", () -> x.standingIf(0, true));
        refused(ARGUMENT, x, "in no clause", () -> x.standingIf(5, true));
        x.strike(5);
        refused(ARGUMENT, x, "struck, and in no clause", () -> x.standingIf(5, true));
        is("struck", x.standingIf(5, false), 2);
        Doc.says(28, "`i`: number of the word");
        is("the first", x.standingIf(0, false), 1);
        x.seal(0, 3);
        refused(ARGUMENT, x, "no act is open", () -> x.standingIf(0, false));
        refused(ARGUMENT, x, "no act is open", () -> x.standingIf(1, true));
    }

    // ---- words that are looked for

    private static void findWord() {
        Doc.says(29, "Looks for the word that the first n bytes of the input buffer are (no word stands if they are none),"
                + " written or interlined, known or not, in acts of all kinds, cancelled ones, too, and empties the buffer.");
        NotaryBook x = loaded("book 4 0 2;act sale a b;strike 1;insert 1 c;cancel;act will d;seal 0 0;act loan e;strike 0");
        String[] words = {"a", "b", "c", "d", "e", "f"};
        int[] due = {1, 0, 1, 2, 0, 0};
        for (int lost = 0; lost < 2; lost++) {
            for (int k = 0; k < 6; k++) {
                is("the word " + words[k], find(x, words[k]), due[k]);
                is("the buffer", x.buffered(), 0);
            }
            if (lost == 0) {
                x.lose(0);
            }
        }
        for (String bytes : new String[] {"a ", " a", "7", "(", ";", "A", "a b", "(a)", "\u00e1", "\0", "-a", "^c"}) {
            is("the bytes " + bytes, find(x, bytes), 0);
            is("the buffer", x.buffered(), 0);
        }
        is("it is no change", x.undoable(), 1);

        Doc.says(29, "Returns the number of the first act in which it stands, 0 if it stands in none.");
        NotaryBook y = loaded("book 20 0 2");
        for (int a = 1; a <= 10; a++) {
            is("in none yet", find(y, words(a).substring(2 * a - 2)), 0);
            begin(y, 0, words(a));
            y.cancel();
            is("the last act", find(y, words(a).substring(2 * a - 2)), a);
            is("the first one", find(y, "a"), 1);
        }
        is("in none of ten", find(y, "zz"), 0);
        NotaryBook z = loaded("book 4 0 2;act sale a b;cancel;act sale a c;insert 0 v;insert 0 w;insert 1 x;insert 1 y");
        for (String word : new String[] {"v", "w", "x", "y"}) {
            is("interlined in the second act alone", find(z, word), 2);
        }
        is("in neither", find(z, "vw"), 0);
    }

    private static void findWordLimits() {
        Doc.says(29, "`n`: how many bytes");
        NotaryBook x = loaded("book 4 0 2;act sale abcdefgh;cancel;act sale a;cancel;act sale abcdefg");
        int[] due = {0, 2, 0, 0, 0, 0, 0, 3, 1, 0, 0};
        for (int n = 0; n <= 10; n++) {
            put(x, "abcdefghij");
            is("the first " + n, x.findWord(n), due[n]);
            is("the buffer", x.buffered(), 0);
        }
        is("none of none", x.findWord(0), 0);
        for (int k = 0; k < 30; k++) {
            x.append(0x61616161, 0x61616161, 0x61616161, 0x61616161, 0x61616161);
        }
        is("all of a full buffer", x.findWord(600), 0);
        is("the buffer", x.buffered(), 0);
        Doc.says(29, "if n is negative or greater than the number of bytes in the buffer");
        for (int n : outside(0, 0)) {
            refused(INDEX, x, n + " of none", () -> x.findWord(n));
        }
        put(x, "a");
        for (int n : outside(0, 20)) {
            refused(INDEX, x, n + " of twenty", () -> x.findWord(n));
        }
        is("the bytes stay", x.findWord(1), 2);
    }

    private static void longest() {
        Doc.says(30, "Returns the word, of several the smallest number; NONE if none stands.");
        NotaryBook x = loaded("book 4 0 2;act will abcdefgh;cancel;act sale a bb (cc) d eee");
        is("the last", x.longest(2), 4);
        x.strike(4);
        is("of two the first", x.longest(2), 1);
        x.strike(1);
        is("the other", x.longest(2), 2);
        x.strikeClause(2);
        is("of two the first", x.longest(2), 0);
        interline(x, 0, "abcdefgh");
        is("written ones alone", x.longest(2), 0);
        x.strike(0);
        is("the only one", x.longest(2), 3);
        x.strike(3);
        is("none stands", x.longest(2), -1);
        is("eight letters", x.longest(1), 0);
        x.cancel();
        begin(x, 0, "longer a");
        is("not the first word of the next act", x.longest(2), -1);
        is("it is the longest there", x.longest(3), 0);
    }

    private static void common() {
        Doc.says(31, "Returns how many (each one, also if it is written several times).");
        NotaryBook x = loaded("book 4 0 2;act sale a b a c a;cancel;act will a d c;insert 0 b;strike 2;cancel;act loan b b");
        is("three times the same", x.common(1, 2), 3);
        is("once", x.common(2, 1), 1);
        is("not the interlined one", x.common(3, 2), 0);
        is("twice", x.common(3, 1), 2);
        is("once", x.common(1, 3), 1);
        is("with itself", x.common(1, 1), 5);
        is("with itself, but for the struck one", x.common(2, 2), 2);
        x.strike(0);
        is("one stands", x.common(3, 1), 1);
        is("it stands there", x.common(1, 3), 1);
        x.strike(1);
        is("none stands", x.common(3, 1), 0);
        is("none stands there", x.common(1, 3), 0);
        Doc.says(31, "`other`: number of an act");
        for (int other : outside(1, 3)) {
            refused(INDEX, x, "act " + other, () -> x.common(1, other));
        }
    }

    // ---- other numbers

    private static void quotients() {
        Doc.says(32, "Returns the quotient; 0.0f without words.");
        is("without words", loaded("book 4 0 2").knownShare(), 0.0f);
        NotaryBook x = loaded("book 4 0 2;act sale " + words(13) + ";cancel");
        for (int lost = 0; lost < 4; lost++) {
            int known = lost == 3 ? 1 : 13 - 4 * lost;
            is("known words", x.knownShare(), (float) known / 13.0f);
            is("in thirteenths", x.knownShare() * 13.0f > known - 0.001f && x.knownShare() * 13.0f < known + 0.001f, true);
            x.lose(lost);
        }
        is("none", x.knownShare(), 0.0f);
        Doc.says(33, "Returns the quotient; 0.0 without any.");
        NotaryBook y = loaded("book 4 0 2;act sale a b;cancel");
        is("without sealed acts", y.meanWords(), 0.0);
        begin(y, 0, "a");
        is("an open one", y.meanWords(), 0.0);
        y.seal(0, 0);
        is("one of one word", y.meanWords(), 1.0);
        begin(y, 0, "a");
        y.seal(0, 0);
        begin(y, 0, "a b");
        interline(y, 0, "c");
        y.strike(1);
        y.seal(0, 2);
        is("four thirds", y.meanWords(), 4.0 / 3.0);
        y.lose(0);
        is("known or not", y.meanWords(), 4.0 / 3.0);
        NotaryBook ten = loaded("book 20 0 2");
        for (int a = 1; a <= 10; a++) {
            begin(ten, 0, words(a));
            ten.seal(0, 0);
            is("acts of 1 to " + a + " words", ten.meanWords(), (a + 1) / 2.0);
        }
        ten.undo();
        is("the last one is open", ten.meanWords(), 5.0);
        ten.undo();
        is("the last one is gone", ten.meanWords(), 5.0);
    }

    // ---- texts

    private static void written(NotaryBook x, int bytes, String want) {
        is("bytes", bytes, want.length());
        is("the text", text(x, bytes), want);
    }

    private static void writeAct() {
        Doc.says(34, "with a blank between two (also behind ( and ahead of )), a clause in round brackets; a word that is struck"
                + " has a hyphen (byte 45) ahead of it; a word that is not known is a question mark (byte 63) alone; an"
                + " interlined word comes behind its word with a circumflex (byte 94) ahead of it.");
        NotaryBook x = loaded("book 4 0 2;act sale a;cancel;act will ((((b)))) c (d (e)) f;insert 0 x;insert 0 y;strike 1;"
                + "insert 1 z;out 3");
        written(x, x.writeAct(1), "a");
        written(x, x.writeAct(2), "( ( ( ( b ^x ^y ) ) ) ) -c ^z ( d ( -e ) ) f");
        x.lose(0);
        written(x, x.writeAct(1), "?");
        written(x, x.writeAct(2), "( ( ( ( ? ^x ^y ) ) ) ) ? ^z ( ? ( -e ) ) f");
        Doc.says(34, "Returns the number of bytes of the text.");
        NotaryBook y = loaded("book 20 0 2;act sale " + words(240));
        is("240 words", y.writeAct(1), 479);
        is("the first", y.textByte(0), (int) 'a');
        is("the last", y.textByte(478), 'a' + 239 % 26);
        is("a short one in its place", x.writeAct(1), 1);
        index("no more of it", () -> x.textByte(1));
    }

    private static void writeStanding() {
        Doc.says(35, "with a blank between two, interlined ones behind theirs (also behind one that is struck); a written word"
                + " that is not known is a question mark; a full stop (byte 46) alone without any.");
        NotaryBook x = loaded("book 4 0 2;act sale (a) b c d e;insert 0 x;insert 0 y;strike 1;insert 1 z;out 0;strike 4");
        written(x, x.writeStanding(1), "x y z c d");
        x.lose(0);
        written(x, x.writeStanding(1), "x y z ? ?");
        x.recover(0);
        x.lose(1);
        written(x, x.writeStanding(1), "x y z c d");
        NotaryBook behind = loaded("book 4 0 2;act sale a b c;cancel;act will d e f;lose 1");
        written(behind, behind.writeStanding(2), "d ? ?");
        written(behind, behind.writeAct(2), "d ? ?");
        NotaryBook y = loaded("book 4 0 2;act sale a;strike 0;lose 0");
        written(y, y.writeStanding(1), ".");
        interline(y, 0, "b");
        written(y, y.writeStanding(1), "b");
        Doc.says(35, "Returns the number of bytes of the text.");
        is("one byte", y.writeStanding(1), 1);
    }

    private static void writeLeaf() {
        Doc.says(36, "the written words on it, with a blank between two, the number of an act and a colon (byte 58) ahead of its"
                + " first word; a question mark alone if it is lost.");
        NotaryBook x = loaded("book 4 0 2;act sale a b c;cancel;act sale d;cancel;act sale e (f);"
                + "insert 0 x;strike 1;lose 0");
        written(x, x.writeLeaf(0), "?");
        written(x, x.writeLeaf(1), "3:e f");
        x.recover(0);
        written(x, x.writeLeaf(0), "1:a b c 2:d");
        x.lose(1);
        written(x, x.writeLeaf(0), "1:a b c 2:d");
        NotaryBook ten = loaded("book 4 0 2");
        for (int a = 1; a <= 10; a++) {
            begin(ten, 0, "a");
            ten.cancel();
        }
        written(ten, ten.writeLeaf(2), "9:a 10:a");
        ten.undo();
        ten.undo();
        written(ten, ten.writeLeaf(2), "9:a");
        begin(ten, 0, "b c d e");
        written(ten, ten.writeLeaf(2), "9:a 10:b c d");
        written(ten, ten.writeLeaf(3), "e");
        NotaryBook copied = loaded("book 4 0 2;act sale a;seal 0 0;copy 1 0;lose 0");
        written(copied, copied.writeLeaf(0), "?");
        Doc.says(36, "Returns the number of bytes of the text.");
        NotaryBook y = loaded("book 20 0 2;act sale " + words(240));
        is("the last leaf", y.writeLeaf(11), 39);
        is("the first one", y.writeLeaf(0), 41);
    }

    private static void writeCopy() {
        Doc.says(37, "the words that it has, with a blank between two, interlined ones behind theirs (also behind one that is"
                + " struck); a full stop alone without any.");
        NotaryBook x = loaded("book 4 0 2;act will z;cancel;act sale (a) b c d e;insert 0 x;insert 0 y;strike 1;insert 1 z;"
                + "strike 4;seal 0 5;copy 2 0;copy 2 1;copy 2 2;lose 0;lose 1");
        written(x, x.writeCopy(0), "a x y z c d");
        written(x, x.writeCopy(1), "a c d");
        written(x, x.writeCopy(2), "a d");
        NotaryBook y = loaded("book 4 0 2;act sale a;strike 0;insert 0 b;seal 0 2;copy 1 0;copy 1 1;copy 1 2");
        written(y, y.writeCopy(0), "b");
        written(y, y.writeCopy(1), ".");
        written(y, y.writeCopy(2), ".");
        begin(y, 0, "c");
        interline(y, 0, "d");
        written(y, y.writeCopy(0), "b");
        Doc.says(37, "Returns the number of bytes of the text.");
        is("one byte", y.writeCopy(2), 1);
    }

    private static void textByte() {
        Doc.says(38, "if there is no such byte (always, before the first text)");
        NotaryBook x = loaded("book 4 0 2;act sale abc");
        for (int i : new int[] {0, -1, 1, Integer.MIN_VALUE, Integer.MAX_VALUE}) {
            refused(INDEX, x, "byte " + i + " before the first text", () -> x.textByte(i));
            refused(INDEX, new NotaryBook(), "byte " + i + " of a new object", () -> new NotaryBook().textByte(i));
        }
        x.writeAct(1);
        for (int i : outside(0, 2)) {
            refused(INDEX, x, "byte " + i, () -> x.textByte(i));
        }
        refused(INDEX, x, "no text is written", () -> x.writeAct(2));
        Doc.says(38, "Returns the byte.");
        is("the first", x.textByte(0), (int) 'a');
        is("the last", x.textByte(2), (int) 'c');
        Doc.says(38, "`i`: index of the byte, from 0");
        is("the second", x.textByte(1), (int) 'b');
    }
}
