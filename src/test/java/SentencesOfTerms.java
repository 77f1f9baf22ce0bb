/** The sentences of the document's terms, sections 1 to 6 and 8, that name a boundary; section 7 is in SentencesOfTexts. */
final class SentencesOfTerms extends Check {
    private SentencesOfTerms() {
    }

    static void run() {
        acts();
        clauses();
        words();
        leaves();
        gatherings();
        marks();
        seals();
        lostLeaves();
        shaking();
        leavesThatCome();
        leavesThatAreFoundByWords();
        copies();
        grades();
        known();
        refusals();
        changes();
        kept();
        whatStays();
    }

    private static void says(String words) {
        Doc.says(0, words);
    }

    // ---- 1. Acts and words

    private static void acts() {
        says("The book has at most 10 acts, numbered from 1 in the order in which they are begun.");
        NotaryBook x = loaded("book 20 0 2");
        StringBuilder text = new StringBuilder("book 20 0 2");
        for (int a = 1; a <= 10; a++) {
            String word = words(a).substring(2 * a - 2);
            is("the number of an act", begin(x, 0, word), a);
            x.cancel();
            is("acts", x.count(3), a);
            text.append(";act sale ").append(word).append(";cancel");
        }
        put(x, "z");
        refused(ARGUMENT, x, "an 11th act", () -> x.begin(0, 1));
        x.findWord(0);
        for (int a = 1; a <= 10; a++) {
            is("the act of the word", find(x, words(a).substring(2 * a - 2)), a);
        }
        isBook(text.toString());
        hasError(text + ";act", 4, text.length() + 1);

        says("An act has KIND (0 sale, 1 will, 2 loan)");
        NotaryBook y = loaded("book 4 0 2;act sale a;cancel;act will a;cancel;act loan a;cancel");
        for (int kind = 0; kind <= 2; kind++) {
            begin(y, kind, "a");
            y.cancel();
            is("by a text", y.act(1 + kind, 0), kind);
            is("by a call", y.act(4 + kind, 0), kind);
        }

        says("An act is open when it is begun; one act at most is open, always the last one: a further one can be begun"
                + " when it is sealed or cancelled.");
        NotaryBook z = loaded("book 4 0 2");
        is("none is open", z.count(14), 0);
        begin(z, 0, "a");
        is("the first is open", z.count(14), 1);
        put(z, "b");
        refused(ARGUMENT, z, "two open acts", () -> z.begin(0, 1));
        z.seal(0, 0);
        is("none is open", z.count(14), 0);
        is("behind a sealed one", z.begin(0, 1), 2);
        is("the second is open", z.count(14), 2);
        is("the first is not", z.act(1, 1), 1);
        z.cancel();
        is("none is open", z.count(14), 0);
        is("behind a cancelled one", begin(z, 0, "c"), 3);
        is("the third is open", z.count(14), 3);
        hasError("book 4 0 2;act sale a;act sale b", 3, 22);
        isBook("book 4 0 2;act sale a;seal 0 0;act sale b");
        isBook("book 4 0 2;act sale a;cancel;act sale b");
    }

    private static void clauses() {
        says("a clause has words and clauses in it, at least one");
        NotaryBook x = loaded("book 20 0 2");
        String head = "book 20 0 2;act sale ";
        for (String body : new String[] {"()", "a ()", "(a ())", "(())", "()a", "(a)()", "((a)())"}) {
            hasError(head + body, 1, head.length() + body.indexOf("()") + 1);
            put(x, body);
            refused(ARGUMENT, x, "the body " + body, () -> x.begin(0, body.length()));
            x.findWord(0);
        }
        for (String body : new String[] {"(a)", "((a))", "((a)b)", "(a(b))", "((a)(b))"}) {
            isBook(head + body);
            is("the body " + body, begin(x, 0, body), 1);
            x.undo();
        }

        says("at most 4 clauses are in one another");
        for (String body : new String[] {"((((a))))", "((((a)))) ((((b))))", "((((a) (b))))", "(a (b (c (d) (e)) f))"}) {
            isBook(head + body);
            begin(x, 0, body);
            is("the greatest depth", x.act(1, 7), 4);
            x.undo();
        }
        for (String body : new String[] {"((((#a)))))", "((((a)(b#c)))))", "(a(b(c(d#e)))))", "((((a))))((((#b)))))"}) {
            String five = body.replace('#', '(');
            hasError(head + five, 4, head.length() + body.indexOf('#'));
            put(x, five);
            refused(ARGUMENT, x, "the body " + five, () -> x.begin(0, five.length()));
            x.findWord(0);
        }
    }

    private static void words() {
        says("A word has 1 to 8 letters a to z.");
        String head = "book 4 0 2;act sale ";
        NotaryBook x = loaded(head + "a");
        String all = "abcdefghijklmnopqrstuvwxyz";
        for (int size = 1; size <= 8; size++) {
            for (int from : new int[] {0, 26 - size}) {
                String word = all.substring(from, from + size);
                NotaryBook y = loaded(head + word);
                is("its letters", y.word(1, 0, 4), size);
                is("its last letter", y.letter(1, 0, size - 1), (int) word.charAt(size - 1));
                answers("it is interlined", () -> interline(x, 0, word));
                is("interlined letters", x.innerLetter(1, 0, 0, size - 1), (int) word.charAt(size - 1));
                is("no more of them", x.innerLetter(1, 0, 0, size), -1);
                x.undo();
            }
        }
        for (int size = 9; size <= 20; size++) {
            int n = size;
            hasError(head + all.substring(0, size), 1, head.length());
            put(x, all.substring(0, size));
            refused(ARGUMENT, x, size + " letters", () -> x.interline(0, n));
            x.findWord(0);
        }
        for (char sign : new char[] {'`', '{', '@', 'A', 'Z', '[', '0', (char) ('a' + 128)}) {
            hasError(head + sign, 1, head.length());
            hasError(head + "a" + sign, 1, head.length() + 1);
            put(x, "a" + sign);
            refused(ARGUMENT, x, "the sign " + sign, () -> x.interline(0, 2));
            x.findWord(0);
        }

        says("The written words of an act are numbered from 0 in their order, through all clauses.");
        NotaryBook z = loaded("book 4 0 2;act will x;cancel;act sale a (b (c) d) ((e)) f");
        for (int i = 0; i < 6; i++) {
            is("word " + i, z.letter(2, i, 0), 'a' + i);
        }
        for (int i : outside(0, 5)) {
            refused(INDEX, z, "word " + i, () -> z.letter(2, i, 0));
        }
    }

    // ---- 2. Leaves

    private static void leaves() {
        says("lie on leaves, ROOM (4 to 20) on each, without any space between acts");
        for (int room = 4; room <= 20; room++) {
            NotaryBook x = loaded("book " + room + " 0 2");
            begin(x, 0, words(room - 1));
            x.cancel();
            begin(x, 0, "a b");
            is("ROOM", x.count(0), room);
            is("the last word on the leaf", x.word(2, 0, 0), 0);
            is("the first one on the next", x.word(2, 1, 0), 1);
            is("a full leaf", x.leaf(0, 1), room);
            is("one word", x.leaf(1, 1), 1);
        }
        for (int room : new int[] {0, 3, 21, 99}) {
            hasError("book " + room + " 0 2", 2, 5);
        }

        says("leaves are numbered from 0; there are as many as it takes, at most 12");
        is("no words", loaded("book 4 0 2").count(5), 0);
        for (int room = 4; room <= 20; room++) {
            String head = "book " + room + " 0 2;act sale ";
            for (int n : new int[] {1, room - 1, room, room + 1, 2 * room, 2 * room + 1, 11 * room, 12 * room - 1, 12 * room}) {
                NotaryBook x = loaded(head + words(n) + ";cancel");
                int leaves = n / room + (n % room == 0 ? 0 : 1);
                is("leaves of " + n + " words", x.count(5), leaves);
                answers("the last leaf", () -> x.leaf(leaves - 1, 0));
                refused(INDEX, x, "one behind it", () -> x.leaf(leaves, 0));
            }
            endsWrong(head + words(12 * room + 1), 4);
            NotaryBook full = loaded(head + words(12 * room) + ";cancel");
            put(full, "a");
            refused(ARGUMENT, full, "a 13th leaf", () -> full.begin(0, 1));
        }
    }

    private static void gatherings() {
        says("Leaves are sewn in gatherings of GATHER (2 to 4): the gathering of a leaf is its number divided by GATHER,"
                + " rounded down.");
        String body = ";act sale " + words(48);
        for (int gather = 2; gather <= 4; gather++) {
            NotaryBook x = loaded("book 4 0 " + gather + body);
            is("GATHER", x.count(2), gather);
            for (int l = 0; l < 12; l++) {
                is("the gathering of " + l, x.leaf(l, 4), l / gather);
            }
        }
        for (int gather : new int[] {0, 1, 5, 99}) {
            hasError("book 4 0 " + gather, 2, 9);
        }

        says("The mate of the leaf that is the j-th one (from 0) of its gathering is the one that is the j-th one from its"
                + " end (GATHER less 1 less j); a leaf that is its own mate has none.");
        int[][] mates = {
            {1, 0, 3, 2, 5, 4, 7, 6, 9, 8, 11, 10},
            {2, -1, 0, 5, -1, 3, 8, -1, 6, 11, -1, 9},
            {3, 2, 1, 0, 7, 6, 5, 4, 11, 10, 9, 8},
        };
        for (int gather = 2; gather <= 4; gather++) {
            NotaryBook x = loaded("book 4 0 " + gather + body);
            for (int l = 0; l < 12; l++) {
                is("the mate of " + l, x.leaf(l, 3), mates[gather - 2][l]);
                x.lose(l);
                for (int other = 0; other < 12; other++) {
                    int due = other == l ? LOST : other == mates[gather - 2][l] ? LOOSE : FAST;
                    is("leaf " + other + " when " + l + " is lost", x.leaf(other, 0), due);
                }
                x.undo();
            }
        }
    }

    // ---- 3. Changes and seals

    private static void marks() {
        says("words can be interlined behind a written word (at most 4 behind each)");
        NotaryBook x = loaded("book 4 0 2;act sale a b");
        for (int i = 0; i < 2; i++) {
            int at = i;
            for (int j = 0; j < 4; j++) {
                is("one more", interline(x, i, "x"), 3 + 4 * i + j);
                is("interlined", x.word(1, i, 3), j + 1);
            }
            put(x, "x");
            refused(ARGUMENT, x, "a fifth one", () -> x.interline(at, 1));
            x.findWord(0);
        }
        String four = ";insert 0 x;insert 0 x;insert 0 x;insert 0 x";
        isBook("book 4 0 2;act sale a b" + four + four.replace('0', '1'));
        endsWrong("book 4 0 2;act sale a b" + four + ";insert 0", 3);

        says("Each call or line that does so is one mark: MARKS of an act (0 at first) becomes 1 greater.");
        String head = "book 4 0 2;act will z;strike 0;cancel;act sale a (b c) d";
        NotaryBook y = loaded(head);
        is("at first", y.act(2, 3), 0);
        y.strike(0);
        is("after strike", y.act(2, 3), 1);
        y.strikeClause(1);
        is("after two words at once", y.act(2, 3), 2);
        y.strikeClause(1);
        is("after none", y.act(2, 3), 3);
        interline(y, 0, "x");
        is("after interline", y.act(2, 3), 4);
        refused(ARGUMENT, y, "a call that throws", () -> y.strike(0));
        is("the other act", y.act(1, 3), 1);
        is("by lines", loaded(head + ";strike 0;out 1;out 1;insert 0 x").act(2, 3), 4);

        says("A word stands if it is written and not struck, or interlined.");
        NotaryBook z = loaded("book 4 0 2;act sale a (b c) d");
        is("written", z.act(1, 5), 4);
        is("one is struck", z.strike(0), 3);
        is("one is interlined behind it", interline(z, 0, "x"), 4);
        z.strikeClause(1);
        is("a clause is struck", z.act(1, 5), 2);
        is("those that stand", text(z, z.writeStanding(1)), "x d");
    }

    private static void seals() {
        says("To seal an act there must be NEED (0 to 4) witnesses or more");
        for (int need = 0; need <= 4; need++) {
            int few = need - 1;
            NotaryBook x = loaded("book 4 " + need + " 2;act sale a");
            is("NEED", x.count(1), need);
            for (int w = 0; w <= 9; w++) {
                is("why not with " + w, x.whyNotSeal(w, 0), w < need ? 2 : 0);
            }
            refused(ARGUMENT, x, "one too few", () -> x.seal(few, 0));
            is("just as many", x.seal(need, 0), 6);
            isBook("book 4 " + need + " 2;act sale a;seal " + need + " 0");
            if (need > 0) {
                endsWrong("book 4 " + need + " 2;act sale a;seal " + few + " 0", 3);
            }
        }
        for (int need : new int[] {5, 9, 99}) {
            hasError("book 4 " + need + " 2", 2, 7);
        }

        says("the marks that are told must be MARKS, and a word of it must stand");
        NotaryBook x = loaded("book 4 0 2;act sale a b;strike 0");
        refused(ARGUMENT, x, "one mark less", () -> x.seal(0, 0));
        refused(ARGUMENT, x, "one mark more", () -> x.seal(0, 2));
        is("one word stands", x.seal(0, 1), 6);
        NotaryBook y = loaded("book 4 0 2;act sale a b;strike 0;strike 1");
        refused(ARGUMENT, y, "no word stands", () -> y.seal(0, 2));
        interline(y, 1, "x");
        is("an interlined one stands", y.seal(0, 3), 6);

        says("Its fee then is 5 for a sale, 3 for a will, 4 for a loan, and 1 for each standing word; CASH becomes greater"
                + " by it.");
        NotaryBook z = loaded("book 20 0 2;act sale a b c;cancel");
        is("a cancelled act has none", z.count(9), 0);
        int[] base = {5, 3, 4};
        int cash = 0;
        for (int kind = 0; kind <= 2; kind++) {
            begin(z, kind, "a b c");
            is("not before it is sealed", z.count(9), cash);
            z.strike(1);
            interline(z, 1, "x");
            interline(z, 1, "y");
            is("the fee", z.seal(0, 3), base[kind] + 4);
            is("it is told", z.act(kind + 2, 10), base[kind] + 4);
            cash += base[kind] + 4;
            is("CASH", z.count(9), cash);
        }
    }

    // ---- 4. Lost leaves

    private static NotaryBook full(int gather, int leaves, String lines) {
        return loaded("book 4 0 " + gather + ";act sale " + words(4 * leaves) + ";cancel" + lines);
    }

    private static void lostLeaves() {
        says("A leaf is fast (at first), loose, or lost.");
        NotaryBook x = full(2, 3, "");
        leavesAre(x, FAST, FAST, FAST);
        x.lose(0);
        leavesAre(x, LOST, LOOSE, FAST);

        says("When a leaf is lost, its mate becomes loose if it is fast.");
        NotaryBook fast = full(2, 4, "");
        fast.lose(3);
        leavesAre(fast, FAST, FAST, LOOSE, LOST);
        fast.lose(2);
        leavesAre(fast, FAST, FAST, LOST, LOST);
        NotaryBook loose = loaded("book 4 0 2;act sale a b c d e;cancel;lose 1;act will f");
        leavesAre(loose, LOOSE, FAST);
        loose.lose(1);
        leavesAre(loose, LOOSE, LOST);
        NotaryBook sewn = full(2, 2, ";lose 0;sew 1");
        sewn.lose(1);
        leavesAre(sewn, LOST, LOST);
        NotaryBook own = full(3, 3, ";lose 1");
        leavesAre(own, FAST, LOST, FAST);
        NotaryBook single = full(2, 1, ";lose 0");
        leavesAre(single, LOST);
    }

    private static void shaking() {
        says("When the book is shaken, all leaves that are loose are lost at once; then their mates that are fast become"
                + " loose.");
        NotaryBook x = full(2, 5, ";lose 0;lose 3");
        leavesAre(x, LOST, LOOSE, LOOSE, LOST, FAST);
        is("both that are loose", x.shake(), 2);
        leavesAre(x, LOST, LOST, LOST, LOST, FAST);
        is("no loose one", x.shake(), 0);
        NotaryBook y = loaded("book 4 0 2;act sale a b c d e;cancel;lose 1;act will f");
        leavesAre(y, LOOSE, FAST);
        is("the mate is not lost with it", y.shake(), 1);
        leavesAre(y, LOST, LOOSE);
        is("but by a further shake", y.shake(), 1);
        leavesAre(y, LOST, LOST);
        leavesAre(loaded("book 4 0 2;act sale a b c d e;cancel;lose 1;act will f;shake"), LOST, LOOSE);
        NotaryBook sewn = full(2, 2, ";lose 0;sew 1");
        is("a fast mate of a lost one stays", sewn.shake(), 0);
        leavesAre(sewn, LOST, FAST);
    }

    private static void leavesThatCome() {
        says("A leaf that comes to the book later is fast, but loose if its mate is lost.");
        NotaryBook x = full(2, 3, ";lose 2");
        begin(x, 0, "a");
        leavesAre(x, FAST, FAST, LOST, LOOSE);
        leavesAre(full(2, 3, ";lose 2;act sale a"), FAST, FAST, LOST, LOOSE);
        NotaryBook fast = full(2, 3, ";lose 0");
        begin(fast, 0, "a");
        leavesAre(fast, LOST, LOOSE, FAST, FAST);
        NotaryBook other = full(2, 4, ";lose 3");
        begin(other, 0, "a");
        leavesAre(other, FAST, FAST, LOOSE, LOST, FAST);
        NotaryBook four = full(4, 2, ";lose 0;lose 1");
        begin(four, 0, words(5));
        leavesAre(four, LOST, LOST, LOOSE, LOOSE);
        NotaryBook own = full(3, 1, ";lose 0");
        begin(own, 0, words(9));
        leavesAre(own, LOST, FAST, LOOSE, FAST);
        NotaryBook found = full(2, 3, ";lose 2;find 2");
        begin(found, 0, "a");
        leavesAre(found, FAST, FAST, FAST, FAST);
    }

    private static void leavesThatAreFoundByWords() {
        says("(A leaf on which further words are written while it is lost is found by that, ahead of leaves that come then:"
                + " it is fast, its mate stays as it is.)");
        String five = "book 4 0 2;act sale " + words(5) + ";cancel";
        NotaryBook loose = loaded(five + ";lose 1");
        put(loose, "()");
        refused(ARGUMENT, loose, "a body that is none", () -> loose.begin(0, 2));
        loose.findWord(0);
        is("a word is not known", loose.count(15), 1);
        begin(loose, 0, "a");
        leavesAre(loose, LOOSE, FAST);
        is("all words are known", loose.count(15), 0);
        NotaryBook lost = loaded(five + ";lose 0;lose 1");
        begin(lost, 0, "a");
        leavesAre(lost, LOST, FAST);
        leavesAre(loaded(five + ";lose 0;lose 1;act sale a"), LOST, FAST);
        NotaryBook ahead = loaded("book 4 0 2;act sale " + words(9) + ";cancel;lose 2");
        begin(ahead, 0, words(4));
        leavesAre(ahead, FAST, FAST, FAST, FAST);
        NotaryBook isFull = full(2, 2, ";lose 1");
        begin(isFull, 0, "a");
        leavesAre(isFull, LOOSE, LOST, FAST);
        NotaryBook stays = loaded(five + ";lose 0");
        begin(stays, 0, "a");
        leavesAre(stays, LOST, LOOSE);
        NotaryBook last = loaded("book 4 0 2;act sale " + words(7) + ";cancel;lose 1");
        begin(last, 0, "a");
        leavesAre(last, LOOSE, FAST);
        last.undo();
        leavesAre(last, LOOSE, LOST);
    }

    // ---- 5. Copies

    private static void copies() {
        says("There are at most 8 copies, numbered from 0, each of a sealed act");
        NotaryBook x = loaded("book 4 0 2;act sale a;seal 0 0;act will b;cancel;act loan c");
        StringBuilder text = new StringBuilder("book 4 0 2;act sale a;seal 0 0");
        for (int c = 0; c < 8; c++) {
            is("its number", x.addCopy(1, c % 3), c);
            is("copies", x.count(8), c + 1);
            text.append(";copy 1 ").append(c % 3);
        }
        for (int c = 0; c < 8; c++) {
            is("its grade", x.copy(c, 1), c % 3);
        }
        refused(ARGUMENT, x, "a 9th copy", () -> x.addCopy(1, 2));
        isBook(text.toString());
        hasError(text + ";copy 1 0", 4, text.length() + 1);
        x.burn(0);
        is("in the place of one that is gone", x.addCopy(1, 0), 7);
        x.burn(0);
        refused(ARGUMENT, x, "a cancelled act", () -> x.addCopy(2, 2));
        refused(ARGUMENT, x, "an open act", () -> x.addCopy(3, 2));

        says("Its fee is 3 for GRADE 0, 2 for 1, 1 for 2; CASH becomes greater by it. A copy that is burnt is gone; its fee"
                + " stays.");
        NotaryBook y = loaded("book 4 0 2;act sale a;seal 0 0");
        for (int grade = 0; grade <= 2; grade++) {
            int cash = y.count(9);
            y.addCopy(1, grade);
            is("the fee", y.count(9) - cash, 3 - grade);
            is("it is told", y.copy(0, 3), 3 - grade);
            y.burn(0);
            is("it stays", y.count(9) - cash, 3 - grade);
            is("the copy is gone", y.count(8), 0);
            is("the sum", y.gap(), 0);
        }
    }

    private static void copyHas(NotaryBook x, int grade, int size, String has, String text) {
        int c = x.addCopy(1, grade);
        is("words of grade " + grade, x.copy(c, 2), size);
        for (int i = 0; i < has.length(); i++) {
            is("grade " + grade + " has word " + i, x.has(c, i), has.charAt(i) == '+');
        }
        is("the text of grade " + grade, text(x, x.writeCopy(c)), text);
        x.burn(c);
    }

    private static void grades() {
        says("with GRADE: 0 has all standing words; 1 has the written words that stand; 2 has the first and the last"
                + " written word that stand (one, if they are the same one; none if none stands)");
        NotaryBook x = loaded("book 4 0 2;act sale a b c d e;strike 0;strike 4;insert 0 x;insert 2 y;seal 0 4");
        copyHas(x, 0, 5, "-+++-", "x b c y d");
        copyHas(x, 1, 3, "-+++-", "b c d");
        copyHas(x, 2, 2, "-+-+-", "b d");
        NotaryBook same = loaded("book 4 0 2;act sale a b c;strike 0;strike 2;insert 1 x;seal 0 3");
        copyHas(same, 0, 2, "-+-", "b x");
        copyHas(same, 1, 1, "-+-", "b");
        copyHas(same, 2, 1, "-+-", "b");
        NotaryBook none = loaded("book 4 0 2;act sale a b;strike 0;strike 1;insert 1 x;seal 0 3");
        copyHas(none, 0, 1, "--", "x");
        copyHas(none, 1, 0, "--", ".");
        copyHas(none, 2, 0, "--", ".");
        NotaryBook two = loaded("book 4 0 2;act sale a b;seal 0 0");
        copyHas(two, 2, 2, "++", "a b");

        says("All written words that it has must be known when it is made.");
        NotaryBook y = loaded("book 4 0 2;act sale " + words(12) + ";seal 0 0;lose 1");
        refused(ARGUMENT, y, "the middle is not known", () -> y.addCopy(1, 0));
        refused(ARGUMENT, y, "the middle is not known", () -> y.addCopy(1, 1));
        is("the ends are", y.addCopy(1, 2), 0);
        y.recover(1);
        y.addCopy(1, 1);
        y.lose(1);
        is("a copy has the middle", y.addCopy(1, 0), 2);
        y.lose(0);
        y.lose(2);
        is("nothing else has any", y.addCopy(1, 1), 3);
    }

    // ---- 6. Known words

    private static void known() {
        says("A written word is known if its leaf is not lost, or if a copy has it.");
        NotaryBook x = loaded("book 4 0 2;act sale a b c d e;seal 0 0");
        is("on a fast leaf", x.word(1, 0, 5), 1);
        x.lose(1);
        is("on a loose leaf", x.word(1, 0, 5), 1);
        is("on a lost leaf", x.word(1, 4, 5), 0);
        x.recover(1);
        x.addCopy(1, 2);
        x.lose(1);
        is("a copy has it", x.word(1, 4, 5), 1);
        x.lose(0);
        is("a copy has another one", x.word(1, 3, 5), 0);
        x.burn(0);
        is("the copy is burnt", x.word(1, 4, 5), 0);
        x.recover(1);
        is("the leaf is found", x.word(1, 4, 5), 1);

        says("Interlined words are always known.");
        NotaryBook y = loaded("book 4 0 2;act sale a b;strike 0;strike 1;insert 1 x;seal 0 3;lose 0");
        is("a copy of them alone", y.whyNotCopy(1, 0), 0);
        is("they are written", text(y, y.writeAct(1)), "? ? ^x");
        is("they stand", text(y, y.writeStanding(1)), "x");
        is("they are found", find(y, "x"), 1);
        is("their letters", y.innerLetter(1, 1, 0, 0), (int) 'x');
    }

    // ---- 8. Exceptions, changes and undo

    private static void refusals() {
        says("If several exceptions apply, the one that is listed first at the method is thrown.");
        NotaryBook x = twoActs();
        put(x, "a");
        refused(INDEX, x, "load", () -> x.load(21));
        refused(INDEX, x, "act", () -> x.act(3, 12));
        refused(INDEX, x, "word of no act", () -> x.word(3, 0, 8));
        refused(INDEX, x, "no word", () -> x.word(1, 7, 8));
        refused(INDEX, x, "clause of no act", () -> x.clause(3, 0, 6));
        refused(INDEX, x, "no clause", () -> x.clause(1, 1, 6));
        refused(INDEX, x, "leaf", () -> x.leaf(3, 6));
        refused(INDEX, x, "copy", () -> x.copy(0, 5));
        refused(INDEX, x, "whyNotCopy", () -> x.whyNotCopy(3, 3));
        refused(INDEX, x, "copyWords", () -> x.copyWords(3, 3));
        refused(INDEX, x, "begin of no kind", () -> x.begin(3, 21));
        refused(INDEX, x, "begin with less than none", () -> x.begin(3, -1));
        refused(INDEX, x, "interline with no open act", () -> x.interline(0, 21));
        refused(INDEX, x, "interline with less than none", () -> x.interline(0, -1));
        refused(INDEX, x, "addCopy", () -> x.addCopy(3, 3));
        refused(INDEX, x, "lose", () -> x.lose(3));
        refused(INDEX, x, "recover", () -> x.recover(3));
        refused(INDEX, x, "sew", () -> x.sew(3));
        refused(INDEX, x, "restore", () -> x.restore(2));
        begin(x, 0, "a");
        put(x, "b");
        refused(INDEX, x, "begin while one is open", () -> x.begin(0, 21));
        refused(INDEX, x, "interline behind no word", () -> x.interline(1, 21));

        says("A call of a method that throws an exception changes nothing, except what is said of the input buffer, and that"
                + " load, by IllegalArgumentException, sets parseError() and errorPosition().");
        NotaryBook y = twoActs();
        y.addCopy(1, 0);
        y.lose(0);
        y.writeLeaf(2);
        String book = Shot.ofBook(y);
        String text = "book 5 2 3;act will " + words(30) + ";out 3";
        throwsJust(ARGUMENT, "a load that fails late", () -> load(y, text));
        is("the book", Shot.ofBook(y), book);
        is("the code", y.parseError(), 3);
        is("the position", y.errorPosition(), text.length() - 1);
        is("the buffer", y.buffered(), 0);
        is("changes", y.undoable(), 2);
        is("the text", text(y, 14), "to my dear son");
        y.undo();
        is("the latest change is undone", y.count(6), 0);
        put(y, "abc de");
        refused(ARGUMENT, y, "a kind that is none", () -> y.begin(3, 6));
        y.begin(0, 6);
        is("the bytes stayed", text(y, y.writeAct(3)), "abc de");
    }

    private static void changes() {
        says("The methods that are documented as changes can be undone, the latest one first; each call of one of them that"
                + " throws no exception is a change, even if nothing is different then.");
        NotaryBook x = twoActs();
        for (int k = 1; k <= 3; k++) {
            is("nothing falls", x.shake(), 0);
            is("it is a change", x.undoable(), k);
        }
        String before = Shot.ofBook(x);
        x.lose(0);
        String between = Shot.ofBook(x);
        x.lose(2);
        x.undo();
        is("the latest one first", Shot.ofBook(x), between);
        x.undo();
        is("then the one ahead of it", Shot.ofBook(x), before);
        x.undo();
        is("a change by which nothing was different", Shot.ofBook(x), before);
        is("two are left", x.undoable(), 2);
        refused(ARGUMENT, x, "a call that throws", () -> x.sew(0));
        x.save(0);
        x.writeAct(1);
        x.findWord(0);
        is("no changes", x.undoable(), 2);
    }

    private static void kept() {
        says("Only the latest 8 changes (those that were undone do not count) since the last successful call of load or"
                + " restore are kept for this.");
        NotaryBook x = loaded("book 4 0 2;act sale " + words(48) + ";cancel");
        String[] shots = new String[12];
        for (int l = 0; l < 12; l++) {
            shots[l] = Shot.ofBook(x);
            x.lose(l);
            is("kept", x.undoable(), Math.min(l + 1, 8));
        }
        for (int l = 11; l >= 4; l--) {
            is("left", x.undo(), l - 4);
            is("the state", Shot.ofBook(x), shots[l]);
        }
        refused(STATE, x, "a ninth one", () -> x.undo());
        NotaryBook y = twoActs();
        String first = Shot.ofBook(y);
        for (int k = 0; k < 8; k++) {
            y.shake();
        }
        for (int k = 0; k < 5; k++) {
            y.undo();
        }
        y.lose(0);
        y.lose(1);
        y.lose(2);
        y.shake();
        y.shake();
        is("those that were undone do not count", y.undoable(), 8);
        for (int k = 7; k >= 0; k--) {
            is("left", y.undo(), k);
        }
        is("all are undone", Shot.ofBook(y), first);
        y.shake();
        y.save(0);
        refused(STATE, y, "a restore that fails", () -> y.restore(1));
        throwsJust(ARGUMENT, "a load that fails", () -> load(y, "book"));
        is("neither counts", y.undoable(), 1);
        y.restore(0);
        is("since restore", y.undoable(), 0);
        y.shake();
        load(y, TWO_ACTS);
        is("since load", y.undoable(), 0);
    }

    private static void whatStays() {
        says("The input buffer stays behind undo and restore; the text that was written last stays behind load, undo and"
                + " restore.");
        NotaryBook x = twoActs();
        is("a text", text(x, x.writeLeaf(2)), "to my dear son");
        x.save(0);
        put(x, "abc d");
        x.shake();
        x.undo();
        is("behind undo", x.buffered(), 20);
        x.restore(0);
        is("behind restore", x.buffered(), 20);
        x.begin(1, 5);
        is("the bytes", x.word(3, 0, 4) * 10 + x.word(3, 1, 4), 31);
        x.undo();
        is("bytes that are gone do not come back", x.buffered(), 0);
        put(x, words(20));
        x.restore(0);
        is("behind restore", x.buffered(), 40);
        is("the text behind undo and restore", text(x, 14), "to my dear son");
        x.findWord(0);
        throwsJust(ARGUMENT, "a load that fails", () -> load(x, "book"));
        is("behind a load that fails", text(x, 14), "to my dear son");
        load(x, "book 4 0 2");
        is("behind load", text(x, 14), "to my dear son");

        says("An object is used for at most 512 calls after it has been made");
        NotaryBook y = new NotaryBook();
        int calls = 8;
        load(y, TWO_ACTS);
        while (calls < 510) {
            y.shake();
            calls++;
        }
        is("the 511th call", y.undoable(), 8);
        is("the 512th call", y.undo(), 7);
    }
}
