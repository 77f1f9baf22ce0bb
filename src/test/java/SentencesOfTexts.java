/** The sentences of section 7 of the terms, and of promises 1 to 6, that name a boundary. */
final class SentencesOfTexts extends Check {
    private static final String HEAD = "book 4 0 2;act sale ";
    // Six words on two leaves, the second and the third one in a clause.
    private static final String OPEN = HEAD + "a (b c) d e f";
    private static final String SEALED = OPEN + ";seal 0 0";
    private static final String FOUR_INSERTED = ";insert 0 x;insert 0 x;insert 0 x;insert 0 x";

    private SentencesOfTexts() {
    }

    static void run() {
        tokens();
        runsOfBytes();
        text();
        lines();
        numbersOfLines();
        linesAreCalls();
        firstError();
        code1();
        code2();
        code3();
        code4();
        newObject();
        append();
        load();
        loadThatFails();
        parseError();
        buffered();
    }

    private static void says(String words) {
        Doc.says(0, words);
    }

    // ---- 7. Text format

    private static String blanks(int n) {
        return words(n).replaceAll("[a-z ]", " ").substring(0, n);
    }

    private static void tokens() {
        says("The input buffer holds at most 600 bytes.");
        for (String end : new String[] {"", ";", ";7"}) {
            String text = HEAD + "a" + blanks(579 - end.length()) + end;
            is("bytes", text.length(), 600);
            hasError(text, end.isEmpty() ? 0 : 1, end.isEmpty() ? -1 : end.equals(";") ? 600 : 599);
        }

        says("Tokens are words (1 to 8 lower-case letters), numbers (1 to 2 digits), the semicolon and round brackets.");
        for (int b = 0; b <= 255; b++) {
            String text = HEAD + "a " + (char) b;
            boolean isLetter = b >= 'a' && b <= 'z';
            if (isLetter || b == ' ') {
                isBook(text);
            } else {
                hasError(text, 1, b == ';' || b == '(' ? text.length() : text.length() - 1);
            }
        }
        for (int b = 0; b <= 255; b++) {
            String text = HEAD + "(a " + (char) b;
            if (b == ')') {
                isBook(text);
            } else {
                boolean opens = b >= 'a' && b <= 'z' || b == ' ' || b == '(';
                hasError(text, 1, opens ? text.length() : text.length() - 1);
            }
            NotaryBook x = loaded("book 4 0 2");
            put(x, text.substring(HEAD.length()));
            if (b == ')') {
                is("a clause", x.begin(0, 4), 1);
            } else {
                refused(ARGUMENT, x, "a clause that ends with byte " + b, () -> x.begin(0, 4));
            }
        }
        for (String token : new String[] {"abcdefghi", "123", ";", "7"}) {
            hasError(HEAD + "(a " + token, 1, HEAD.length() + 3);
            hasError(HEAD + "((a) " + token + ")", 1, HEAD.length() + 5);
        }
        isBook("book 4 0 2");
        isBook("book 20 00 02");
        hasError("book 004 0 2", 1, 5);
        hasError("book 0004 0 2", 1, 5);
        hasError("book 4 000 2", 1, 7);

        says("Blanks (byte 32) only separate tokens.");
        isBook("   book   4 0    2  ;  act sale   a ( b )  ;  seal 0  0   ");
        isBook("book4 0 2;act sale(a)b(c(d)e)");
        hasError("bo ok 4 0 2", 1, 0);
        hasError("book 2 0 0 2", 2, 5);
        hasError("book 1 6 0 2", 2, 5);
        is("two words", loaded(HEAD + "ab cd").act(1, 4), 2);
        is("one word", loaded(HEAD + "abcd").act(1, 4), 1);
        for (int b : new int[] {0, 9, 10, 13, 31, 33, 160}) {
            hasError("book 4 0 2" + (char) b, 1, 10);
            hasError((char) b + "book 4 0 2", 1, 0);
        }
    }

    private static void runsOfBytes() {
        says("A run of letters ends at the first byte that is not a lower-case letter; a run of digits ends at the first byte"
                + " that is not a digit; leading zeros do not matter for its value.");
        isBook(HEAD + "a;insert0b;insert0c;seal0 2;copy1 0");
        isBook("book20 4 4");
        hasError(HEAD + "aB", 1, HEAD.length() + 1);
        hasError(HEAD + "a7b", 1, HEAD.length() + 1);
        hasError("book 4x 0 2", 1, 6);
        hasError("book 4.0 2", 1, 6);
        hasError("book 4/ 0 2", 1, 6);
        hasError("book 4: 0 2", 1, 6);
        isBook("book 04 00 02;act sale a b c d e f g h i;strike 08;strike 00;seal 00 02;copy 01 00;lose 00");
        is("a word that ends with the bytes", loaded("book 4 0 2;act will abcdefgh").word(1, 0, 4), 8);
        is("a number that ends with the bytes", loaded("book 4 0 4").count(2), 4);
        is("a number of two digits", loaded("book 19 0 2").count(0), 19);
    }

    private static void text() {
        says("text = \"book\" ROOM NEED GATHER {\";\" line}");
        isBook("book 4 0 2");
        isBook("book 4 0 2;shake");
        isBook("book 4 0 2;shake;shake;shake");
        for (String part : new String[] {"", " ", "book", "book ", "book 4", "book 4 0", "book 4 0 2;", "book 4 0 2; ",
                "book 4 0 2;shake;", "book 4 0 2;shake; "}) {
            hasError(part, 1, part.length());
        }
        hasError("4 0 2", 1, 0);
        hasError("act sale a", 1, 0);
        hasError("books 4 0 2", 1, 0);
        hasError("book ;", 1, 5);
        hasError("book 4 ;", 1, 7);
        hasError("book 4 0 ;", 1, 9);
        hasError("book 4 0 2 4", 1, 11);
        hasError("book 4 0 2 shake", 1, 11);
        hasError("book 4 0 2;;shake", 1, 11);
        hasError("book 4 0 2;shake;;shake", 1, 17);
        hasError("book 4 0 2;book 4 0 2", 1, 11);
        hasError("book 4 0 2;line", 1, 11);
        hasError("book 4 0 2;sale a", 1, 11);
        for (String kind : new String[] {"sale", "will", "loan"}) {
            isBook("book 4 0 2;act " + kind + " a");
        }
        for (String kind : new String[] {"sales", "sal", "act", "gift", "7", "(", ";"}) {
            hasError("book 4 0 2;act " + kind + " a", 1, 15);
        }
    }

    /** A line is one behind the text; none of its beginnings is, nor is it with a token more. */
    private static void lineIs(String text, String line) {
        isBook(text + ";" + line);
        for (int at = line.indexOf(' '); at >= 0; at = line.indexOf(' ', at + 1)) {
            hasError(text + ";" + line.substring(0, at), 1, text.length() + 1 + at);
            hasError(text + ";" + line.substring(0, at + 1), 1, text.length() + 2 + at);
            hasError(text + ";" + line.substring(0, at) + ";shake", 1, text.length() + 1 + at);
        }
        int end = text.length() + 2 + line.length();
        hasError(text + ";" + line + " 7", 1, end);
        hasError(text + ";" + line + " )", 1, end);
        hasError(text + ";" + line + " ;", 1, end + 1);
        if (!line.startsWith("act")) {
            hasError(text + ";" + line + " x", 1, end);
            hasError(text + ";" + line + " (", 1, end);
        }
    }

    private static void lines() {
        says("line = \"act\" kind body | \"strike\" I | \"out\" I | \"insert\" I WORD | \"seal\" WITNESSES MARKS | \"cancel\""
                + " | \"copy\" A GRADE | \"lose\" L | \"find\" L | \"sew\" L | \"shake\"");
        lineIs(SEALED, "act will g");
        lineIs(OPEN, "strike 0");
        lineIs(OPEN, "out 1");
        lineIs(OPEN, "insert 0 x");
        lineIs(OPEN, "seal 0 0");
        lineIs(OPEN, "cancel");
        lineIs(SEALED, "copy 1 0");
        lineIs(SEALED, "lose 0");
        lineIs(SEALED + ";lose 0", "find 0");
        lineIs(SEALED + ";lose 0", "sew 1");
        lineIs(SEALED, "shake");
        lineIs("book 4 0 2", "shake");
        hasError(OPEN + ";strike x", 1, OPEN.length() + 8);
        hasError(OPEN + ";insert x 0", 1, OPEN.length() + 8);
        hasError(OPEN + ";insert 0 0", 1, OPEN.length() + 10);
        hasError(OPEN + ";insert 0 (x)", 1, OPEN.length() + 10);

        says("item = WORD | \"(\" body \")\"");
        for (String body : new String[] {"(", "(a", "((a)", "(a (b)", "(a)(b"}) {
            hasError(HEAD + body, 1, HEAD.length() + body.length());
            hasError(HEAD + body + ";shake", 1, HEAD.length() + body.length());
        }
        for (String body : new String[] {")", "a)", "(a))", "()", "a ()", "(a)b)"}) {
            hasError(HEAD + body, 1, HEAD.length() + body.length() - 1);
        }
        says("WORD is any word.");
        isBook(HEAD + "book act sale (strike out) insert seal cancel copy lose find sew shake;insert 0 act;insert 1 shake");
    }

    private static void numbersOfLines() {
        says("I is the number of a word of the open act, A of an act, L of a leaf.");
        String three = "book 4 0 2;act sale a b c d e;cancel;act sale (a b c)";
        for (String line : new String[] {"strike ", "out ", "insert "}) {
            String behind = line.equals("insert ") ? " x" : "";
            for (int i = 0; i <= 4; i++) {
                hasError(three + ";" + line + i + behind, i < 3 ? 0 : 2, i < 3 ? -1 : three.length() + 1 + line.length());
            }
        }
        NotaryBook x = loaded(three + ";strike 2;insert 0 x");
        is("a word of the open act", x.word(2, 2, 1) * 10 + x.word(2, 0, 3), 11);
        is("no word of another act", x.act(1, 5), 5);
        String two = "book 4 0 2;act sale a;seal 0 0;act sale b;seal 0 0";
        for (int a = 0; a <= 3; a++) {
            boolean is = a == 1 || a == 2;
            hasError(two + ";copy " + a + " 0", is ? 0 : 2, is ? -1 : two.length() + 6);
        }
        is("the act", loaded(two + ";copy 2 0").copy(0, 0), 2);
        for (int l = 0; l <= 3; l++) {
            hasError(SEALED + ";lose " + l, l < 2 ? 0 : 2, l < 2 ? -1 : SEALED.length() + 6);
            hasError(SEALED + ";lose 0;lose 1;find " + l, l < 2 ? 0 : 2, l < 2 ? -1 : SEALED.length() + 20);
            hasError(SEALED + ";lose 0;sew " + l, l == 1 ? 0 : l == 0 ? 3 : 2, l == 1 ? -1 : SEALED.length() + 12);
        }
        leavesAre(loaded(SEALED + ";lose 1"), LOOSE, LOST);
    }

    private static void linesAreCalls() {
        says("The lines do what begin(), strike(), strikeClause(), interline(), seal(), cancel(), addCopy(), lose(),"
                + " recover(), sew() and shake() do.");
        NotaryBook x = loaded("book 4 1 2");
        begin(x, 2, "a (b (c d) e) f g");
        NotaryBook y = loaded("book 4 1 2;act loan a (b (c d) e) f g;strike 0;out 2;insert 4 xyz;seal 3 3;copy 1 2;lose 0;"
                + "sew 1;act sale h i j;cancel;lose 1;find 0;lose 2;shake");
        x.strike(0);
        x.strikeClause(2);
        interline(x, 4, "xyz");
        x.seal(3, 3);
        x.addCopy(1, 2);
        x.lose(0);
        x.sew(1);
        begin(x, 0, "h i j");
        x.cancel();
        x.lose(1);
        x.recover(0);
        x.lose(2);
        x.shake();
        is("the book", Shot.ofBook(y), Shot.ofBook(x));
        is("no line is a change", y.undoable(), 0);
    }

    private static void firstError() {
        says("Parsing stops at the first token, from the left, at which an error is found; if several errors apply to that"
                + " token, the smallest code is reported.");
        hasError("book 3 9 9", 2, 5);
        hasError("book 4 9 9", 2, 7);
        hasError("book 4 0 9;7", 2, 9);
        hasError("book 4 0 2;strike 0 0;cancel", 2, 18);
        hasError("book 4 0 2;cancel;lose 0", 3, 11);
        hasError(OPEN + ";act gift (", 3, OPEN.length() + 1);
        StringBuilder acts = new StringBuilder("book 4 0 2");
        for (int a = 0; a < 10; a++) {
            acts.append(a == 0 ? "" : ";cancel").append(";act sale a");
        }
        hasError(acts + ";act", 3, acts.length() + 1);
        hasError(acts + ";cancel;act", 4, acts.length() + 8);
        endsWrong(HEAD + words(48) + " abcdefghi", 1);
        endsWrong("book 4 0 2;strike 000", 1);
        endsWrong(SEALED + ";lose 0;lose 000", 1);
        endsWrong(OPEN + ";strike 0;strike 6", 2);

        says("The position of an error is the index of the token's first byte; at the end of the text it is the number of"
                + " bytes that are parsed.");
        hasError("   book   4   0   9", 2, 18);
        hasError("book 4 0 2;  act   sale   abcdefghijkl  b", 1, 26);
        hasError("book 4 0 2;  shake   123456", 1, 21);
        hasError("book 4 0  ", 1, 10);
        hasError("book 4 0 2;act sale (a   ", 1, 25);
        NotaryBook x = new NotaryBook();
        put(x, "book 4 0 2;act sale a");
        argument("a part of the bytes", () -> x.load(8));
        is("the bytes that are parsed", x.errorPosition(), 8);
        put(x, "book 4 0 2;act sale a");
        argument("no bytes", () -> x.load(0));
        is("no bytes are parsed", x.errorPosition(), 0);
    }

    private static void code1() {
        says("1: a byte that starts no token, a word of 9 or more letters, a number of 3 or more digits, a token that the"
                + " grammar does not allow here, or the end of the text where a line is not complete.");
        hasError("book 4 0 2;!", 1, 11);
        hasError("book 4 0 2;Shake", 1, 11);
        hasError("book 4 0 2;-", 1, 11);
        isBook(HEAD + "abcdefgh");
        hasError(HEAD + "abcdefghi", 1, 20);
        hasError(HEAD + "a abcdefghijklmnopqrstuvwxyz", 1, 22);
        hasError("bookbookb 4 0 2", 1, 0);
        hasError("book 4 abcdefghi 2", 1, 7);
        hasError(OPEN + ";strike abcdefghi", 1, OPEN.length() + 8);
        hasError(OPEN + ";seal 0 abcdefghi", 1, OPEN.length() + 8);
        hasError(OPEN + ";insert 0 123", 1, OPEN.length() + 10);
        hasError("book 4 0 2;123", 1, 11);
        isBook(OPEN + ";insert 00 x");
        hasError(OPEN + ";insert 000 x", 1, OPEN.length() + 8);
        hasError(OPEN + ";seal 000 0", 1, OPEN.length() + 6);
        hasError(OPEN + ";seal 0 100", 1, OPEN.length() + 8);
        hasError("book 4 0 002", 1, 9);
        hasError("book 4 (0) 2", 1, 7);
        hasError(OPEN + ";strike", 1, OPEN.length() + 7);
    }

    private static void code2() {
        says("2: a number out of its bounds (also I without an open act, an A or an L that there is not).");
        for (int n = 0; n <= 99; n++) {
            hasError("book " + n + " 0 2", n >= 4 && n <= 20 ? 0 : 2, n >= 4 && n <= 20 ? -1 : 5);
            hasError("book 4 " + n + " 2", n <= 4 ? 0 : 2, n <= 4 ? -1 : 7);
            hasError("book 4 0 " + n, n >= 2 && n <= 4 ? 0 : 2, n >= 2 && n <= 4 ? -1 : 9);
            hasError(OPEN + ";seal " + n + " 0", n <= 9 ? 0 : 2, n <= 9 ? -1 : OPEN.length() + 6);
            hasError(OPEN + ";seal 0 " + n, n == 0 ? 0 : 3, n == 0 ? -1 : OPEN.length() + 8);
            hasError(SEALED + ";copy 1 " + n, n <= 2 ? 0 : 2, n <= 2 ? -1 : SEALED.length() + 8);
            hasError(SEALED + ";copy " + n + " 0", n == 1 ? 0 : 2, n == 1 ? -1 : SEALED.length() + 6);
            hasError(SEALED + ";lose " + n, n < 2 ? 0 : 2, n < 2 ? -1 : SEALED.length() + 6);
            hasError(OPEN + ";strike " + n, n < 6 ? 0 : 2, n < 6 ? -1 : OPEN.length() + 8);
        }
        for (String line : new String[] {"strike 0", "out 0", "insert 0"}) {
            endsWrong("book 4 0 2;" + line, 2);
            endsWrong(SEALED + ";" + line, 2);
            endsWrong(OPEN + ";cancel;" + line, 2);
        }
        endsWrong("book 4 0 2;copy 1", 2);
        for (String line : new String[] {"lose 0", "find 0", "sew 0"}) {
            endsWrong("book 4 0 2;" + line, 2);
        }
    }

    private static void code3() {
        says("the word \"act\" if an act is open");
        endsWrong(OPEN + ";act", 3);
        isBook(SEALED + ";act sale a");
        isBook(OPEN + ";cancel;act sale a");
        says("the I of \"strike\" of a word that is struck");
        endsWrong(OPEN + ";strike 1;strike 1", 3);
        endsWrong(OPEN + ";out 1;strike 2", 3);
        isBook(OPEN + ";out 1;strike 3");
        says("that of \"out\" of a word that is in no clause");
        endsWrong(OPEN + ";out 0", 3);
        endsWrong(OPEN + ";out 3", 3);
        isBook(OPEN + ";out 1;out 2;out 2");
        says("that of \"insert\" behind whose word 4 are interlined");
        endsWrong(OPEN + FOUR_INSERTED + ";insert 0", 3);
        isBook(OPEN + FOUR_INSERTED + ";insert 1 x");
        says("the MARKS of \"seal\" if there is a reason of whyNotSeal()");
        endsWrong(SEALED + ";seal 0 0", 3);
        endsWrong("book 4 2 2;act sale a;seal 1 0", 3);
        endsWrong(OPEN + ";seal 0 1", 3);
        endsWrong(OPEN + ";strike 0;seal 0 0", 3);
        endsWrong(HEAD + "a;strike 0;seal 0 1", 3);
        isBook(HEAD + "a b;strike 0;seal 0 1");
        says("the word \"cancel\" without an open act");
        endsWrong("book 4 0 2;cancel", 3);
        endsWrong(SEALED + ";cancel", 3);
        endsWrong(OPEN + ";cancel;cancel", 3);
        says("the GRADE of \"copy\" if the reason 1 or 2 of whyNotCopy() applies");
        endsWrong(OPEN + ";copy 1 0", 3);
        endsWrong(OPEN + ";cancel;copy 1 2", 3);
        endsWrong(SEALED + ";lose 0;copy 1 1", 3);
        isBook(SEALED + ";copy 1 1;lose 0;copy 1 0");
        String three = HEAD + words(12) + ";seal 0 0";
        endsWrong(three + ";lose 1;copy 1 0", 3);
        endsWrong(three + ";lose 1;copy 1 1", 3);
        isBook(three + ";lose 1;copy 1 2");
        endsWrong(three + ";lose 2;copy 1 2", 3);
        says("the L of \"lose\", \"find\" and \"sew\" if the leaf is not so");
        endsWrong(SEALED + ";lose 0;lose 0", 3);
        isBook(SEALED + ";lose 0;lose 1");
        endsWrong(SEALED + ";find 0", 3);
        endsWrong(SEALED + ";lose 0;find 1", 3);
        endsWrong(SEALED + ";sew 0", 3);
        endsWrong(SEALED + ";lose 0;sew 0", 3);
        endsWrong(SEALED + ";lose 0;sew 1;sew 1", 3);
    }

    private static void code4() {
        says("4: the word \"act\" of an 11th act");
        StringBuilder acts = new StringBuilder("book 4 0 2");
        for (int a = 1; a <= 10; a++) {
            acts.append(";act sale a;cancel");
            isBook(acts.toString());
        }
        endsWrong(acts + ";act", 4);
        says("the bracket ( with which 5 clauses would be in one another");
        isBook(HEAD + "((((a))))");
        hasError(HEAD + "(((( (", 4, 25);
        hasError(HEAD + "a(b(c(d(e (f)))))", 4, 30);
        says("the WORD that would come to a 13th leaf");
        for (int room = 4; room <= 20; room++) {
            String head = "book " + room + " 0 2;act sale ";
            isBook(head + words(12 * room));
            endsWrong(head + words(12 * room + 1), 4);
            endsWrong(head + words(12 * room - 1) + ";cancel;act will a b", 4);
            isBook(head + words(12 * room) + ";insert 0 x;cancel");
        }
        says("the word \"copy\" of a 9th copy.");
        StringBuilder copies = new StringBuilder(SEALED);
        for (int c = 0; c < 8; c++) {
            copies.append(";copy 1 2");
        }
        isBook(copies.toString());
        endsWrong(copies + ";copy", 4);
        hasError(copies + ";lose 1;copy 1 0", 4, copies.length() + 8);
    }

    // ---- promises 1 to 6

    private static void newObject() {
        Doc.says(1, "Creates an object without a book and with an empty input buffer.");
        NotaryBook x = new NotaryBook();
        is("all of it", Shot.of(x), "error 0 -1, buffered 0, undoable 0, text |\nno book");
        refused(INDEX, x, "no byte to load", () -> x.load(1));
        refused(STATE, x, "no book", () -> x.count(0));
        refused(STATE, x, "no change", () -> x.undo());
        refused(STATE, x, "no slot", () -> x.restore(0));
        is("NONE", NotaryBook.NONE, -1);
    }

    private static void append() {
        Doc.says(2, "Appends twenty bytes to the input buffer: the four bytes of each argument in order, the most significant"
                + " byte first.");
        NotaryBook x = loaded("book 4 0 2");
        x.append(0x61626364, 0x65666768, 0x20696a6b, 0x6c6d6e6f, 0x70207172);
        x.begin(0, 20);
        is("the bytes", text(x, x.writeAct(1)), "abcdefgh ijklmnop qr");
        String[] names = {"`a`: bytes 0 to 3", "`b`: bytes 4 to 7", "`c`: bytes 8 to 11", "`d`: bytes 12 to 15",
            "`e`: bytes 16 to 19"};
        for (int p = 0; p < 20; p++) {
            if (p % 4 == 0) {
                Doc.says(2, names[p / 4]);
            }
            for (int b : new int[] {0, 1, 'a', 'z', 127, 128, 225, 255}) {
                boolean isLetter = b == 'a' || b == 'z';
                hasError(HEAD + blanks(p) + (char) b + " b", isLetter ? 0 : 1, isLetter ? -1 : 20 + p);
            }
        }

        Doc.says(2, "Returns the number of bytes in the buffer; NONE if there would be more than 600, in which case nothing is"
                + " appended.");
        NotaryBook y = new NotaryBook();
        put(y, HEAD + "a" + blanks(539));
        is("before the last twenty", y.buffered(), 560);
        is("580", y.append(0x20202020, 0x20202020, 0x20202020, 0x20202020, 0x20202020), 580);
        is("600", y.append(0x20202020, 0x20202020, 0x20202020, 0x20202020, 0x20202062), 600);
        for (int k = 0; k < 3; k++) {
            is("more", y.append(-1, -1, -1, -1, -1), -1);
            is("nothing is appended", y.buffered(), 600);
        }
        refused(INDEX, y, "more bytes than there are", () -> y.load(601));
        is("the bytes are as they were", y.load(600), 1);
        is("the last of them", find(y, "b"), 1);
        is("from the beginning again", y.append(0, 0, 0, 0, 0), 20);
    }

    private static void load() {
        Doc.says(3, "Parses the first n bytes of the input buffer as a book (section 7) and empties the buffer, even if the"
                + " parse fails.");
        NotaryBook x = new NotaryBook();
        put(x, HEAD + "a;7");
        is("not those behind", x.load(21), 1);
        is("the buffer is empty", x.buffered(), 0);
        put(x, "book 4 0 2;7");
        argument("all of them", () -> x.load(12));
        is("the buffer is empty", x.buffered(), 0);

        Doc.says(3, "On success it replaces the previous one, nothing can be undone, and no state is saved.");
        NotaryBook y = loaded(TWO_ACTS + ";copy 1 0;lose 0");
        y.burn(0);
        begin(y, 0, "z");
        y.save(0);
        y.save(1);
        load(y, "book 5 2 3;act will a");
        is("the book", Shot.ofBook(y), Shot.ofBook(loaded("book 5 2 3;act will a")));
        is("nothing can be undone", y.undoable(), 0);
        refused(STATE, y, "undo", () -> y.undo());
        refused(STATE, y, "slot 0", () -> y.restore(0));
        refused(STATE, y, "slot 1", () -> y.restore(1));
        String rich = "book 4 0 4;act sale (a) ((b)) c d;strike 0;insert 0 x;out 1;insert 2 y;seal 9 4;act will e f;cancel;"
                + "copy 1 0;copy 1 1;lose 0;act loan (g);insert 0 z";
        String poor = "book 4 0 4;act will a b c;cancel;act sale d e;cancel;act will f";
        for (int k = 0; k < 4; k++) {
            load(y, rich);
            is("as if it were the first", Shot.difference(Shot.ofBook(loaded(rich)), Shot.ofBook(y)), "");
            if (k % 2 == 0) {
                load(y, rich);
            }
            load(y, poor);
            is("nothing stays of it", Shot.difference(Shot.ofBook(loaded(poor)), Shot.ofBook(y)), "");
            if (k > 1) {
                load(y, "book 20 4 4");
                is("an empty book", Shot.difference(Shot.ofBook(loaded("book 20 4 4")), Shot.ofBook(y)), "");
            }
        }

        Doc.says(3, "`n`: number of bytes to parse");
        NotaryBook z = new NotaryBook();
        for (int n = 0; n <= 40; n++) {
            int first = n;
            put(z, HEAD + "a" + blanks(10) + "(b)");
            if (n == 10 || n >= 21 && n < 32 || n >= 34) {
                is("the first " + n, z.load(n), n == 10 ? 0 : 1);
            } else {
                argument("the first " + n, () -> z.load(first));
            }
            is("the buffer is empty", z.buffered(), 0);
        }

        Doc.says(3, "Returns the number of acts.");
        StringBuilder acts = new StringBuilder("book 4 0 2");
        for (int a = 0; a <= 10; a++) {
            is("acts", Check.load(new NotaryBook(), acts.toString()), a);
            acts.append(a % 2 == 0 ? ";act sale a;cancel" : ";act sale a;seal 0 0");
        }
    }

    private static void loadThatFails() {
        Doc.says(3, "if n is negative or greater than the number of bytes in the buffer; the buffer, parseError() and"
                + " errorPosition() stay");
        NotaryBook x = new NotaryBook();
        for (String text : new String[] {"book 4 0 2", "book 4 0 9", "book 4 0 2;shake;quake"}) {
            put(x, text);
            for (int n : outside(0, x.buffered())) {
                refused(INDEX, x, n + " bytes", () -> x.load(n));
            }
            is("the bytes stay", error(text), outcome(x, text.length()));
            for (int n : outside(0, 0)) {
                refused(INDEX, x, n + " of no bytes", () -> x.load(n));
            }
        }

        Doc.says(3, "if the text has an error; the previous book stays, the buffer is empty");
        NotaryBook y = twoActs();
        begin(y, 0, "a (b)");
        y.save(1);
        y.strike(0);
        String book = Shot.ofBook(y);
        for (String text : new String[] {"", "book", "book 5 1 3;cancel", "book 20 4 4;act will (((((",
                "book 5 1 3;act will " + words(61), "book 6 0 4;act loan a;seal 0 0;copy 1 0;lose 0;shake;lose 0"}) {
            argument("the text " + text, () -> Check.load(y, text));
            is("the book", Shot.ofBook(y), book);
            is("the buffer", y.buffered(), 0);
            is("changes", y.undoable(), 2);
        }
        y.undo();
        is("the change is undone", y.act(3, 5), 2);
        is("what was saved stays so", y.restore(1), 3);
        NotaryBook z = new NotaryBook();
        argument("the first text", () -> Check.load(z, "book"));
        refused(STATE, z, "there is still no book", () -> z.count(3));
    }

    private static String outcome(NotaryBook x, int n) {
        try {
            x.load(n);
        } catch (IllegalArgumentException e) {
            is("the buffer is empty", x.buffered(), 0);
        }
        return x.parseError() + " " + x.errorPosition();
    }

    private static void parseError() {
        String[] texts = {"book 4 0 2", "book 4 0", "book 4 0 9", "book 4 0 2;cancel", HEAD + "((((("};
        int[] places = {-1, 8, 9, 11, 24};
        for (int promise = 4; promise <= 5; promise++) {
            Doc.says(promise, promise == 4 ? "Returns the code 1 to 4; 0 if that call succeeded or if there was none."
                    : "Returns the position; NONE if parseError() is 0.");
            NotaryBook x = new NotaryBook();
            is("there was none", promise == 4 ? x.parseError() : x.errorPosition(), promise == 4 ? 0 : -1);
            index("a call that does not count", () -> x.load(1));
            is("there was none", promise == 4 ? x.parseError() : x.errorPosition(), promise == 4 ? 0 : -1);
            for (int k : new int[] {1, 2, 3, 4, 0, 4, 3, 0, 2, 1}) {
                is("the error", outcome(x, put(x, texts[k])), k + " " + places[k]);
                index("a call that does not count", () -> x.load(1));
                is("the code or the place", promise == 4 ? x.parseError() : x.errorPosition(), promise == 4 ? k : places[k]);
            }
        }
        Doc.says(4, "Returns the parse error code of the latest call of load that did not throw IndexOutOfBoundsException.");
        NotaryBook y = loaded(TWO_ACTS);
        argument("a body that is none", () -> begin(y, 0, "(((((a"));
        is("no call of load", y.parseError(), 0);
        Doc.says(5, "Returns the position of the parse error of that call of load.");
        is("no call of load", y.errorPosition(), -1);
        y.findWord(0);
        argument("a text with an error", () -> Check.load(y, "book 4 0 9"));
        y.shake();
        y.undo();
        y.save(0);
        y.restore(0);
        is("it stays", y.parseError() + " " + y.errorPosition(), "2 9");
    }

    private static void buffered() {
        Doc.says(6, "Returns 0 to 600.");
        NotaryBook x = new NotaryBook();
        is("none", x.buffered(), 0);
        for (int k = 1; k <= 30; k++) {
            x.append(0, 0, 0, 0, 0);
            is("after " + k, x.buffered(), 20 * k);
        }
        x.append(0, 0, 0, 0, 0);
        is("at most", x.buffered(), 600);
        argument("no text", () -> x.load(600));
        is("none again", x.buffered(), 0);
    }
}
