/** Promises 1 to 6, and the text format: what is a book, and where each error is found. */
public final class InputTest extends Check {
    private static void newObject() {
        promise = 1;
        NotaryBook x = new NotaryBook();
        is("buffered", x.buffered(), 0);
        is("parseError", x.parseError(), 0);
        is("errorPosition", x.errorPosition(), NotaryBook.NONE);
        is("undoable", x.undoable(), 0);
        is("NONE", NotaryBook.NONE, -1);
        state("count", () -> x.count(3));
        state("undo", () -> x.undo());
        index("textByte", () -> x.textByte(0));
    }

    private static void append() {
        promise = 2;
        NotaryBook x = new NotaryBook();
        is("the first", x.append(0x626f6f6b, 0x20342030, 0x20322020, 0x20202020, 0x20202020), 20);
        is("the bytes stand in order", x.load(10), 0);
        is("ROOM", x.count(0), 4);
        for (int k = 1; k <= 30; k++) {
            is("append " + k, x.append(-1, Integer.MIN_VALUE, 0, Integer.MAX_VALUE, 1), 20 * k);
        }
        is("the 31st", x.append(1, 2, 3, 4, 5), NotaryBook.NONE);
        is("nothing is appended", x.buffered(), 600);
        argument("bytes that are no letters", () -> x.load(600));
        is("its place", x.errorPosition(), 0);
        // All four bytes of an argument, also those whose highest bit is set.
        NotaryBook y = new NotaryBook();
        y.append(0x626f6f6b, 0x20342030, 0x20322020, 0x202020e1, 0x20202020);
        argument("a byte over 127", () -> y.load(20));
        is("its place", y.errorPosition(), 15);
    }

    private static void load() {
        promise = 3;
        NotaryBook x = new NotaryBook();
        is("acts", load(x, TWO_ACTS), 2);
        is("the buffer is empty", x.buffered(), 0);
        begin(x, 0, "a");
        x.save(0);
        put(x, "book 5 0 3");
        index("more bytes than there are", () -> x.load(21));
        index("less than none", () -> x.load(-1));
        is("the buffer stays", x.buffered(), 20);
        is("parseError stays", x.parseError(), 0);
        argument("a part of the text", () -> x.load(8));
        is("the buffer is empty", x.buffered(), 0);
        is("the book stays", x.count(3), 3);
        is("the changes stay", x.undoable(), 1);
        is("the slot stays", x.save(1), 3);
        is("a slot of the book before", x.restore(0), 3);
        x.cancel();
        is("another book", load(x, "book 5 0 3"), 0);
        is("ROOM", x.count(0), 5);
        is("nothing can be undone", x.undoable(), 0);
        state("undo", () -> x.undo());
        state("restore 0", () -> x.restore(0));
        state("restore 1", () -> x.restore(1));
        int n = put(x, "book 4 0 2;act sale abcde");
        is("a word ends at the n-th byte", x.load(n - 2), 1);
        is("its letters", x.word(1, 0, 4), 3);
        int m = put(x, "book 4 0 23");
        is("a number ends at the n-th byte", x.load(m - 1), 0);
        is("GATHER", x.count(2), 2);
        argument("no bytes", () -> x.load(0));
        String blanks = words(290).replaceAll("[a-z]", " ");
        for (String end : new String[] {"book 20 4 4", "book 4 0 2;act loan a", "book 4 0 2;act loan (a)"}) {
            put(x, (blanks + blanks).substring(0, 600 - end.length()) + end);
            is("a full buffer that ends with " + end, x.load(600), end.contains("act") ? 1 : 0);
        }
    }

    private static void syntax() {
        promise = 3;
        isBook("book 4 0 2");
        isBook("  book  20 4  4 ");
        isBook("book4 0 2;act sale(a)b((c)d)");
        isBook("book 04 00 02;act will a;strike 00;insert0a");
        isBook(TWO_ACTS);
        isBook("book 4 0 2;act sale act book (strike) seal;cancel;shake");
        hasError("", 1, 0);
        hasError("   ", 1, 3);
        hasError("look 4 0 2", 1, 0);
        hasError("book", 1, 4);
        hasError("book ;4 0 2", 1, 5);
        hasError("book 4 0", 1, 8);
        hasError("book 4 0 2 ", 0, -1);
        hasError("book 4 0 2;", 1, 11);
        hasError("book 4 0 2;  ", 1, 13);
        hasError("book 4 0 2;;shake", 1, 11);
        hasError("book 4 0 2 shake", 1, 11);
        hasError("book 4 0 2;shake 1", 1, 17);
        hasError("book 4 0 2;quake", 1, 11);
        hasError("book 4 0 2;7", 1, 11);
        hasError("book 4 0 2;(", 1, 11);
        hasError("book 4 0 2;Shake", 1, 11);
        hasError("book 4 0 2;\tshake", 1, 11);
        hasError("book 4 0 2;shakenout", 1, 11);
        hasError("book 004 0 2", 1, 5);
        hasError("book 4 0 2;act", 1, 14);
        hasError("book 4 0 2;act gift a", 1, 15);
        hasError("book 4 0 2;act sale", 1, 19);
        hasError("book 4 0 2;act sale ;shake", 1, 20);
        hasError("book 4 0 2;act sale ()", 1, 21);
        hasError("book 4 0 2;act sale (a ())", 1, 24);
        hasError("book 4 0 2;act sale a)", 1, 21);
        hasError("book 4 0 2;act sale )", 1, 20);
        hasError("book 4 0 2;act sale (a;cancel", 1, 22);
        hasError("book 4 0 2;act sale (a", 1, 22);
        hasError("book 4 0 2;act sale a 1", 1, 22);
        hasError("book 4 0 2;act sale abcdefgh;cancel", 0, -1);
        hasError("book 4 0 2;act sale abcdefghi;cancel", 1, 20);
        hasError("book 4 0 2;act sale a;insert 0", 1, 30);
        hasError("book 4 0 2;act sale a;insert 0 1", 1, 31);
        hasError("book 4 0 2;act sale a;insert 0 abcdefghi", 1, 31);
        hasError("book 4 0 2;act sale a;seal 0", 1, 28);
        hasError("book 4 0 2;act sale a;seal 0 100", 1, 29);
        hasError("book 4 0 2;act sale a;seal 0 0;copy 1", 1, 37);
        hasError("book 4 0 2;act sale a;lose", 1, 26);
        hasError("book 4 0 2;cancel cancel", 3, 11);
    }

    private static void bounds() {
        promise = 3;
        String open = "book 4 2 2;act sale a (b) c";
        String sealed = open + ";seal 2 0";
        for (String head : new String[] {"book 3", "book 21", "book 4 5", "book 4 0 1", "book 4 0 5"}) {
            endsWrong(head, 2);
        }
        isBook("book 20 4 4");
        for (String word : new String[] {"strike", "out", "insert"}) {
            endsWrong("book 4 0 2;" + word + " 0", 2);
            endsWrong(open + ";" + word + " 3", 2);
            endsWrong(sealed + ";" + word + " 0", 2);
        }
        endsWrong(open + ";seal 10", 2);
        endsWrong("book 4 0 2;copy 1", 2);
        endsWrong(sealed + ";copy 0", 2);
        endsWrong(sealed + ";copy 2", 2);
        endsWrong(sealed + ";copy 1 3", 2);
        for (String word : new String[] {"lose", "find", "sew"}) {
            endsWrong("book 4 0 2;" + word + " 0", 2);
            endsWrong(sealed + ";" + word + " 1", 2);
        }
    }

    private static void refusals() {
        promise = 3;
        String open = "book 4 2 2;act sale a (b) c";
        String sealed = open + ";seal 2 0";
        endsWrong(open + ";act", 3);
        hasError(open + ";act gift", 3, open.length() + 1);
        isBook(open + ";cancel;act sale a");
        endsWrong(open + ";strike 0;strike 0", 3);
        endsWrong(open + ";out 0", 3);
        isBook(open + ";out 1;out 1");
        endsWrong(open + ";out 1;strike 1", 3);
        endsWrong(open + ";insert 2 x;insert 2 x;insert 2 x;insert 2 x;insert 2", 3);
        isBook(open + ";strike 2;insert 2 x;insert 2 x;insert 2 x;insert 2 x;insert 1 x");
        endsWrong(open + ";seal 1 0", 3);
        endsWrong(open + ";seal 2 1", 3);
        endsWrong("book 4 2 2;seal 2 0", 3);
        endsWrong("book 4 0 2;act sale a;strike 0;seal 0 1", 3);
        isBook("book 4 0 2;act sale a;strike 0;insert 0 b;seal 0 2");
        endsWrong("book 4 0 2;cancel", 3);
        endsWrong(sealed + ";cancel", 3);
        endsWrong(open + ";copy 1 0", 3);
        endsWrong(open + ";cancel;copy 1 0", 3);
        endsWrong(sealed + ";lose 0;copy 1 2", 3);
        isBook(sealed + ";copy 1 1;lose 0;copy 1 0");
        endsWrong(sealed + ";copy 1 2;lose 0;copy 1 1", 3);
        endsWrong(sealed + ";lose 0;lose 0", 3);
        endsWrong(sealed + ";find 0", 3);
        endsWrong(sealed + ";sew 0", 3);
        isBook(sealed + ";lose 0;find 0;lose 0");
        String two = "book 4 0 2;act sale " + words(8);
        endsWrong(two + ";lose 0;find 1", 3);
        endsWrong(two + ";lose 0;sew 1;sew 1", 3);
        isBook(two + ";lose 0;sew 1;shake;find 0;lose 1");
    }

    private static void tooMany() {
        promise = 3;
        StringBuilder acts = new StringBuilder("book 4 0 2");
        for (int k = 0; k < 10; k++) {
            acts.append(";act loan a;cancel");
        }
        isBook(acts.toString());
        endsWrong(acts + ";act", 4);
        // The smaller code of two.
        endsWrong(acts.substring(0, acts.length() - 7) + ";act", 3);
        isBook("book 4 0 2;act sale ((((a))))");
        hasError("book 4 0 2;act sale (((( ( a)))))", 4, 25);
        hasError("book 4 0 2;act sale (((((", 4, 24);
        isBook("book 4 0 2;act sale ((((a)))) ((((a) (a))))");
        isBook("book 4 0 2;act sale " + words(48));
        endsWrong("book 4 0 2;act sale " + words(49), 4);
        hasError("book 4 0 2;act sale " + words(48) + "(", 1, 116);
        isBook("book 20 0 2;act sale " + words(240));
        endsWrong("book 20 0 2;act sale " + words(241), 4);
        endsWrong("book 4 0 2;act sale " + words(48) + ";cancel;act will abc", 4);
        StringBuilder copies = new StringBuilder("book 4 0 2;act sale a;seal 0 0");
        for (int k = 0; k < 8; k++) {
            copies.append(";copy 1 ").append(k % 3);
        }
        isBook(copies.toString());
        endsWrong(copies + ";copy", 4);
        endsWrong(copies + ";lose 0;copy", 4);
    }

    private static void errors() {
        NotaryBook x = loaded(TWO_ACTS);
        errorIs(x, 0, NotaryBook.NONE);
        argument("a text with an error", () -> load(x, "book 4 0 9"));
        errorIs(x, 2, 9);
        index("a load that does not count", () -> x.load(1));
        argument("a body that is none", () -> begin(x, 0, "()"));
        errorIs(x, 2, 9);
        x.findWord(0);
        load(x, "book 4 0 2;act sale a");
        errorIs(x, 0, NotaryBook.NONE);
        argument("a text with an error", () -> load(x, "book 4 0 2;act sale (((((a"));
        errorIs(x, 4, 24);
        x.undoable();
        x.cancel();
        errorIs(x, 4, 24);
    }

    private static void errorIs(NotaryBook x, int code, int place) {
        promise = 4;
        is("parseError", x.parseError(), code);
        promise = 5;
        is("errorPosition", x.errorPosition(), place);
    }

    private static void buffered() {
        promise = 6;
        NotaryBook x = loaded(TWO_ACTS);
        put(x, "a");
        is("after an append", x.buffered(), 20);
        put(x, "a");
        is("after two", x.buffered(), 40);
        begin(x, 0, "a");
        is("after begin", x.buffered(), 0);
        put(x, "ab");
        x.undo();
        is("after undo", x.buffered(), 20);
        x.save(0);
        x.restore(0);
        is("after restore", x.buffered(), 20);
    }

    public static void main(String[] args) {
        newObject();
        append();
        load();
        syntax();
        bounds();
        refusals();
        tooMany();
        errors();
        buffered();
        end("InputTest");
    }
}
