/** Promises 1 to 6, and the text format: what is a book, and where each error is found. */
public final class InputTest {
    private static void newObject() {
        Check.promise = 1;
        NotaryBook x = new NotaryBook();
        Check.is("buffered", x.buffered(), 0);
        Check.is("parseError", x.parseError(), 0);
        Check.is("errorPosition", x.errorPosition(), NotaryBook.NONE);
        Check.is("undoable", x.undoable(), 0);
        Check.is("NONE", NotaryBook.NONE, -1);
        Check.throwsJust(Check.STATE, "count", () -> x.count(3));
        Check.throwsJust(Check.STATE, "undo", () -> x.undo());
        Check.throwsJust(Check.INDEX, "textByte", () -> x.textByte(0));
    }

    private static void append() {
        Check.promise = 2;
        NotaryBook x = new NotaryBook();
        Check.is("the first", x.append(0x626f6f6b, 0x20342030, 0x20322020, 0x20202020, 0x20202020), 20);
        Check.is("the bytes stand in order", x.load(10), 0);
        Check.is("ROOM", x.count(0), 4);
        for (int k = 1; k <= 30; k++) {
            Check.is("append " + k, x.append(-1, Integer.MIN_VALUE, 0, Integer.MAX_VALUE, 1), 20 * k);
        }
        Check.is("the 31st", x.append(1, 2, 3, 4, 5), NotaryBook.NONE);
        Check.is("nothing is appended", x.buffered(), 600);
        Check.throwsJust(Check.ARGUMENT, "bytes that are no letters", () -> x.load(600));
        Check.is("its place", x.errorPosition(), 0);
        // All four bytes of an argument, also those whose highest bit is set.
        NotaryBook y = new NotaryBook();
        y.append(0x626f6f6b, 0x20342030, 0x20322020, 0x202020e1, 0x20202020);
        Check.throwsJust(Check.ARGUMENT, "a byte over 127", () -> y.load(20));
        Check.is("its place", y.errorPosition(), 15);
    }

    private static void load() {
        Check.promise = 3;
        NotaryBook x = new NotaryBook();
        Check.is("acts", Check.load(x, Check.TWO_ACTS), 2);
        Check.is("the buffer is empty", x.buffered(), 0);
        Check.begin(x, 0, "a");
        x.save(0);
        Check.put(x, "book 5 0 3");
        Check.throwsJust(Check.INDEX, "more bytes than there are", () -> x.load(21));
        Check.throwsJust(Check.INDEX, "less than none", () -> x.load(-1));
        Check.is("the buffer stays", x.buffered(), 20);
        Check.is("parseError stays", x.parseError(), 0);
        Check.throwsJust(Check.ARGUMENT, "a part of the text", () -> x.load(8));
        Check.is("the buffer is empty", x.buffered(), 0);
        Check.is("the book stays", x.count(3), 3);
        Check.is("the changes stay", x.undoable(), 1);
        Check.is("the slot stays", x.save(1), 3);
        Check.is("a slot of the book before", x.restore(0), 3);
        x.cancel();
        Check.is("another book", Check.load(x, "book 5 0 3"), 0);
        Check.is("ROOM", x.count(0), 5);
        Check.is("nothing can be undone", x.undoable(), 0);
        Check.throwsJust(Check.STATE, "undo", () -> x.undo());
        Check.throwsJust(Check.STATE, "restore 0", () -> x.restore(0));
        Check.throwsJust(Check.STATE, "restore 1", () -> x.restore(1));
        int n = Check.put(x, "book 4 0 2;act sale abcde");
        Check.is("a word ends at the n-th byte", x.load(n - 2), 1);
        Check.is("its letters", x.word(1, 0, 4), 3);
        int m = Check.put(x, "book 4 0 23");
        Check.is("a number ends at the n-th byte", x.load(m - 1), 0);
        Check.is("GATHER", x.count(2), 2);
        Check.throwsJust(Check.ARGUMENT, "no bytes", () -> x.load(0));
        String blanks = Check.words(290).replaceAll("[a-z]", " ");
        for (String end : new String[] {"book 20 4 4", "book 4 0 2;act loan a", "book 4 0 2;act loan (a)"}) {
            Check.put(x, (blanks + blanks).substring(0, 600 - end.length()) + end);
            Check.is("a full buffer that ends with " + end, x.load(600), end.contains("act") ? 1 : 0);
        }
    }

    private static void syntax() {
        Check.promise = 3;
        Check.isBook("book 4 0 2");
        Check.isBook("  book  20 4  4 ");
        Check.isBook("book4 0 2;act sale(a)b((c)d)");
        Check.isBook("book 04 00 02;act will a;strike 00;insert0a");
        Check.isBook(Check.TWO_ACTS);
        Check.isBook("book 4 0 2;act sale act book (strike) seal;cancel;shake");
        Check.hasError("", 1, 0);
        Check.hasError("   ", 1, 3);
        Check.hasError("look 4 0 2", 1, 0);
        Check.hasError("book", 1, 4);
        Check.hasError("book ;4 0 2", 1, 5);
        Check.hasError("book 4 0", 1, 8);
        Check.hasError("book 4 0 2 ", 0, -1);
        Check.hasError("book 4 0 2;", 1, 11);
        Check.hasError("book 4 0 2;  ", 1, 13);
        Check.hasError("book 4 0 2;;shake", 1, 11);
        Check.hasError("book 4 0 2 shake", 1, 11);
        Check.hasError("book 4 0 2;shake 1", 1, 17);
        Check.hasError("book 4 0 2;quake", 1, 11);
        Check.hasError("book 4 0 2;7", 1, 11);
        Check.hasError("book 4 0 2;(", 1, 11);
        Check.hasError("book 4 0 2;Shake", 1, 11);
        Check.hasError("book 4 0 2;\tshake", 1, 11);
        Check.hasError("book 4 0 2;shakenout", 1, 11);
        Check.hasError("book 004 0 2", 1, 5);
        Check.hasError("book 4 0 2;act", 1, 14);
        Check.hasError("book 4 0 2;act gift a", 1, 15);
        Check.hasError("book 4 0 2;act sale", 1, 19);
        Check.hasError("book 4 0 2;act sale ;shake", 1, 20);
        Check.hasError("book 4 0 2;act sale ()", 1, 21);
        Check.hasError("book 4 0 2;act sale (a ())", 1, 24);
        Check.hasError("book 4 0 2;act sale a)", 1, 21);
        Check.hasError("book 4 0 2;act sale )", 1, 20);
        Check.hasError("book 4 0 2;act sale (a;cancel", 1, 22);
        Check.hasError("book 4 0 2;act sale (a", 1, 22);
        Check.hasError("book 4 0 2;act sale a 1", 1, 22);
        Check.hasError("book 4 0 2;act sale abcdefgh;cancel", 0, -1);
        Check.hasError("book 4 0 2;act sale abcdefghi;cancel", 1, 20);
        Check.hasError("book 4 0 2;act sale a;insert 0", 1, 30);
        Check.hasError("book 4 0 2;act sale a;insert 0 1", 1, 31);
        Check.hasError("book 4 0 2;act sale a;insert 0 abcdefghi", 1, 31);
        Check.hasError("book 4 0 2;act sale a;seal 0", 1, 28);
        Check.hasError("book 4 0 2;act sale a;seal 0 100", 1, 29);
        Check.hasError("book 4 0 2;act sale a;seal 0 0;copy 1", 1, 37);
        Check.hasError("book 4 0 2;act sale a;lose", 1, 26);
        Check.hasError("book 4 0 2;cancel cancel", 3, 11);
    }

    private static void bounds() {
        Check.promise = 3;
        String open = "book 4 2 2;act sale a (b) c";
        String sealed = open + ";seal 2 0";
        for (String head : new String[] {"book 3", "book 21", "book 4 5", "book 4 0 1", "book 4 0 5"}) {
            Check.endsWrong(head, 2);
        }
        Check.isBook("book 20 4 4");
        for (String word : new String[] {"strike", "out", "insert"}) {
            Check.endsWrong("book 4 0 2;" + word + " 0", 2);
            Check.endsWrong(open + ";" + word + " 3", 2);
            Check.endsWrong(sealed + ";" + word + " 0", 2);
        }
        Check.endsWrong(open + ";seal 10", 2);
        Check.endsWrong("book 4 0 2;copy 1", 2);
        Check.endsWrong(sealed + ";copy 0", 2);
        Check.endsWrong(sealed + ";copy 2", 2);
        Check.endsWrong(sealed + ";copy 1 3", 2);
        for (String word : new String[] {"lose", "find", "sew"}) {
            Check.endsWrong("book 4 0 2;" + word + " 0", 2);
            Check.endsWrong(sealed + ";" + word + " 1", 2);
        }
    }

    private static void refusals() {
        Check.promise = 3;
        String open = "book 4 2 2;act sale a (b) c";
        String sealed = open + ";seal 2 0";
        Check.endsWrong(open + ";act", 3);
        Check.hasError(open + ";act gift", 3, open.length() + 1);
        Check.isBook(open + ";cancel;act sale a");
        Check.endsWrong(open + ";strike 0;strike 0", 3);
        Check.endsWrong(open + ";out 0", 3);
        Check.isBook(open + ";out 1;out 1");
        Check.endsWrong(open + ";out 1;strike 1", 3);
        Check.endsWrong(open + ";insert 2 x;insert 2 x;insert 2 x;insert 2 x;insert 2", 3);
        Check.isBook(open + ";strike 2;insert 2 x;insert 2 x;insert 2 x;insert 2 x;insert 1 x");
        Check.endsWrong(open + ";seal 1 0", 3);
        Check.endsWrong(open + ";seal 2 1", 3);
        Check.endsWrong("book 4 2 2;seal 2 0", 3);
        Check.endsWrong("book 4 0 2;act sale a;strike 0;seal 0 1", 3);
        Check.isBook("book 4 0 2;act sale a;strike 0;insert 0 b;seal 0 2");
        Check.endsWrong("book 4 0 2;cancel", 3);
        Check.endsWrong(sealed + ";cancel", 3);
        Check.endsWrong(open + ";copy 1 0", 3);
        Check.endsWrong(open + ";cancel;copy 1 0", 3);
        Check.endsWrong(sealed + ";lose 0;copy 1 2", 3);
        Check.isBook(sealed + ";copy 1 1;lose 0;copy 1 0");
        Check.endsWrong(sealed + ";copy 1 2;lose 0;copy 1 1", 3);
        Check.endsWrong(sealed + ";lose 0;lose 0", 3);
        Check.endsWrong(sealed + ";find 0", 3);
        Check.endsWrong(sealed + ";sew 0", 3);
        Check.isBook(sealed + ";lose 0;find 0;lose 0");
        String two = "book 4 0 2;act sale " + Check.words(8);
        Check.endsWrong(two + ";lose 0;find 1", 3);
        Check.endsWrong(two + ";lose 0;sew 1;sew 1", 3);
        Check.isBook(two + ";lose 0;sew 1;shake;find 0;lose 1");
    }

    private static void tooMany() {
        Check.promise = 3;
        StringBuilder acts = new StringBuilder("book 4 0 2");
        for (int k = 0; k < 10; k++) {
            acts.append(";act loan a;cancel");
        }
        Check.isBook(acts.toString());
        Check.endsWrong(acts + ";act", 4);
        // The smaller code of two.
        Check.endsWrong(acts.substring(0, acts.length() - 7) + ";act", 3);
        Check.isBook("book 4 0 2;act sale ((((a))))");
        Check.hasError("book 4 0 2;act sale (((( ( a)))))", 4, 25);
        Check.hasError("book 4 0 2;act sale (((((", 4, 24);
        Check.isBook("book 4 0 2;act sale ((((a)))) ((((a) (a))))");
        Check.isBook("book 4 0 2;act sale " + Check.words(48));
        Check.endsWrong("book 4 0 2;act sale " + Check.words(49), 4);
        Check.hasError("book 4 0 2;act sale " + Check.words(48) + "(", 1, 116);
        Check.isBook("book 20 0 2;act sale " + Check.words(240));
        Check.endsWrong("book 20 0 2;act sale " + Check.words(241), 4);
        Check.endsWrong("book 4 0 2;act sale " + Check.words(48) + ";cancel;act will abc", 4);
        StringBuilder copies = new StringBuilder("book 4 0 2;act sale a;seal 0 0");
        for (int k = 0; k < 8; k++) {
            copies.append(";copy 1 ").append(k % 3);
        }
        Check.isBook(copies.toString());
        Check.endsWrong(copies + ";copy", 4);
        Check.endsWrong(copies + ";lose 0;copy", 4);
    }

    private static void errors() {
        NotaryBook x = Check.loaded(Check.TWO_ACTS);
        errorIs(x, 0, NotaryBook.NONE);
        Check.throwsJust(Check.ARGUMENT, "a text with an error", () -> Check.load(x, "book 4 0 9"));
        errorIs(x, 2, 9);
        Check.throwsJust(Check.INDEX, "a load that does not count", () -> x.load(1));
        Check.throwsJust(Check.ARGUMENT, "a body that is none", () -> Check.begin(x, 0, "()"));
        errorIs(x, 2, 9);
        x.findWord(0);
        Check.load(x, "book 4 0 2;act sale a");
        errorIs(x, 0, NotaryBook.NONE);
        Check.throwsJust(Check.ARGUMENT, "a text with an error", () -> Check.load(x, "book 4 0 2;act sale (((((a"));
        errorIs(x, 4, 24);
        x.undoable();
        x.cancel();
        errorIs(x, 4, 24);
    }

    private static void errorIs(NotaryBook x, int code, int place) {
        Check.promise = 4;
        Check.is("parseError", x.parseError(), code);
        Check.promise = 5;
        Check.is("errorPosition", x.errorPosition(), place);
    }

    private static void buffered() {
        Check.promise = 6;
        NotaryBook x = Check.loaded(Check.TWO_ACTS);
        Check.put(x, "a");
        Check.is("after an append", x.buffered(), 20);
        Check.put(x, "a");
        Check.is("after two", x.buffered(), 40);
        Check.begin(x, 0, "a");
        Check.is("after begin", x.buffered(), 0);
        Check.put(x, "ab");
        x.undo();
        Check.is("after undo", x.buffered(), 20);
        x.save(0);
        x.restore(0);
        Check.is("after restore", x.buffered(), 20);
    }

    public static void main(String[] args) {
        newObject();
        append();
        load();
        syntax();
        bounds();
        refusals();
        tooMany();
        errors();
        buffered();
        Check.end("InputTest");
    }
}
