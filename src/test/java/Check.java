/** What the tests of the promises have in common: how a test is told, and how texts come to an object and from it. */
final class Check {
    static final Class<?> STATE = IllegalStateException.class;
    static final Class<?> INDEX = IndexOutOfBoundsException.class;
    static final Class<?> ARGUMENT = IllegalArgumentException.class;

    // Two acts on three leaves of four words: a sealed sale with marks, and a cancelled will.
    static final String TWO_ACTS = "book 4 1 2;act sale the house (by the sea) is sold;strike 1;"
            + "insert 1 barn;out 3;seal 2 3;act will all to (my (dear) son);cancel";

    static int promise = 0;
    private static int passed = 0;
    private static int wrong = 0;

    private Check() {
    }

    /** Tells how it went, and ends the program with 1 if something was wrong. */
    static void end(String test) {
        System.out.println(test + ": " + passed + " as due, " + wrong + " wrong");
        if (wrong != 0) {
            System.exit(1);
        }
    }

    interface Call {
        Object answer();
    }

    static void is(String call, Object got, Object want) {
        if (got.equals(want)) {
            passed++;
        } else {
            wrong++;
            System.out.println("promise " + promise + ": " + call + " answered " + got + ", due is " + want);
        }
    }

    /** The class must be just this one: the machine throws others, which lie below it. */
    static void throwsJust(Class<?> want, String call, Call it) {
        Object got = "no exception";
        try {
            it.answer();
        } catch (RuntimeException e) {
            got = e.getClass();
        }
        is(call, got, want);
    }

    /** Appends a text, and blanks up to the next twenty bytes; returns the number of its own bytes. */
    static int put(NotaryBook x, String text) {
        for (int at = 0; at < text.length(); at += 20) {
            int[] five = new int[5];
            for (int k = 0; k < 20; k++) {
                five[k / 4] = five[k / 4] << 8 | (at + k < text.length() ? text.charAt(at + k) : ' ');
            }
            x.append(five[0], five[1], five[2], five[3], five[4]);
        }
        return text.length();
    }

    static int load(NotaryBook x, String text) {
        return x.load(put(x, text));
    }

    static NotaryBook loaded(String text) {
        NotaryBook x = new NotaryBook();
        load(x, text);
        return x;
    }

    static int begin(NotaryBook x, int kind, String body) {
        return x.begin(kind, put(x, body));
    }

    static int interline(NotaryBook x, int i, String word) {
        return x.interline(i, put(x, word));
    }

    static int find(NotaryBook x, String word) {
        return x.findWord(put(x, word));
    }

    /** The text that was written last. */
    static String text(NotaryBook x, int bytes) {
        StringBuilder s = new StringBuilder();
        for (int i = 0; i < bytes; i++) {
            s.append((char) x.textByte(i));
        }
        throwsJust(INDEX, "textByte behind the text", () -> x.textByte(bytes));
        return s.toString();
    }

    /** The code and the position of the error that a text has; "0 -1" if it has none. */
    static String error(String text) {
        NotaryBook x = new NotaryBook();
        int n = put(x, text);
        try {
            x.load(n);
        } catch (IllegalArgumentException e) {
            is("buffered after " + text, x.buffered(), 0);
        }
        return x.parseError() + " " + x.errorPosition();
    }

    static void hasError(String text, int code, int place) {
        is("the error of " + text, error(text), code + " " + place);
    }

    /** An error at the last token of a text, which begins behind the last blank or semicolon. */
    static void endsWrong(String text, int code) {
        hasError(text, code, Math.max(text.lastIndexOf(' '), text.lastIndexOf(';')) + 1);
    }

    static void isBook(String text) {
        hasError(text, 0, -1);
    }

    static String words(int n) {
        StringBuilder s = new StringBuilder();
        for (int k = 0; k < n; k++) {
            s.append(k == 0 ? "" : " ").append((char) ('a' + k % 26));
        }
        return s.toString();
    }
}
