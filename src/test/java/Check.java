/** What the tests have in common: how a test is told, and how texts come to an object and from it. */
class Check {
    static final Class<?> STATE = IllegalStateException.class;
    static final Class<?> INDEX = IndexOutOfBoundsException.class;
    static final Class<?> ARGUMENT = IllegalArgumentException.class;

    static final int FAST = 0;
    static final int LOOSE = 1;
    static final int LOST = 2;

    // Two acts on three leaves of four words: a sealed sale with marks, and a cancelled will.
    static final String TWO_ACTS = "book 4 1 2;act sale the house (by the sea) is sold;strike 1;"
            + "insert 1 barn;out 3;seal 2 3;act will all to (my (dear) son);cancel";

    static int promise = 0;
    static String sentence = "";
    private static int passed = 0;
    private static int wrong = 0;

    /** Tells how it went, and ends the program with 1 if something was wrong. */
    static void end(String test) {
        System.out.println(test + ": " + passed + " as due, " + wrong + " wrong");
        if (wrong != 0) {
            System.exit(1);
        }
    }

    interface Call {
        Object answer();
    }

    static int told() {
        return passed + wrong;
    }

    static void is(String call, Object got, Object want) {
        if (got.equals(want)) {
            passed++;
        } else {
            wrong++;
            System.out.println("promise " + promise + ": " + call + " answered " + got + ", due is " + want
                    + (sentence.isEmpty() ? "" : " (" + sentence + ")"));
        }
    }

    private static String outcome(Call it) {
        try {
            it.answer();
        } catch (RuntimeException e) {
            return e.getClass().getName();
        }
        return "no exception";
    }

    static void answers(String call, Call it) {
        is(call, outcome(it), "no exception");
    }

    /** The class must be just this one: the machine throws others, which lie below it. */
    static void throwsJust(Class<?> want, String call, Call it) {
        is(call, outcome(it), want.getName());
    }

    static void state(String call, Call it) {
        throwsJust(STATE, call, it);
    }

    static void index(String call, Call it) {
        throwsJust(INDEX, call, it);
    }

    static void argument(String call, Call it) {
        throwsJust(ARGUMENT, call, it);
    }

    /** The call throws, and nothing that can be asked of the object is different then. */
    static void refused(Class<?> want, NotaryBook x, String call, Call it) {
        String before = Shot.of(x);
        throwsJust(want, call, it);
        is(call + " leaves all as it was", Shot.difference(before, Shot.of(x)), "");
    }

    /** Numbers that are not from low to high: those next to them, and such as wrap around to them in a smaller type. */
    static int[] outside(int low, int high) {
        return new int[] {low - 1, high + 1, low - 256, high + 256, low + 65536, Integer.MIN_VALUE, Integer.MAX_VALUE,
                Integer.MIN_VALUE + low, Integer.MAX_VALUE - 1};
    }

    /** Appends a text, and blanks up to the next twenty bytes; returns the number of its own bytes. */
    static int put(NotaryBook x, String text) {
        for (int at = 0; at < text.length(); at += 20) {
            int[] five = new int[5];
            for (int k = 0; k < 20; k++) {
                five[k / 4] = five[k / 4] << 8 | (at + k < text.length() ? text.charAt(at + k) : ' ');
            }
            x.append(five[0], five[1], five[2], five[3], five[4]);
        }
        return text.length();
    }

    static int load(NotaryBook x, String text) {
        return x.load(put(x, text));
    }

    static NotaryBook loaded(String text) {
        NotaryBook x = new NotaryBook();
        load(x, text);
        return x;
    }

    static NotaryBook twoActs() {
        return loaded(TWO_ACTS);
    }

    static int begin(NotaryBook x, int kind, String body) {
        return x.begin(kind, put(x, body));
    }

    static int interline(NotaryBook x, int i, String word) {
        return x.interline(i, put(x, word));
    }

    static int find(NotaryBook x, String word) {
        return x.findWord(put(x, word));
    }

    /** The text that was written last. */
    static String text(NotaryBook x, int bytes) {
        StringBuilder s = new StringBuilder();
        for (int i = 0; i < bytes; i++) {
            s.append((char) x.textByte(i));
        }
        index("textByte behind the text", () -> x.textByte(bytes));
        return s.toString();
    }

    static void leavesAre(NotaryBook x, int... states) {
        is("leaves", x.count(5), states.length);
        for (int l = 0; l < states.length && l < x.count(5); l++) {
            is("leaf " + l, x.leaf(l, 0), states[l]);
        }
    }

    /** The code and the position of the error that a text has; "0 -1" if it has none. */
    static String error(String text) {
        NotaryBook x = new NotaryBook();
        int n = put(x, text);
        try {
            x.load(n);
        } catch (IllegalArgumentException e) {
            is("buffered after " + text, x.buffered(), 0);
        }
        return x.parseError() + " " + x.errorPosition();
    }

    static void hasError(String text, int code, int place) {
        is("the error of " + text, error(text), code + " " + place);
    }

    /** An error at the last token of a text, which begins behind the last blank or semicolon. */
    static void endsWrong(String text, int code) {
        hasError(text, code, Math.max(text.lastIndexOf(' '), text.lastIndexOf(';')) + 1);
    }

    static void isBook(String text) {
        hasError(text, 0, -1);
    }

    static String words(int n) {
        StringBuilder s = new StringBuilder();
        for (int k = 0; k < n; k++) {
            s.append(k == 0 ? "" : " ").append((char) ('a' + k % 26));
        }
        return s.toString();
    }
}
