import java.util.ArrayList;
import java.util.List;

/** Long runs of calls that a fixed sequence of numbers chooses, on NotaryBook and on Model: all answers must agree. */
public final class FuzzTest {
    private static final int RUNS = 4000;
    private static final int CALLS = 500;

    private static long seed = 20261119L;
    private static int wrong = 0;
    private static long agreed = 0;
    private static long refused = 0;

    private interface Call {
        double answer();
    }

    private static int pick(int bound) {
        seed = seed * 6364136223846793005L + 1442695040888963407L;
        return (int) ((seed >>> 33) % bound);
    }

    private static boolean oneIn(int n) {
        return pick(n) == 0;
    }

    private static int number(int bound) {
        if (oneIn(60)) {
            return new int[] {-1, -2, 99, 100, 240, 241, Integer.MIN_VALUE, Integer.MAX_VALUE}[pick(8)];
        }
        return pick(bound);
    }

    /** Mostly what a count of the model leaves: one of so many. */
    private static int oneOf(int what) {
        int there = outcome(() -> model.count(what)).startsWith("java") ? 0 : model.count(what);
        return number(oneIn(10) || there == 0 ? 12 : there);
    }

    private static int actNumber() {
        return oneIn(30) ? 0 : 1 + oneOf(3);
    }

    private static int wordNumber(int a) {
        boolean there = !outcome(() -> model.act(a, 4)).startsWith("java");
        return number(oneIn(10) || !there ? 12 : model.act(a, 4));
    }

    // ---- texts

    private static String word() {
        String[] words = {"a", "by", "sea", "barn", "house", "garden", "meadows", "vineyard", "act", "seal", "copy"};
        return words[pick(words.length)];
    }

    private static void body(StringBuilder s, int items, int depth) {
        for (int k = 0; k < items; k++) {
            if (oneIn(4) && (depth < 4 || oneIn(60))) {
                s.append(oneIn(3) ? "( " : "(");
                body(s, 1 + pick(3), depth + 1);
                s.append(oneIn(3) ? " )" : ")");
            } else {
                s.append(' ').append(word());
            }
        }
    }

    private static String bodyText() {
        StringBuilder s = new StringBuilder();
        body(s, 1 + pick(oneIn(4) ? 60 : 9), 0);
        return s.toString();
    }

    private static String line() {
        switch (pick(12)) {
            case 0:
            case 1:
            case 2:
                return "act " + (oneIn(80) ? "gift" : new String[] {"sale", "will", "loan"}[pick(3)]) + bodyText();
            case 3:
                return "strike " + pick(5);
            case 4:
                return "insert " + pick(oneIn(3) ? 9 : 2) + " " + word();
            case 5:
                return "out " + pick(5);
            case 6:
            case 7:
                return "seal " + pick(10) + " " + pick(6);
            case 8:
                return oneIn(4) ? "cancel" : "copy " + (1 + pick(3)) + " " + pick(3);
            case 9:
                return "lose " + pick(6);
            case 10:
                return (oneIn(2) ? "find " : "sew ") + pick(6);
            default:
                return "shake";
        }
    }

    /** A text whose lines are tried one by one: those that the model refuses are left out, but for a few. */
    private static String bookText() {
        StringBuilder s = new StringBuilder("book ");
        s.append(4 + pick(oneIn(30) ? 20 : oneIn(3) ? 17 : 3)).append(' ');
        s.append(pick(oneIn(30) ? 8 : 4)).append(' ').append(2 + pick(oneIn(30) ? 5 : 3));
        int tries = pick(60);
        while (tries > 0 && s.length() < 540) {
            tries--;
            int before = s.length();
            s.append(oneIn(9) ? " ; " : ";").append(line());
            if ((!Model.accepts(s.toString()) || s.length() > 600) && !oneIn(150)) {
                s.setLength(before);
            }
        }
        return s.toString();
    }

    /** Changes some bytes of one text in nine. */
    private static String bent(String text) {
        StringBuilder s = new StringBuilder(text);
        if (oneIn(9)) {
            for (int k = pick(3); k >= 0 && s.length() > 0; k--) {
                int at = pick(s.length());
                char sign = ";() 0123459azbk\t\u00e9A-".charAt(pick(19));
                if (oneIn(2)) {
                    s.setCharAt(at, sign);
                } else if (oneIn(2)) {
                    s.insert(at, sign);
                } else {
                    s.deleteCharAt(at);
                }
            }
        }
        return s.toString();
    }

    // ---- a run

    private static NotaryBook book;
    private static Model model;
    private static List<String> told;

    /** What a call answers, or which exception it throws: one of the machine's own has another class than these. */
    private static String outcome(Call call) {
        try {
            return Double.toString(call.answer());
        } catch (RuntimeException e) {
            return e.getClass().getName();
        }
    }

    private static void compare(String name, Call mine, Call due) {
        String got = outcome(mine);
        String want = outcome(due);
        told.add(name + " -> " + got);
        if (want.startsWith("java")) {
            refused++;
        } else {
            agreed++;
        }
        if (!got.equals(want)) {
            wrong++;
            if (wrong <= 3) {
                for (String t : told) {
                    System.out.println("  " + t);
                }
                System.out.println("due is " + want);
            }
        }
    }

    private static void put(String text) {
        for (int at = 0; at < text.length(); at += 20) {
            int[] five = new int[5];
            for (int k = 0; k < 20; k++) {
                int b = at + k < text.length() ? text.charAt(at + k) : ' ';
                five[k / 4] = five[k / 4] << 8 | b;
            }
            compare("append", () -> book.append(five[0], five[1], five[2], five[3], five[4]),
                    () -> model.append(five[0], five[1], five[2], five[3], five[4]));
        }
        told.add("(" + text + ")");
    }

    private static int length(String text) {
        return oneIn(50) ? number(60) : text.length();
    }

    private static void loadText() {
        String text = bent(bookText());
        compare("load " + 0, () -> book.load(0), () -> model.load(0));
        put(text);
        int n = length(text);
        compare("load " + n, () -> book.load(n), () -> model.load(n));
        compare("parseError", () -> book.parseError(), () -> model.parseError());
        compare("errorPosition", () -> book.errorPosition(), () -> model.errorPosition());
    }

    private static void change() {
        int open = outcome(() -> model.count(14)).startsWith("java") ? 0 : model.count(14);
        if (open == 0 && oneIn(3)) {
            beginAct();
        } else if (open > 0 && oneIn(2)) {
            changeOpen(open);
        } else {
            changeTheRest();
        }
        compare("undoable", () -> book.undoable(), () -> model.undoable());
        compare("buffered", () -> book.buffered(), () -> model.buffered());
    }

    private static void beginAct() {
        String body = bent(bodyText());
        put(body);
        int kind = number(3);
        int n = length(body);
        compare("begin " + kind + " " + n, () -> book.begin(kind, n), () -> model.begin(kind, n));
        if (oneIn(2)) {
            compare("findWord 0", () -> book.findWord(0), () -> model.findWord(0));
        }
    }

    private static void changeOpen(int open) {
        int i = wordNumber(open);
        switch (pick(6)) {
            case 0:
                compare("strike " + i, () -> book.strike(i), () -> model.strike(i));
                break;
            case 1:
                compare("strikeClause " + i, () -> book.strikeClause(i), () -> model.strikeClause(i));
                break;
            case 2:
            case 3:
                String word = bent(word());
                int place = oneIn(2) ? 0 : i;
                compare("findWord 0", () -> book.findWord(0), () -> model.findWord(0));
                put(word);
                int n = length(word);
                compare("interline " + place + " " + n, () -> book.interline(place, n), () -> model.interline(place, n));
                break;
            case 4:
                int marks = oneIn(5) ? number(9) : model.act(open, 3);
                int witnesses = number(10);
                compare("seal " + witnesses + " " + marks, () -> book.seal(witnesses, marks),
                        () -> model.seal(witnesses, marks));
                break;
            default:
                if (oneIn(4)) {
                    compare("cancel", () -> book.cancel(), () -> model.cancel());
                }
                break;
        }
    }

    private static void changeTheRest() {
        int a = actNumber();
        int l = oneOf(5);
        int grade = number(3);
        switch (pick(9)) {
            case 0:
            case 1:
                compare("addCopy " + a + " " + grade, () -> book.addCopy(a, grade), () -> model.addCopy(a, grade));
                break;
            case 2:
                if (oneIn(4)) {
                    int c = oneOf(8);
                    compare("burn " + c, () -> book.burn(c), () -> model.burn(c));
                }
                break;
            case 3:
                compare("lose " + l, () -> book.lose(l), () -> model.lose(l));
                break;
            case 4:
                compare("recover " + l, () -> book.recover(l), () -> model.recover(l));
                break;
            case 5:
                compare("sew " + l, () -> book.sew(l), () -> model.sew(l));
                break;
            case 6:
                if (oneIn(4)) {
                    compare("shake", () -> book.shake(), () -> model.shake());
                }
                break;
            case 7:
                for (int times = pick(oneIn(4) ? 11 : 2); times >= 0; times--) {
                    compare("undo", () -> book.undo(), () -> model.undo());
                }
                break;
            default:
                int slot = number(2);
                if (!oneIn(4)) {
                    compare("save " + slot, () -> book.save(slot), () -> model.save(slot));
                } else {
                    compare("restore " + slot, () -> book.restore(slot), () -> model.restore(slot));
                }
                break;
        }
    }

    private static void askOfActs() {
        int a = actNumber();
        int other = actNumber();
        int i = wordNumber(a);
        int what = number(16);
        int k = number(9);
        int grade = number(3);
        compare("count " + what, () -> book.count(what), () -> model.count(what));
        compare("count 15", () -> book.count(15), () -> model.count(15));
        compare("act " + a + " " + what, () -> book.act(a, what), () -> model.act(a, what));
        compare("word " + a + " " + i + " " + k, () -> book.word(a, i, k), () -> model.word(a, i, k));
        compare("letter " + a + " " + i + " " + k, () -> book.letter(a, i, k), () -> model.letter(a, i, k));
        compare("innerLetter " + a + " " + i, () -> book.innerLetter(a, i, what % 5, k),
                () -> model.innerLetter(a, i, what % 5, k));
        compare("clause " + a + " " + k + " " + what % 7, () -> book.clause(a, k, what % 7),
                () -> model.clause(a, k, what % 7));
        compare("known " + a, () -> book.known(a), () -> model.known(a));
        compare("firstUnknown " + a, () -> book.firstUnknown(a), () -> model.firstUnknown(a));
        compare("longest " + a, () -> book.longest(a), () -> model.longest(a));
        compare("common " + a + " " + other, () -> book.common(a, other), () -> model.common(a, other));
        compare("bestCopy " + a, () -> book.bestCopy(a), () -> model.bestCopy(a));
        compare("whyNotCopy " + a + " " + grade, () -> book.whyNotCopy(a, grade), () -> model.whyNotCopy(a, grade));
        compare("copyWords " + a + " " + grade, () -> book.copyWords(a, grade), () -> model.copyWords(a, grade));
    }

    private static void askOfTheRest() {
        int l = oneOf(5);
        int c = oneOf(8);
        int what = number(7);
        int i = number(30);
        int words = number(oneIn(2) ? 241 : 60);
        boolean isClause = oneIn(2);
        compare("leaf " + l + " " + what, () -> book.leaf(l, what), () -> model.leaf(l, what));
        compare("copy " + c + " " + what, () -> book.copy(c, what), () -> model.copy(c, what));
        compare("copy " + c + " 4", () -> book.copy(c, 4), () -> model.copy(c, 4));
        compare("has " + c + " " + i, () -> book.has(c, i) ? 1 : 0, () -> model.has(c, i));
        compare("gap", () -> book.gap(), () -> model.gap());
        compare("whyNotSeal " + i + " " + what, () -> book.whyNotSeal(i, what), () -> model.whyNotSeal(i, what));
        compare("whyNotStrike " + i, () -> book.whyNotStrike(i), () -> model.whyNotStrike(i));
        compare("unknownIf " + l, () -> book.unknownIf(l), () -> model.unknownIf(l));
        compare("worstLeaf", () -> book.worstLeaf(), () -> model.worstLeaf());
        compare("shakenOut", () -> book.shakenOut(), () -> model.shakenOut());
        compare("leavesFor " + words, () -> book.leavesFor(words), () -> model.leavesFor(words));
        compare("standingIf " + i + " " + isClause, () -> book.standingIf(i, isClause),
                () -> model.standingIf(i, isClause));
        compare("knownShare", () -> book.knownShare(), () -> model.knownShare());
        compare("meanWords", () -> book.meanWords(), () -> model.meanWords());
        if (oneIn(4)) {
            String word = bent(word());
            compare("findWord 0", () -> book.findWord(0), () -> model.findWord(0));
            put(word);
            int n = length(word);
            compare("findWord " + n, () -> book.findWord(n), () -> model.findWord(n));
        }
    }

    private static void askTexts() {
        int k = oneIn(3) ? actNumber() : oneIn(2) ? oneOf(5) : oneOf(8);
        switch (pick(4)) {
            case 0:
                compare("writeAct " + k, () -> book.writeAct(k), () -> model.writeAct(k));
                break;
            case 1:
                compare("writeStanding " + k, () -> book.writeStanding(k), () -> model.writeStanding(k));
                break;
            case 2:
                compare("writeLeaf " + k, () -> book.writeLeaf(k), () -> model.writeLeaf(k));
                break;
            default:
                compare("writeCopy " + k, () -> book.writeCopy(k), () -> model.writeCopy(k));
                break;
        }
        for (int at = -1; at < 300; at++) {
            int i = at;
            boolean ends = outcome(() -> model.textByte(i)).startsWith("java");
            compare("textByte " + i, () -> book.textByte(i), () -> model.textByte(i));
            if (ends && i >= 0) {
                break;
            }
        }
    }

    private static void run() {
        book = new NotaryBook();
        model = new Model();
        told = new ArrayList<>();
        while (told.size() < CALLS && wrong == 0) {
            if (oneIn(60) || told.isEmpty() && !oneIn(9)) {
                loadText();
            } else if (!oneIn(3)) {
                change();
            } else if (oneIn(12)) {
                askTexts();
            } else if (oneIn(2)) {
                askOfActs();
            } else {
                askOfTheRest();
            }
        }
    }

    public static void main(String[] args) {
        for (int r = 0; r < RUNS && wrong == 0; r++) {
            run();
        }
        System.out.println("FuzzTest: " + agreed + " answers, " + refused + " exceptions, " + wrong + " wrong");
        if (wrong != 0) {
            System.exit(1);
        }
    }
}
