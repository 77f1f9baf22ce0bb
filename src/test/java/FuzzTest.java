import java.util.ArrayList;
import java.util.List;

/** Long runs of calls that a fixed sequence of numbers chooses, on NotaryBook and on Model: all answers must agree. */
public final class FuzzTest {
    private static final int RUNS = 6000;
    private static final int CALLS = 500;

    private static long seed = 20261119L;
    private static int wrong = 0;
    private static long agreed = 0;
    private static long refused = 0;

    private interface Call {
        double answer();
    }

    private static int pick(int bound) {
        seed = seed * 6364136223846793005L + 1442695040888963407L;
        return (int) ((seed >>> 33) % bound);
    }

    private static boolean oneIn(int n) {
        return pick(n) == 0;
    }

    private static int number(int bound) {
        if (oneIn(40)) {
            return new int[] {-1, -2, 99, 100, 240, 241, Integer.MIN_VALUE, Integer.MAX_VALUE}[pick(8)];
        }
        return pick(bound);
    }

    // ---- texts

    private static String word() {
        String[] words = {"a", "by", "sea", "barn", "house", "garden", "meadows", "vineyard", "act", "seal", "copy"};
        return words[pick(words.length)];
    }

    private static void body(StringBuilder s, int items, int depth) {
        for (int k = 0; k < items; k++) {
            if (oneIn(4) && (depth < 4 || oneIn(60))) {
                s.append(oneIn(3) ? "( " : "(");
                body(s, 1 + pick(3), depth + 1);
                s.append(oneIn(3) ? " )" : ")");
            } else {
                s.append(' ').append(word());
            }
        }
    }

    private static String bodyText() {
        StringBuilder s = new StringBuilder();
        body(s, 1 + pick(oneIn(4) ? 40 : 9), 0);
        return s.toString();
    }

    private static String line(int[] state) {
        if (state[0] == 0 && oneIn(2) || oneIn(60)) {
            state[0] = 1;
            state[1] = 0;
            return "act " + (oneIn(80) ? "gift" : new String[] {"sale", "will", "loan"}[pick(3)]) + bodyText();
        }
        if (state[0] == 1) {
            switch (pick(6)) {
                case 0:
                    state[1]++;
                    return "strike " + pick(4);
                case 1:
                    state[1]++;
                    return "insert " + pick(4) + " " + word();
                case 2:
                    if (oneIn(3)) {
                        state[1]++;
                        return "out " + pick(3);
                    }
                    return "shake";
                case 3:
                    if (oneIn(3)) {
                        state[0] = 0;
                        return "cancel";
                    }
                    break;
                default:
                    break;
            }
            state[0] = 0;
            return "seal " + (3 + pick(6)) + " " + state[1];
        }
        switch (pick(5)) {
            case 0:
                return "copy " + (1 + pick(3)) + " " + pick(3);
            case 1:
                return "lose " + pick(4);
            case 2:
                return "find " + pick(4);
            case 3:
                return "sew " + pick(4);
            default:
                return "shake";
        }
    }

    private static String bookText() {
        StringBuilder s = new StringBuilder("book ");
        s.append(4 + pick(oneIn(30) ? 20 : 5)).append(' ').append(pick(oneIn(30) ? 8 : 4)).append(' ');
        s.append(2 + pick(oneIn(30) ? 5 : 3));
        int[] state = {0, 0};
        for (int lines = pick(10); lines > 0; lines--) {
            s.append(oneIn(9) ? " ; " : ";").append(line(state));
        }
        return s.toString();
    }

    /** Changes some bytes of one text in four. */
    private static String bent(String text) {
        StringBuilder s = new StringBuilder(text);
        if (oneIn(4)) {
            for (int k = pick(3); k >= 0 && s.length() > 0; k--) {
                int at = pick(s.length());
                char sign = ";() 0123459azbk\t\u00e9A-".charAt(pick(19));
                if (oneIn(2)) {
                    s.setCharAt(at, sign);
                } else if (oneIn(2)) {
                    s.insert(at, sign);
                } else {
                    s.deleteCharAt(at);
                }
            }
        }
        return s.toString();
    }

    // ---- a run

    private static NotaryBook book;
    private static Model model;
    private static List<String> told;

    /** What a call answers, or which exception it throws: one of the machine's own has another class than these. */
    private static String outcome(Call call) {
        try {
            return Double.toString(call.answer());
        } catch (RuntimeException e) {
            return e.getClass().getName();
        }
    }

    private static void compare(String name, Call mine, Call due) {
        String got = outcome(mine);
        String want = outcome(due);
        told.add(name + " -> " + got);
        if (want.startsWith("java")) {
            refused++;
        } else {
            agreed++;
        }
        if (!got.equals(want)) {
            wrong++;
            if (wrong <= 3) {
                for (String t : told) {
                    System.out.println("  " + t);
                }
                System.out.println("due is " + want);
            }
        }
    }

    private static void put(String text) {
        for (int at = 0; at < text.length(); at += 20) {
            int[] five = new int[5];
            for (int k = 0; k < 20; k++) {
                int b = at + k < text.length() ? text.charAt(at + k) : ' ';
                five[k / 4] = five[k / 4] << 8 | b;
            }
            compare("append", () -> book.append(five[0], five[1], five[2], five[3], five[4]),
                    () -> model.append(five[0], five[1], five[2], five[3], five[4]));
        }
        told.add("(" + text + ")");
    }

    private static int length(String text) {
        return oneIn(50) ? number(60) : text.length();
    }

    private static void loadText() {
        String text = bent(bookText());
        put(text);
        int n = length(text);
        compare("load " + n, () -> book.load(n), () -> model.load(n));
        compare("parseError", () -> book.parseError(), () -> model.parseError());
        compare("errorPosition", () -> book.errorPosition(), () -> model.errorPosition());
    }

    private static void change() {
        int a = number(4);
        int b = number(8);
        switch (pick(16)) {
            case 0:
            case 1:
                String body = bent(bodyText());
                put(body);
                int n = length(body);
                compare("begin " + a + " " + n, () -> book.begin(a, n), () -> model.begin(a, n));
                break;
            case 2:
                compare("strike " + b, () -> book.strike(b), () -> model.strike(b));
                break;
            case 3:
                compare("strikeClause " + b, () -> book.strikeClause(b), () -> model.strikeClause(b));
                break;
            case 4:
                String word = bent(word());
                put(word);
                int m = length(word);
                compare("interline " + a + " " + m, () -> book.interline(a, m), () -> model.interline(a, m));
                break;
            case 5:
            case 6:
                int open = outcome(() -> model.count(14)).startsWith("java") ? 0 : model.count(14);
                int marks = open > 0 && !oneIn(4) ? model.act(open, 3) : b;
                int w = 2 + number(4);
                compare("seal " + w + " " + marks, () -> book.seal(w, marks), () -> model.seal(w, marks));
                break;
            case 7:
                if (oneIn(4)) {
                    compare("cancel", () -> book.cancel(), () -> model.cancel());
                }
                break;
            case 8:
                compare("addCopy " + b + " " + a, () -> book.addCopy(b, a), () -> model.addCopy(b, a));
                break;
            case 9:
                if (oneIn(3)) {
                    compare("burn " + a, () -> book.burn(a), () -> model.burn(a));
                }
                break;
            case 10:
                compare("lose " + b, () -> book.lose(b), () -> model.lose(b));
                break;
            case 11:
                compare("recover " + b, () -> book.recover(b), () -> model.recover(b));
                break;
            case 12:
                compare("sew " + b, () -> book.sew(b), () -> model.sew(b));
                break;
            case 13:
                compare("shake", () -> book.shake(), () -> model.shake());
                break;
            case 14:
                compare("undo", () -> book.undo(), () -> model.undo());
                break;
            default:
                int slot = number(2);
                if (oneIn(2)) {
                    compare("save " + slot, () -> book.save(slot), () -> model.save(slot));
                } else {
                    compare("restore " + slot, () -> book.restore(slot), () -> model.restore(slot));
                }
                break;
        }
        compare("undoable", () -> book.undoable(), () -> model.undoable());
        compare("buffered", () -> book.buffered(), () -> model.buffered());
    }

    private static void askOfActs() {
        int a = number(6);
        int i = number(9);
        int what = number(12);
        int k = number(9);
        compare("count " + k, () -> book.count(k), () -> model.count(k));
        compare("count 15", () -> book.count(15), () -> model.count(15));
        compare("act " + a + " " + what, () -> book.act(a, what), () -> model.act(a, what));
        compare("word " + a + " " + i + " " + k, () -> book.word(a, i, k), () -> model.word(a, i, k));
        compare("letter " + a + " " + i + " " + k, () -> book.letter(a, i, k), () -> model.letter(a, i, k));
        compare("innerLetter " + a + " " + i, () -> book.innerLetter(a, i, what, k),
                () -> model.innerLetter(a, i, what, k));
        compare("clause " + a + " " + i + " " + k, () -> book.clause(a, i, k), () -> model.clause(a, i, k));
        compare("known " + a, () -> book.known(a), () -> model.known(a));
        compare("firstUnknown " + a, () -> book.firstUnknown(a), () -> model.firstUnknown(a));
        compare("longest " + a, () -> book.longest(a), () -> model.longest(a));
        compare("common " + a + " " + k, () -> book.common(a, k), () -> model.common(a, k));
        compare("bestCopy " + a, () -> book.bestCopy(a), () -> model.bestCopy(a));
        compare("whyNotCopy " + a, () -> book.whyNotCopy(a, i % 4), () -> model.whyNotCopy(a, i % 4));
        compare("copyWords " + a, () -> book.copyWords(a, i % 4), () -> model.copyWords(a, i % 4));
    }

    private static void askOfTheRest() {
        int l = number(9);
        int what = number(7);
        int i = number(12);
        boolean isClause = oneIn(2);
        compare("leaf " + l + " " + what, () -> book.leaf(l, what), () -> model.leaf(l, what));
        compare("copy " + l + " " + what, () -> book.copy(l, what), () -> model.copy(l, what));
        compare("has " + l + " " + i, () -> book.has(l, i) ? 1 : 0, () -> model.has(l, i));
        compare("gap", () -> book.gap(), () -> model.gap());
        compare("whyNotSeal " + i + " " + l, () -> book.whyNotSeal(i, l), () -> model.whyNotSeal(i, l));
        compare("whyNotStrike " + i, () -> book.whyNotStrike(i), () -> model.whyNotStrike(i));
        compare("unknownIf " + l, () -> book.unknownIf(l), () -> model.unknownIf(l));
        compare("worstLeaf", () -> book.worstLeaf(), () -> model.worstLeaf());
        compare("shakenOut", () -> book.shakenOut(), () -> model.shakenOut());
        compare("leavesFor " + i * 9, () -> book.leavesFor(i * 9), () -> model.leavesFor(i * 9));
        compare("standingIf " + i + " " + isClause, () -> book.standingIf(i, isClause),
                () -> model.standingIf(i, isClause));
        compare("knownShare", () -> book.knownShare(), () -> model.knownShare());
        compare("meanWords", () -> book.meanWords(), () -> model.meanWords());
        if (oneIn(4)) {
            String word = bent(word());
            put(word);
            int n = length(word);
            compare("findWord " + n, () -> book.findWord(n), () -> model.findWord(n));
        }
    }

    private static void askTexts() {
        int k = number(6);
        switch (pick(4)) {
            case 0:
                compare("writeAct " + k, () -> book.writeAct(k), () -> model.writeAct(k));
                break;
            case 1:
                compare("writeStanding " + k, () -> book.writeStanding(k), () -> model.writeStanding(k));
                break;
            case 2:
                compare("writeLeaf " + k, () -> book.writeLeaf(k), () -> model.writeLeaf(k));
                break;
            default:
                compare("writeCopy " + k, () -> book.writeCopy(k), () -> model.writeCopy(k));
                break;
        }
        for (int at = -1; at < 300; at++) {
            int i = at;
            boolean ends = outcome(() -> model.textByte(i)).startsWith("java");
            compare("textByte " + i, () -> book.textByte(i), () -> model.textByte(i));
            if (ends && i >= 0) {
                break;
            }
        }
    }

    private static void run() {
        book = new NotaryBook();
        model = new Model();
        told = new ArrayList<>();
        while (told.size() < CALLS && wrong == 0) {
            if (oneIn(25) || told.isEmpty() && !oneIn(9)) {
                loadText();
            } else if (!oneIn(3)) {
                change();
            } else if (oneIn(12)) {
                askTexts();
            } else if (oneIn(2)) {
                askOfActs();
            } else {
                askOfTheRest();
            }
        }
    }

    public static void main(String[] args) {
        for (int r = 0; r < RUNS && wrong == 0; r++) {
            run();
        }
        System.out.println("FuzzTest: " + agreed + " answers, " + refused + " exceptions, " + wrong + " wrong");
        if (wrong != 0) {
            System.exit(1);
        }
    }
}
