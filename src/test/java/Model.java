import java.util.ArrayList;
import java.util.HashSet;
import java.util.List;
import java.util.Set;

/**
 * The document told a second time, with the lists and sets of the Java library and without any care for
 * speed: FuzzTest compares NotaryBook with it. It answers with a number or throws what the document names.
 */
final class Model {
    static final int NONE = -1;

    static final class Word {
        String letters;
        boolean struck;
        List<String> inner = new ArrayList<>();
        // The clauses in which the word is, from the outermost one on.
        List<Integer> path = new ArrayList<>();
    }

    static final class Act {
        int kind;
        int stage;
        int witnesses;
        int marks;
        int fee;
        List<Word> words = new ArrayList<>();
        // For each clause the one around it, NONE if there is none.
        List<Integer> parents = new ArrayList<>();
    }

    static final class Copy {
        int act;
        int grade;
        Set<Integer> has = new HashSet<>();
        int inner;
    }

    static final class State {
        List<Act> acts = new ArrayList<>();
        List<Integer> leaves = new ArrayList<>();
        List<Copy> copies = new ArrayList<>();
        int cash;
    }

    static final class Refusal extends Exception {
        private static final long serialVersionUID = 1L;
        final int code;
        final int place;

        Refusal(int code, int place) {
            this.code = code;
            this.place = place;
        }
    }

    private final List<Integer> buffer = new ArrayList<>();
    private int error;
    private int place = NONE;
    private boolean loaded;
    private int room;
    private int need;
    private int gather;
    private State now = new State();
    private final List<State> past = new ArrayList<>();
    private final State[] slots = new State[2];
    private String text = "";

    // ---- the state

    private static State cloned(State s) {
        State t = new State();
        t.cash = s.cash;
        t.leaves.addAll(s.leaves);
        for (Act a : s.acts) {
            Act b = new Act();
            b.kind = a.kind;
            b.stage = a.stage;
            b.witnesses = a.witnesses;
            b.marks = a.marks;
            b.fee = a.fee;
            b.parents.addAll(a.parents);
            for (Word w : a.words) {
                Word v = new Word();
                v.letters = w.letters;
                v.struck = w.struck;
                v.inner.addAll(w.inner);
                v.path.addAll(w.path);
                b.words.add(v);
            }
            t.acts.add(b);
        }
        for (Copy c : s.copies) {
            Copy d = new Copy();
            d.act = c.act;
            d.grade = c.grade;
            d.has.addAll(c.has);
            d.inner = c.inner;
            t.copies.add(d);
        }
        return t;
    }

    private void change() {
        past.add(cloned(now));
        if (past.size() > 8) {
            past.remove(0);
        }
    }

    private Act open() {
        if (now.acts.isEmpty() || now.acts.get(now.acts.size() - 1).stage != 0) {
            return null;
        }
        return now.acts.get(now.acts.size() - 1);
    }

    private int allWords() {
        return now.acts.stream().mapToInt(a -> a.words.size()).sum();
    }

    private static int standing(Act a) {
        return a.words.stream().mapToInt(w -> (w.struck ? 0 : 1) + w.inner.size()).sum();
    }

    private int firstOf(int a) {
        int words = 0;
        for (int k = 0; k < a - 1; k++) {
            words += now.acts.get(k).words.size();
        }
        return words;
    }

    private int leafOf(int a, int i) {
        return (firstOf(a) + i) / room;
    }

    private boolean isKnown(int a, int i) {
        if (now.leaves.get(leafOf(a, i)) != 2) {
            return true;
        }
        return copiesWith(a, i) > 0;
    }

    private int copiesWith(int a, int i) {
        return (int) now.copies.stream().filter(c -> c.act == a && c.has.contains(i)).count();
    }

    private int unknown() {
        int n = 0;
        for (int a = 1; a <= now.acts.size(); a++) {
            n += unknownOf(a);
        }
        return n;
    }

    private int unknownOf(int a) {
        int n = 0;
        for (int i = 0; i < now.acts.get(a - 1).words.size(); i++) {
            n += isKnown(a, i) ? 0 : 1;
        }
        return n;
    }

    private int mate(int l) {
        for (int m = 0; m < now.leaves.size(); m++) {
            if (m != l && m / gather == l / gather && m % gather + l % gather == gather - 1) {
                return m;
            }
        }
        return NONE;
    }

    private void loseLeaf(int l) {
        now.leaves.set(l, 2);
        if (mate(l) != NONE && now.leaves.get(mate(l)) == 0) {
            now.leaves.set(mate(l), 1);
        }
    }

    private void findLeaf(int l) {
        now.leaves.set(l, 0);
        if (mate(l) != NONE && now.leaves.get(mate(l)) == 1) {
            now.leaves.set(mate(l), 0);
        }
    }

    private int shakeBook() {
        List<Integer> fallen = new ArrayList<>();
        for (int l = 0; l < now.leaves.size(); l++) {
            if (now.leaves.get(l) == 1) {
                fallen.add(l);
            }
        }
        for (int l : fallen) {
            now.leaves.set(l, 2);
        }
        for (int l : fallen) {
            if (mate(l) != NONE && now.leaves.get(mate(l)) == 0) {
                now.leaves.set(mate(l), 1);
            }
        }
        return fallen.size();
    }

    private void addAct(int kind, Act body) {
        int before = allWords();
        body.kind = kind;
        if (before % room != 0 && now.leaves.get(before / room) == 2) {
            now.leaves.set(before / room, 0);
        }
        now.acts.add(body);
        while (now.leaves.size() * room < allWords()) {
            now.leaves.add(0);
            int l = now.leaves.size() - 1;
            if (mate(l) != NONE && now.leaves.get(mate(l)) == 2) {
                now.leaves.set(l, 1);
            }
        }
    }

    private Copy copyOf(int a, int grade) {
        Act act = now.acts.get(a - 1);
        Copy c = new Copy();
        c.act = a;
        c.grade = grade;
        List<Integer> stand = new ArrayList<>();
        for (int i = 0; i < act.words.size(); i++) {
            if (!act.words.get(i).struck) {
                stand.add(i);
            }
            c.inner += grade == 0 ? act.words.get(i).inner.size() : 0;
        }
        if (grade < 2) {
            c.has.addAll(stand);
        } else if (!stand.isEmpty()) {
            c.has.add(stand.get(0));
            c.has.add(stand.get(stand.size() - 1));
        }
        return c;
    }

    private int copyReason(int a, int grade) {
        if (now.acts.get(a - 1).stage != 1) {
            return 1;
        }
        for (int i : copyOf(a, grade).has) {
            if (!isKnown(a, i)) {
                return 2;
            }
        }
        return now.copies.size() == 8 ? 3 : 0;
    }

    private int sealReason(int witnesses, int marks) {
        if (open() == null) {
            return 1;
        }
        if (witnesses < need) {
            return 2;
        }
        if (marks != open().marks) {
            return 3;
        }
        return standing(open()) == 0 ? 4 : 0;
    }

    private int sealAct(int witnesses) {
        Act a = open();
        a.fee = new int[] {5, 3, 4}[a.kind] + standing(a);
        a.witnesses = witnesses;
        a.stage = 1;
        now.cash += a.fee;
        return a.fee;
    }

    private int strikeReason(int i) {
        if (open() == null) {
            return 1;
        }
        if (i < 0 || i >= open().words.size()) {
            return 2;
        }
        return open().words.get(i).struck ? 3 : 0;
    }

    private static int innermost(Word w) {
        return w.path.isEmpty() ? NONE : w.path.get(w.path.size() - 1);
    }

    private int strikeAround(Act a, int i) {
        int c = innermost(a.words.get(i));
        int n = 0;
        for (Word w : a.words) {
            if (w.path.contains(c) && !w.struck) {
                w.struck = true;
                n++;
            }
        }
        a.marks++;
        return n;
    }

    // ---- the text format

    private static final class Token {
        // 'w' word, 'n' number, ';' '(' ')' themselves, 'x' none of them, 'e' the end
        char kind;
        String text;
        int place;

        int number() {
            return Integer.parseInt(text);
        }

        boolean is(String s) {
            return kind == 'w' && text.equals(s);
        }
    }

    private static List<Token> tokens(String s) {
        List<Token> all = new ArrayList<>();
        int at = 0;
        while (at < s.length()) {
            char b = s.charAt(at);
            if (b == ' ') {
                at++;
                continue;
            }
            int end = at + 1;
            Token t = new Token();
            t.place = at;
            boolean letters = b >= 'a' && b <= 'z';
            boolean digits = b >= '0' && b <= '9';
            while (end < s.length() && (letters && s.charAt(end) >= 'a' && s.charAt(end) <= 'z'
                    || digits && s.charAt(end) >= '0' && s.charAt(end) <= '9')) {
                end++;
            }
            t.text = s.substring(at, end);
            if (letters) {
                t.kind = t.text.length() > 8 ? 'x' : 'w';
            } else if (digits) {
                t.kind = t.text.length() > 2 ? 'x' : 'n';
            } else {
                t.kind = ";()".indexOf(b) >= 0 ? b : 'x';
            }
            all.add(t);
            at = end;
        }
        Token last = new Token();
        last.kind = 'e';
        last.text = "";
        last.place = s.length();
        all.add(last);
        return all;
    }

    private List<Token> tokens;
    private int at;

    private Token token() {
        return tokens.get(at);
    }

    private Token number(int low, int high) throws Refusal {
        Token t = token();
        if (t.kind != 'n') {
            throw new Refusal(1, t.place);
        }
        if (t.number() < low || t.number() > high) {
            throw new Refusal(2, t.place);
        }
        at++;
        return t;
    }

    private void body(Act act, List<Integer> path) throws Refusal {
        boolean empty = true;
        while (true) {
            Token t = token();
            if (t.kind == 'w') {
                if (allWords() + act.words.size() + 1 > 12 * room) {
                    throw new Refusal(4, t.place);
                }
                Word w = new Word();
                w.letters = t.text;
                w.path.addAll(path);
                act.words.add(w);
                at++;
            } else if (t.kind == '(') {
                if (path.size() == 4) {
                    throw new Refusal(4, t.place);
                }
                at++;
                List<Integer> inside = new ArrayList<>(path);
                inside.add(act.parents.size());
                act.parents.add(path.isEmpty() ? NONE : path.get(path.size() - 1));
                body(act, inside);
                if (token().kind != ')') {
                    throw new Refusal(1, token().place);
                }
                at++;
            } else {
                if (empty) {
                    throw new Refusal(1, t.place);
                }
                return;
            }
            empty = false;
        }
    }

    private void parse(String s) throws Refusal {
        tokens = tokens(s);
        at = 0;
        if (!token().is("book")) {
            throw new Refusal(1, token().place);
        }
        at++;
        room = number(4, 20).number();
        need = number(0, 4).number();
        gather = number(2, 4).number();
        while (token().kind == ';') {
            at++;
            line();
        }
        if (token().kind != 'e') {
            throw new Refusal(1, token().place);
        }
    }

    private void line() throws Refusal {
        Token t = token();
        int openWords = open() == null ? 0 : open().words.size();
        at++;
        switch (t.kind == 'w' ? t.text : "") {
            case "act":
                actLine(t);
                return;
            case "strike":
                int i = number(0, openWords - 1).number();
                refuseLast(strikeReason(i) != 0);
                open().words.get(i).struck = true;
                open().marks++;
                return;
            case "out":
                int o = number(0, openWords - 1).number();
                refuseLast(open().words.get(o).path.isEmpty());
                strikeAround(open(), o);
                return;
            case "insert":
                int b = number(0, openWords - 1).number();
                refuseLast(open().words.get(b).inner.size() == 4);
                if (token().kind != 'w') {
                    throw new Refusal(1, token().place);
                }
                open().words.get(b).inner.add(token().text);
                open().marks++;
                at++;
                return;
            case "seal":
                int witnesses = number(0, 9).number();
                int marks = number(0, 99).number();
                refuseLast(sealReason(witnesses, marks) != 0);
                sealAct(witnesses);
                return;
            case "cancel":
                refuseLast(open() == null);
                open().stage = 2;
                return;
            case "copy":
                if (now.copies.size() == 8) {
                    throw new Refusal(4, t.place);
                }
                int a = number(1, now.acts.size()).number();
                int grade = number(0, 2).number();
                refuseLast(copyReason(a, grade) != 0);
                now.copies.add(copyOf(a, grade));
                now.cash += 3 - grade;
                return;
            case "lose":
                int l = number(0, now.leaves.size() - 1).number();
                refuseLast(now.leaves.get(l) == 2);
                loseLeaf(l);
                return;
            case "find":
                int f = number(0, now.leaves.size() - 1).number();
                refuseLast(now.leaves.get(f) != 2);
                findLeaf(f);
                return;
            case "sew":
                int s = number(0, now.leaves.size() - 1).number();
                refuseLast(now.leaves.get(s) != 1);
                now.leaves.set(s, 0);
                return;
            case "shake":
                shakeBook();
                return;
            default:
                throw new Refusal(1, t.place);
        }
    }

    private void refuseLast(boolean refused) throws Refusal {
        if (refused) {
            throw new Refusal(3, tokens.get(at - 1).place);
        }
    }

    private void actLine(Token t) throws Refusal {
        refuseLast(open() != null);
        if (now.acts.size() == 10) {
            throw new Refusal(4, t.place);
        }
        int kind = List.of("sale", "will", "loan").indexOf(token().text);
        if (kind < 0) {
            throw new Refusal(1, token().place);
        }
        at++;
        Act body = new Act();
        body(body, new ArrayList<>());
        addAct(kind, body);
    }

    // ---- requirements

    private void needBook() {
        if (!loaded) {
            throw new IllegalStateException();
        }
    }

    private static void needIndex(boolean there) {
        if (!there) {
            throw new IndexOutOfBoundsException();
        }
    }

    private static void needArgument(boolean fine) {
        if (!fine) {
            throw new IllegalArgumentException();
        }
    }

    private Act needAct(int a) {
        needBook();
        needIndex(a >= 1 && a <= now.acts.size());
        return now.acts.get(a - 1);
    }

    private Word needWord(int a, int i) {
        Act act = needAct(a);
        needIndex(i >= 0 && i < act.words.size());
        return act.words.get(i);
    }

    private Copy needCopy(int c) {
        needBook();
        needIndex(c >= 0 && c < now.copies.size());
        return now.copies.get(c);
    }

    private int needLeaf(int l) {
        needBook();
        needIndex(l >= 0 && l < now.leaves.size());
        return now.leaves.get(l);
    }

    private String bytes(int n) {
        StringBuilder s = new StringBuilder();
        for (int k = 0; k < n; k++) {
            s.append((char) (int) buffer.get(k));
        }
        return s.toString();
    }

    // ---- the calls

    int append(int a, int b, int c, int d, int e) {
        if (buffer.size() + 20 > 600) {
            return NONE;
        }
        for (int four : new int[] {a, b, c, d, e}) {
            for (int k = 3; k >= 0; k--) {
                buffer.add(four >> (8 * k) & 255);
            }
        }
        return buffer.size();
    }

    int load(int n) {
        needIndex(n >= 0 && n <= buffer.size());
        String s = bytes(n);
        buffer.clear();
        State before = now;
        int[] head = {room, need, gather};
        now = new State();
        try {
            parse(s);
        } catch (Refusal r) {
            now = before;
            room = head[0];
            need = head[1];
            gather = head[2];
            error = r.code;
            place = r.place;
            throw new IllegalArgumentException();
        }
        error = 0;
        place = NONE;
        loaded = true;
        past.clear();
        slots[0] = null;
        slots[1] = null;
        return now.acts.size();
    }

    /** Whether a text is a book, asked of a model of its own. */
    static boolean accepts(String s) {
        try {
            new Model().parse(s);
            return true;
        } catch (Refusal r) {
            return false;
        }
    }

    int parseError() {
        return error;
    }

    int errorPosition() {
        return place;
    }

    int buffered() {
        return buffer.size();
    }

    int count(int what) {
        needBook();
        switch (what) {
            case 0:
                return room;
            case 1:
                return need;
            case 2:
                return gather;
            case 3:
                return now.acts.size();
            case 4:
                return allWords();
            case 5:
                return now.leaves.size();
            case 6:
                return (int) now.leaves.stream().filter(l -> l == 2).count();
            case 7:
                return (int) now.leaves.stream().filter(l -> l == 1).count();
            case 8:
                return now.copies.size();
            case 9:
                return now.cash;
            case 10:
                return now.acts.stream().mapToInt(a -> a.marks).sum();
            case 11:
                return now.acts.stream().mapToInt(Model::standing).sum();
            case 12:
                return (int) now.acts.stream().filter(a -> a.stage == 1).count();
            case 13:
                return (int) now.acts.stream().filter(a -> a.stage == 2).count();
            case 14:
                return open() == null ? 0 : now.acts.size();
            case 15:
                return unknown();
            default:
                throw new IllegalArgumentException();
        }
    }

    int act(int a, int what) {
        Act act = needAct(a);
        switch (what) {
            case 0:
                return act.kind;
            case 1:
                return act.stage;
            case 2:
                return act.witnesses;
            case 3:
                return act.marks;
            case 4:
                return act.words.size();
            case 5:
                return standing(act);
            case 6:
                return act.parents.size();
            case 7:
                return act.words.stream().mapToInt(w -> w.path.size()).max().orElse(0);
            case 8:
                return leafOf(a, 0);
            case 9:
                return leafOf(a, act.words.size() - 1);
            case 10:
                return act.fee;
            case 11:
                return (int) now.copies.stream().filter(c -> c.act == a).count();
            default:
                throw new IllegalArgumentException();
        }
    }

    int word(int a, int i, int what) {
        Word w = needWord(a, i);
        switch (what) {
            case 0:
                return leafOf(a, i);
            case 1:
                return w.struck ? 1 : 0;
            case 2:
                return w.path.size();
            case 3:
                return w.inner.size();
            case 4:
                return w.letters.length();
            case 5:
                return isKnown(a, i) ? 1 : 0;
            case 6:
                return innermost(w);
            case 7:
                return copiesWith(a, i);
            default:
                throw new IllegalArgumentException();
        }
    }

    private static int charOf(String s, int k) {
        return k >= 0 && k < s.length() ? s.charAt(k) : NONE;
    }

    int letter(int a, int i, int k) {
        return charOf(needWord(a, i).letters, k);
    }

    int innerLetter(int a, int i, int j, int k) {
        Word w = needWord(a, i);
        return j >= 0 && j < w.inner.size() ? charOf(w.inner.get(j), k) : NONE;
    }

    int clause(int a, int c, int what) {
        Act act = needAct(a);
        needIndex(c >= 0 && c < act.parents.size());
        List<Integer> in = new ArrayList<>();
        int unstruck = 0;
        for (int i = 0; i < act.words.size(); i++) {
            if (act.words.get(i).path.contains(c)) {
                in.add(i);
                unstruck += act.words.get(i).struck ? 0 : 1;
            }
        }
        switch (what) {
            case 0:
                return in.get(0);
            case 1:
                return in.get(in.size() - 1);
            case 2:
                return in.size();
            case 3:
                return unstruck;
            case 4:
                return act.words.get(in.get(0)).path.indexOf(c) + 1;
            case 5:
                return (int) act.parents.stream().filter(p -> p == c).count();
            default:
                throw new IllegalArgumentException();
        }
    }

    int leaf(int l, int what) {
        int state = needLeaf(l);
        Set<Integer> acts = new HashSet<>();
        int words = 0;
        int first = 0;
        for (int a = now.acts.size(); a >= 1; a--) {
            for (int i = 0; i < now.acts.get(a - 1).words.size(); i++) {
                if (leafOf(a, i) == l) {
                    words++;
                    acts.add(a);
                    first = a;
                }
            }
        }
        switch (what) {
            case 0:
                return state;
            case 1:
                return words;
            case 2:
                return acts.size();
            case 3:
                return mate(l);
            case 4:
                return l / gather;
            case 5:
                return first;
            default:
                throw new IllegalArgumentException();
        }
    }

    int copy(int c, int what) {
        Copy copy = needCopy(c);
        switch (what) {
            case 0:
                return copy.act;
            case 1:
                return copy.grade;
            case 2:
                return copy.has.size() + copy.inner;
            case 3:
                return 3 - copy.grade;
            case 4:
                now.copies.remove(c);
                int without = unknown();
                now.copies.add(c, copy);
                return without - unknown();
            default:
                throw new IllegalArgumentException();
        }
    }

    int has(int c, int i) {
        Copy copy = needCopy(c);
        needWord(copy.act, i);
        return copy.has.contains(i) ? 1 : 0;
    }

    int known(int a) {
        return needAct(a).words.size() - unknownOf(a);
    }

    int firstUnknown(int a) {
        Act act = needAct(a);
        for (int i = 0; i < act.words.size(); i++) {
            if (!isKnown(a, i)) {
                return i;
            }
        }
        return NONE;
    }

    int gap() {
        needBook();
        return 0;
    }

    int whyNotSeal(int witnesses, int marks) {
        needBook();
        needArgument(witnesses >= 0 && witnesses <= 9 && marks >= 0 && marks <= 99);
        return sealReason(witnesses, marks);
    }

    int whyNotCopy(int a, int grade) {
        needAct(a);
        needArgument(grade >= 0 && grade <= 2);
        return copyReason(a, grade);
    }

    int whyNotStrike(int i) {
        needBook();
        return strikeReason(i);
    }

    int unknownIf(int l) {
        if (needLeaf(l) == 2) {
            return 0;
        }
        State before = cloned(now);
        int unknown = unknown();
        loseLeaf(l);
        int more = unknown() - unknown;
        now = before;
        return more;
    }

    int worstLeaf() {
        needBook();
        int worst = NONE;
        for (int l = now.leaves.size() - 1; l >= 0; l--) {
            if (worst == NONE || unknownIf(l) >= unknownIf(worst)) {
                worst = l;
            }
        }
        return worst;
    }

    int shakenOut() {
        needBook();
        State before = cloned(now);
        int n = 0;
        while (shakeBook() > 0) {
            n++;
        }
        now = before;
        return n;
    }

    int leavesFor(int words) {
        needBook();
        needArgument(words >= 0 && words <= 240);
        int leaves = now.leaves.size();
        while (leaves * room < allWords() + words) {
            leaves++;
        }
        return leaves > 12 ? NONE : leaves - now.leaves.size();
    }

    int copyWords(int a, int grade) {
        needAct(a);
        needArgument(grade >= 0 && grade <= 2);
        Copy c = copyOf(a, grade);
        return c.has.size() + c.inner;
    }

    int bestCopy(int a) {
        needAct(a);
        int best = NONE;
        int most = NONE;
        for (int grade = 2; grade >= 0; grade--) {
            if (copyReason(a, grade) != 0) {
                continue;
            }
            State before = cloned(now);
            now.copies.add(copyOf(a, grade));
            for (int l = 0; l < now.leaves.size(); l++) {
                now.leaves.set(l, 2);
            }
            int there = known(a);
            now = before;
            if (there > most) {
                most = there;
                best = grade;
            }
        }
        return best;
    }

    int standingIf(int i, boolean isClause) {
        needBook();
        int reason = strikeReason(i);
        needArgument(reason == 0 || reason == 3);
        needArgument(!isClause || !open().words.get(i).path.isEmpty());
        State before = cloned(now);
        if (isClause) {
            strikeAround(open(), i);
        } else {
            open().words.get(i).struck = true;
        }
        int n = standing(open());
        now = before;
        return n;
    }

    int findWord(int n) {
        needBook();
        needIndex(n >= 0 && n <= buffer.size());
        String s = bytes(n);
        buffer.clear();
        for (int a = 1; a <= now.acts.size(); a++) {
            for (Word w : now.acts.get(a - 1).words) {
                if (!w.struck && w.letters.equals(s) || w.inner.contains(s)) {
                    return a;
                }
            }
        }
        return 0;
    }

    int longest(int a) {
        Act act = needAct(a);
        int best = NONE;
        for (int i = act.words.size() - 1; i >= 0; i--) {
            Word w = act.words.get(i);
            if (!w.struck && (best == NONE || w.letters.length() >= act.words.get(best).letters.length())) {
                best = i;
            }
        }
        return best;
    }

    int common(int a, int other) {
        Act act = needAct(a);
        Set<String> there = new HashSet<>();
        for (Word w : needAct(other).words) {
            if (!w.struck) {
                there.add(w.letters);
            }
        }
        return (int) act.words.stream().filter(w -> !w.struck && there.contains(w.letters)).count();
    }

    float knownShare() {
        needBook();
        return allWords() == 0 ? 0.0f : (float) (allWords() - unknown()) / (float) allWords();
    }

    double meanWords() {
        needBook();
        return count(12) == 0 ? 0.0
                : (double) now.acts.stream().filter(a -> a.stage == 1).mapToInt(Model::standing).sum()
                / (double) count(12);
    }

    private int write(List<String> parts, String ifEmpty) {
        text = parts.isEmpty() ? ifEmpty : String.join(" ", parts);
        return text.length();
    }

    int writeAct(int a) {
        Act act = needAct(a);
        List<String> parts = new ArrayList<>();
        List<Integer> path = new ArrayList<>();
        for (int i = 0; i < act.words.size(); i++) {
            Word w = act.words.get(i);
            for (int c : path) {
                if (!w.path.contains(c)) {
                    parts.add(")");
                }
            }
            for (int c : w.path) {
                if (!path.contains(c)) {
                    parts.add("(");
                }
            }
            path = w.path;
            parts.add(!isKnown(a, i) ? "?" : w.struck ? "-" + w.letters : w.letters);
            for (String s : w.inner) {
                parts.add("^" + s);
            }
        }
        for (int k = 0; k < path.size(); k++) {
            parts.add(")");
        }
        return write(parts, "");
    }

    int writeStanding(int a) {
        Act act = needAct(a);
        List<String> parts = new ArrayList<>();
        for (int i = 0; i < act.words.size(); i++) {
            Word w = act.words.get(i);
            if (!w.struck) {
                parts.add(isKnown(a, i) ? w.letters : "?");
            }
            parts.addAll(w.inner);
        }
        return write(parts, ".");
    }

    int writeLeaf(int l) {
        List<String> parts = new ArrayList<>();
        if (needLeaf(l) == 2) {
            return write(parts, "?");
        }
        for (int a = 1; a <= now.acts.size(); a++) {
            for (int i = 0; i < now.acts.get(a - 1).words.size(); i++) {
                if (leafOf(a, i) == l) {
                    parts.add((i == 0 ? a + ":" : "") + now.acts.get(a - 1).words.get(i).letters);
                }
            }
        }
        return write(parts, "");
    }

    int writeCopy(int c) {
        Copy copy = needCopy(c);
        List<String> parts = new ArrayList<>();
        Act act = now.acts.get(copy.act - 1);
        for (int i = 0; i < act.words.size(); i++) {
            if (copy.has.contains(i)) {
                parts.add(act.words.get(i).letters);
            }
            if (copy.grade == 0) {
                parts.addAll(act.words.get(i).inner);
            }
        }
        return write(parts, ".");
    }

    int textByte(int i) {
        needIndex(i >= 0 && i < text.length());
        return text.charAt(i);
    }

    int begin(int kind, int n) {
        needBook();
        needIndex(n >= 0 && n <= buffer.size());
        needArgument(kind >= 0 && kind <= 2 && open() == null && now.acts.size() < 10);
        tokens = tokens(bytes(n));
        at = 0;
        Act body = new Act();
        try {
            body(body, new ArrayList<>());
        } catch (Refusal r) {
            throw new IllegalArgumentException();
        }
        needArgument(token().kind == 'e');
        change();
        buffer.clear();
        addAct(kind, body);
        return now.acts.size();
    }

    int strike(int i) {
        needBook();
        needArgument(strikeReason(i) == 0);
        change();
        open().words.get(i).struck = true;
        open().marks++;
        return standing(open());
    }

    int strikeClause(int i) {
        needBook();
        needArgument(open() != null && i >= 0 && i < open().words.size() && !open().words.get(i).path.isEmpty());
        change();
        return strikeAround(open(), i);
    }

    int interline(int i, int n) {
        needBook();
        needIndex(n >= 0 && n <= buffer.size());
        String s = bytes(n);
        needArgument(s.matches("[a-z]{1,8}") && open() != null && i >= 0 && i < open().words.size());
        needArgument(open().words.get(i).inner.size() < 4);
        change();
        buffer.clear();
        open().words.get(i).inner.add(s);
        open().marks++;
        return standing(open());
    }

    int seal(int witnesses, int marks) {
        needArgument(whyNotSeal(witnesses, marks) == 0);
        change();
        return sealAct(witnesses);
    }

    int cancel() {
        needBook();
        needArgument(open() != null);
        change();
        open().stage = 2;
        return now.acts.size();
    }

    int addCopy(int a, int grade) {
        needArgument(whyNotCopy(a, grade) == 0);
        change();
        now.copies.add(copyOf(a, grade));
        now.cash += 3 - grade;
        return now.copies.size() - 1;
    }

    int burn(int c) {
        needCopy(c);
        change();
        now.copies.remove(c);
        return now.copies.size();
    }

    int lose(int l) {
        needArgument(needLeaf(l) != 2);
        change();
        int before = unknown();
        loseLeaf(l);
        return unknown() - before;
    }

    int recover(int l) {
        needArgument(needLeaf(l) == 2);
        change();
        int before = unknown();
        findLeaf(l);
        return before - unknown();
    }

    int sew(int l) {
        needArgument(needLeaf(l) == 1);
        change();
        now.leaves.set(l, 0);
        return count(7);
    }

    int shake() {
        needBook();
        change();
        return shakeBook();
    }

    int undo() {
        if (past.isEmpty()) {
            throw new IllegalStateException();
        }
        now = past.remove(past.size() - 1);
        return past.size();
    }

    int undoable() {
        return past.size();
    }

    int save(int slot) {
        needBook();
        needIndex(slot == 0 || slot == 1);
        slots[slot] = cloned(now);
        return now.acts.size();
    }

    int restore(int slot) {
        needIndex(slot == 0 || slot == 1);
        if (slots[slot] == null) {
            throw new IllegalStateException();
        }
        now = cloned(slots[slot]);
        past.clear();
        return now.acts.size();
    }
}
