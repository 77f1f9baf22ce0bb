/** All that can be asked of an object without a change, as one text: two objects, or two times, are compared by it. */
final class Shot {
    private Shot() {
    }

    static String of(NotaryBook x) {
        return "error " + x.parseError() + " " + x.errorPosition() + ", buffered " + x.buffered()
                + ", undoable " + x.undoable() + ", text " + text(x) + "\n" + ofBook(x);
    }

    /** The state alone, and what hangs on it. */
    static String ofBook(NotaryBook x) {
        StringBuilder s = new StringBuilder();
        try {
            x.count(0);
        } catch (IllegalStateException e) {
            return "no book";
        }
        for (int what = 0; what <= 15; what++) {
            s.append(x.count(what)).append(' ');
        }
        for (int a = 1; a <= x.count(3); a++) {
            act(s, x, a);
        }
        for (int l = 0; l < x.count(5); l++) {
            for (int what = 0; what <= 5; what++) {
                s.append(what == 0 ? "\nleaf " : " ").append(x.leaf(l, what));
            }
        }
        for (int c = 0; c < x.count(8); c++) {
            copy(s, x, c);
        }
        return s.append(x.gap()).toString();
    }

    /** The first line that is not the same in two shots; empty if there is none. */
    static String difference(String before, String after) {
        String[] old = before.split("\n", -1);
        String[] now = after.split("\n", -1);
        for (int k = 0; k < Math.max(old.length, now.length); k++) {
            String was = k < old.length ? old[k] : "no line";
            String is = k < now.length ? now[k] : "no line";
            if (!was.equals(is)) {
                return was + " -> " + is;
            }
        }
        return "";
    }

    private static String text(NotaryBook x) {
        StringBuilder s = new StringBuilder();
        try {
            for (int i = 0; i < 10_000; i++) {
                s.append((char) x.textByte(i));
            }
        } catch (IndexOutOfBoundsException e) {
            s.append("|");
        }
        return s.toString();
    }

    private static void act(StringBuilder s, NotaryBook x, int a) {
        for (int what = 0; what <= 11; what++) {
            s.append(what == 0 ? "\nact " : " ").append(x.act(a, what));
        }
        for (int i = 0; i < x.act(a, 4); i++) {
            s.append(' ');
            for (int k = 0; k < x.word(a, i, 4); k++) {
                s.append((char) x.letter(a, i, k));
            }
            for (int what = 0; what <= 7; what++) {
                s.append(',').append(x.word(a, i, what));
            }
            s.append(x.innerLetter(a, i, x.word(a, i, 3), 0) == NotaryBook.NONE ? "" : " one interlined word more");
            for (int j = 0; j < x.word(a, i, 3); j++) {
                s.append('^');
                for (int k = 0; x.innerLetter(a, i, j, k) != NotaryBook.NONE; k++) {
                    s.append((char) x.innerLetter(a, i, j, k));
                }
            }
        }
        for (int c = 0; c < x.act(a, 6); c++) {
            for (int what = 0; what <= 5; what++) {
                s.append(what == 0 ? "\nclause " : " ").append(x.clause(a, c, what));
            }
        }
    }

    private static void copy(StringBuilder s, NotaryBook x, int c) {
        for (int what = 0; what <= 4; what++) {
            s.append(what == 0 ? "\ncopy " : " ").append(x.copy(c, what));
        }
        for (int i = 0; i < x.act(x.copy(c, 0), 4); i++) {
            s.append(x.has(c, i) ? '+' : '-');
        }
    }
}
