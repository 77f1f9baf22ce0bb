import java.lang.reflect.Constructor;
import java.lang.reflect.Field;
import java.lang.reflect.Method;
import java.lang.reflect.Modifier;
import java.util.ArrayList;
import java.util.Arrays;
import java.util.List;
import java.util.Set;
import java.util.TreeSet;

/** The public face of the document, no member more, and what LANGUAGE.md says of the members. */
public final class FaceTest {
    private static final String S = " throws IllegalStateException";
    private static final String SI = S + ",IndexOutOfBoundsException";
    private static final String SA = S + ",IllegalArgumentException";
    private static final String SIA = SI + ",IllegalArgumentException";
    private static final String[] FACE = {
        "int append(int,int,int,int,int)",
        "int load(int) throws IndexOutOfBoundsException,IllegalArgumentException",
        "int parseError()", "int errorPosition()", "int buffered()",
        "int count(int)" + SA, "int act(int,int)" + SIA, "int word(int,int,int)" + SIA,
        "int letter(int,int,int)" + SI, "int innerLetter(int,int,int,int)" + SI, "int clause(int,int,int)" + SIA,
        "int leaf(int,int)" + SIA, "int copy(int,int)" + SIA, "boolean has(int,int)" + SI,
        "int known(int)" + SI, "int firstUnknown(int)" + SI, "int gap()" + S,
        "int whyNotSeal(int,int)" + SA, "int whyNotCopy(int,int)" + SIA, "int whyNotStrike(int)" + S,
        "int unknownIf(int)" + SI, "int worstLeaf()" + S, "int shakenOut()" + S, "int leavesFor(int)" + SA,
        "int copyWords(int,int)" + SIA, "int bestCopy(int)" + SI, "int standingIf(int,boolean)" + SA,
        "int findWord(int)" + SI, "int longest(int)" + SI, "int common(int,int)" + SI,
        "float knownShare()" + S, "double meanWords()" + S,
        "int writeAct(int)" + SI, "int writeStanding(int)" + SI, "int writeLeaf(int)" + SI, "int writeCopy(int)" + SI,
        "int textByte(int) throws IndexOutOfBoundsException",
        "int begin(int,int)" + SIA, "int strike(int)" + SA, "int strikeClause(int)" + SA, "int interline(int,int)" + SIA,
        "int seal(int,int)" + SA, "int cancel()" + SA, "int addCopy(int,int)" + SIA, "int burn(int)" + SI,
        "int lose(int)" + SIA, "int recover(int)" + SIA, "int sew(int)" + SIA, "int shake()" + S,
        "int undo()" + S, "int undoable()", "int save(int)" + SI,
        "int restore(int) throws IndexOutOfBoundsException,IllegalStateException",
    };

    private static final List<String> wrong = new ArrayList<>();

    private static void must(boolean is, String what) {
        if (!is) {
            wrong.add(what);
        }
    }

    private static String names(Class<?>[] classes) {
        List<String> all = new ArrayList<>();
        for (Class<?> c : classes) {
            all.add(c.getSimpleName());
        }
        return String.join(",", all);
    }

    private static String told(Method m) {
        String exceptions = names(m.getExceptionTypes());
        return m.getReturnType().getSimpleName() + " " + m.getName() + "(" + names(m.getParameterTypes()) + ")"
                + (exceptions.isEmpty() ? "" : " throws " + exceptions);
    }

    private static void face() {
        Class<?> c = NotaryBook.class;
        must(c.getModifiers() == (Modifier.PUBLIC | Modifier.FINAL), "the class is public and final");
        must(c.getPackageName().isEmpty(), "the class has no package");
        Set<String> open = new TreeSet<>();
        for (Method m : c.getDeclaredMethods()) {
            if (!Modifier.isPrivate(m.getModifiers())) {
                must(m.getModifiers() == Modifier.PUBLIC, m + " is public and nothing else");
                open.add(told(m));
            }
        }
        must(open.equals(new TreeSet<>(Arrays.asList(FACE))), "the methods are " + open);
        for (Field f : c.getDeclaredFields()) {
            boolean isFace = f.getName().equals("NONE") && f.getType() == int.class
                    && f.getModifiers() == (Modifier.PUBLIC | Modifier.STATIC | Modifier.FINAL);
            must(isFace || Modifier.isPrivate(f.getModifiers()), f + " is private, or the constant");
        }
        Constructor<?>[] constructors = c.getDeclaredConstructors();
        must(constructors.length == 1 && constructors[0].getParameterCount() == 0
                && Modifier.isPublic(constructors[0].getModifiers()), "there is one public constructor");
    }

    private static void inside() {
        Set<String> open = new TreeSet<>();
        for (String method : FACE) {
            open.add(method.substring(method.indexOf(' ') + 1, method.indexOf('(')));
        }
        List<Class<?>> all = new ArrayList<>(Arrays.asList(NotaryBook.class.getDeclaredClasses()));
        must(all.size() < 12, "there are at most twelve classes");
        for (Class<?> c : all) {
            must(Modifier.isStatic(c.getModifiers()) && !Modifier.isPublic(c.getModifiers()), c + " is static, not public");
        }
        all.add(NotaryBook.class);
        for (Class<?> c : all) {
            int fields = 0;
            for (Field f : c.getDeclaredFields()) {
                boolean isStatic = Modifier.isStatic(f.getModifiers());
                must(!isStatic || Modifier.isFinal(f.getModifiers()), f + " is final, if it is static");
                fields += isStatic ? 0 : 1;
            }
            must(fields <= 20, c + " has at most twenty fields");
            for (Method m : c.getDeclaredMethods()) {
                boolean isFace = c == NotaryBook.class && Modifier.isPublic(m.getModifiers());
                must(isFace || !open.contains(m.getName()), m + " has a name of its own");
                must(m.getParameterCount() <= 7, m + " takes at most seven parameters");
                must(!m.isSynthetic(), m + " is written as it is");
            }
        }
    }

    public static void main(String[] args) {
        face();
        inside();
        for (String w : wrong) {
            System.out.println("not so: " + w);
        }
        System.out.println("FaceTest: " + wrong.size() + " wrong");
        if (!wrong.isEmpty()) {
            System.exit(1);
        }
    }
}
