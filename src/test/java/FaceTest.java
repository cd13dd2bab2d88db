import java.lang.reflect.Constructor;
import java.lang.reflect.Field;
import java.lang.reflect.Method;
import java.lang.reflect.Modifier;
import java.util.Arrays;
import java.util.Set;
import java.util.TreeSet;

/** The public face: the constants, the constructor and the methods of the document, and nothing else. */
public final class FaceTest {
    private static final String CONSTANTS = "NONE -1, PARAGRAPH 0, HEADING 1, COLUMNS 2, TABLE 3, BREAK 4, CONTENTS 5, INDEX 6, "
            + "NOTE 0, MENTION 1, LABEL 2, TERM 3, ONLY 4, "
            + "INDENT 0, NUMBERED 1, KEEP 2, LEVEL 3, SIDE 4, DEPTH 5, VARIANT 6";
    /** The name, how many numbers it takes, what it answers if that is no int, and its exceptions. */
    private static final String METHODS = "spell 1 X S, unspell 0, mark 2 X A, pattern 2 A S, word 2 X S, reference 3 X S, take 2 X, "
            + "block 2 X A S, remove 1 X, style 3 X A, cell 6 X A S, figure 2 A S, paper 2 A, key 2 X A, "
            + "blocks 0, words 1 X, gaps 2 X, number 2 X, columnWidth 2 X, rowHeight 2 X, "
            + "lines 2 X, lineEnd 3 X, tightness 3 X, demerits 2 long X, demeritsByAll 2 long X, "
            + "pages 1 X, cost 1 X, costAnew 1 X, rounds 1 X, isSettled 1 boolean X, on 3 X, head 2 X, textAt 3 X, whereIs 3 X, "
            + "figureAt 2 X, labelPage 2 X, contentsAt 2 X, indexAt 2 X, range 3 X";

    public static void main(String[] args) throws IllegalAccessException {
        Check.due("the class is public and final", Galleyforge.class.getModifiers(), Modifier.PUBLIC | Modifier.FINAL);
        constants();
        methods();
        Constructor<?>[] constructors = Galleyforge.class.getDeclaredConstructors();
        Check.due("one constructor", constructors.length, 1);
        Check.due("it is public", constructors[0].getModifiers(), Modifier.PUBLIC);
        Check.due("it takes nothing", constructors[0].getParameterCount(), 0);
        for (Class<?> inside : Galleyforge.class.getDeclaredClasses()) {
            int modifiers = inside.getModifiers();
            Check.due(inside + " is static", modifiers & Modifier.STATIC, Modifier.STATIC);
            Check.due(inside + " is not to be seen", modifiers & (Modifier.PUBLIC | Modifier.PROTECTED), 0);
        }
        Check.end("FaceTest");
    }

    private static void constants() throws IllegalAccessException {
        Set<String> got = new TreeSet<>();
        for (Field field : Galleyforge.class.getDeclaredFields()) {
            if (Modifier.isPublic(field.getModifiers())) {
                Check.due(field + " is a constant", field.getModifiers(), Modifier.PUBLIC | Modifier.STATIC | Modifier.FINAL);
                got.add(field.getName() + " " + field.getInt(null));
            } else {
                Check.due(field + " is private", field.getModifiers() & Modifier.PRIVATE, Modifier.PRIVATE);
            }
        }
        compare("constants", got, new TreeSet<>(Arrays.asList(CONSTANTS.split(", "))));
    }

    private static void methods() {
        Set<String> got = new TreeSet<>();
        for (Method method : Galleyforge.class.getDeclaredMethods()) {
            if (!Modifier.isPublic(method.getModifiers())) {
                Check.due(method + " is private", method.getModifiers() & Modifier.PRIVATE, Modifier.PRIVATE);
                continue;
            }
            Check.due(method + " is not static", method.getModifiers(), Modifier.PUBLIC);
            StringBuilder told = new StringBuilder(method.getName() + " " + method.getParameterCount());
            for (Class<?> type : method.getParameterTypes()) {
                Check.due(method + " takes int", type == int.class ? 1 : 0, 1);
            }
            if (method.getReturnType() != int.class) {
                told.append(" ").append(method.getReturnType());
            }
            for (Class<?> type : method.getExceptionTypes()) {
                told.append(type == IndexOutOfBoundsException.class ? " X" : type == IllegalArgumentException.class ? " A" : " S");
            }
            got.add(told.toString());
        }
        compare("methods", got, new TreeSet<>(Arrays.asList(METHODS.split(", "))));
    }

    private static void compare(String what, Set<String> got, Set<String> due) {
        Set<String> more = new TreeSet<>(got);
        more.removeAll(due);
        Set<String> fewer = new TreeSet<>(due);
        fewer.removeAll(got);
        Check.due(what + " that are not due " + more + ", that lack " + fewer, more.size() + fewer.size(), 0);
    }
}
