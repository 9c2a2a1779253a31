import java.lang.reflect.Constructor;
import java.lang.reflect.Field;
import java.lang.reflect.Method;
import java.lang.reflect.Modifier;
import java.util.ArrayList;
import java.util.HashSet;
import java.util.List;
import java.util.Set;
import java.util.TreeSet;

/** The public face is the document's, with nothing beside it. */
final class FaceCheck {
    private static final String I = "IndexOutOfBoundsException";
    private static final String A = "IllegalArgumentException";
    private static final String U = "UnsupportedOperationException";
    private static final String N = "NoSuchElementException";
    private static final String S = "IllegalStateException";
    private static final String M = "ArithmeticException";

    private static final String[] FACE = {
        "int addShelf(int) " + A + " " + U, "int link(int,int) " + I + " " + U, "int unlink(int,int) " + I + " " + U,
        "int setBlind(int,boolean) " + I + " " + U, "int fill(int,int) " + I + " " + A + " " + U,
        "int shelfCount()", "int passageCount()", "int cheese(int) " + I, "boolean isBlind(int) " + I,
        "int neighbourCount(int) " + I, "int distance(int,int) " + I + " " + N,
        "int distanceByTable(int,int) " + I + " " + N, "int groupCount()", "int shelfByCheese(int) " + N,
        "int addStop(int) " + I + " " + U, "int removeStop(int) " + I, "int stopCount()", "int shelfOfStop(int) " + I,
        "int catShelf() " + N, "int goal() " + N, "int nextShelf() " + N, "int lapLength() " + N,
        "int pass(int) " + A, "int predictCaught(int) " + A, "int setRate(int) " + A, "int setSeed(int) " + A,
        "int seed()", "int minute()", "int mouseCount()", "int mouseShelf(int) " + I, "int mouseEaten(int) " + I,
        "int mouseHunger(int) " + I, "int miceOn(int) " + I, "int totalCheese()", "int totalCheeseByAccounts()",
        "int eaten()", "int caught()", "int gone()", "int rinds()", "double meanCheese() " + M,
        "float caughtShare() " + M, "int feed(char) " + S, "int execute() " + A + " " + U, "int faultPosition() " + N,
        "int writeShelf(int) " + I, "int writePatrol()", "char lineCharacter(int) " + I, "int denial() " + N,
        "int denialDetail() " + N, "int denialCause() " + N, "int undo() " + S, "int undoCount()",
        "int saveSnapshot()", "int restoreSnapshot() " + S,
    };

    private FaceCheck() {
    }

    static void run() {
        publicFace();
        nothingBesideIt();
        namesOfItsOwn();
    }

    private static void publicFace() {
        int modifiers = LarderPatrol.class.getModifiers();
        Checks.dueTrue("face: public and final", Modifier.isPublic(modifiers) && Modifier.isFinal(modifiers));
        Set<String> due = new TreeSet<>(List.of(FACE));
        Set<String> found = new TreeSet<>();
        for (Method method : LarderPatrol.class.getDeclaredMethods()) {
            if (Modifier.isPublic(method.getModifiers())) {
                found.add(describe(method));
            }
        }
        Checks.dueText("face: methods", due.toString(), found.toString());
        Constructor<?>[] constructors = LarderPatrol.class.getDeclaredConstructors();
        Checks.due("face: one constructor", 1, () -> constructors.length);
        Checks.dueTrue("face: public, without parameters",
                Modifier.isPublic(constructors[0].getModifiers()) && constructors[0].getParameterCount() == 0);
    }

    private static String describe(Method method) {
        StringBuilder text = new StringBuilder(method.getReturnType().getName());
        text.append(' ').append(method.getName()).append('(');
        List<String> parameters = new ArrayList<>();
        for (Class<?> parameter : method.getParameterTypes()) {
            parameters.add(parameter.getName());
        }
        text.append(String.join(",", parameters)).append(')');
        for (Class<?> thrown : method.getExceptionTypes()) {
            text.append(' ').append(thrown.getSimpleName());
        }
        return text.toString();
    }

    private static void nothingBesideIt() {
        for (Method method : LarderPatrol.class.getDeclaredMethods()) {
            int modifiers = method.getModifiers();
            Checks.dueTrue("face: " + method + " is public or private", Modifier.isPublic(modifiers) || Modifier.isPrivate(modifiers));
        }
        for (Field field : LarderPatrol.class.getDeclaredFields()) {
            int modifiers = field.getModifiers();
            Checks.dueTrue("face: " + field + " is private", Modifier.isPrivate(modifiers));
            Checks.dueTrue("face: static " + field + " is final", !Modifier.isStatic(modifiers) || Modifier.isFinal(modifiers));
        }
        for (Class<?> inner : LarderPatrol.class.getDeclaredClasses()) {
            Checks.dueTrue("face: " + inner + " is private", Modifier.isPrivate(inner.getModifiers()));
        }
    }

    /** Rule 1 of LANGUAGE.md: no private method bears the name of a public one. */
    private static void namesOfItsOwn() {
        Set<String> taken = new HashSet<>();
        for (String entry : FACE) {
            taken.add(entry.substring(entry.indexOf(' ') + 1, entry.indexOf('(')));
        }
        List<Class<?>> classes = new ArrayList<>(List.of(LarderPatrol.class.getDeclaredClasses()));
        classes.add(LarderPatrol.class);
        for (Class<?> owner : classes) {
            for (Method method : owner.getDeclaredMethods()) {
                boolean clash = !Modifier.isPublic(method.getModifiers()) && taken.contains(method.getName());
                Checks.dueTrue("face: " + method + " has a name of its own", !clash);
            }
        }
    }
}
