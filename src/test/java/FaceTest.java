import java.lang.reflect.Constructor;
import java.lang.reflect.Field;
import java.lang.reflect.Method;
import java.lang.reflect.Modifier;
import java.util.ArrayList;
import java.util.Arrays;
import java.util.List;
import java.util.Set;
import java.util.TreeSet;

/** The public face of the document, and that the class shows nothing else. */
public final class FaceTest {
    private static final String NO_SUCH = " throws NoSuchElementException";
    private static final String ILLEGAL = " throws IllegalArgumentException";
    private static final String BOTH = " throws IllegalArgumentException NoSuchElementException";
    private static final String[] FACE = {
        "int feed(int int int int int)", "int load(int)" + ILLEGAL, "int errorPosition()", "int size(int)" + NO_SUCH,
        "int house(int int)" + NO_SUCH, "int screen(int int)" + NO_SUCH, "int film(int int)" + NO_SUCH,
        "int term(int int)" + NO_SUCH, "int prints(int int)" + NO_SUCH, "int shown(int int)" + BOTH,
        "int visitors(int int)" + BOTH, "int share(int int)" + NO_SUCH, "int run(int int)" + NO_SUCH,
        "boolean wouldHold(int)" + NO_SUCH, "int forecast(int int)" + NO_SUCH, "int chart(int)" + NO_SUCH,
        "int bestGain(int)" + NO_SUCH, "int bestFilm(int)" + NO_SUCH, "int bestMove()", "int total(int)" + NO_SUCH,
        "int closed(int int)" + NO_SUCH, "double meanTakings()", "float filled()", "int book(int int)" + NO_SUCH,
        "int split(int int int int)" + BOTH, "int empty(int)" + NO_SUCH, "int move(int int int)" + BOTH,
        "int close()", "int program(int)" + NO_SUCH, "int setHoldover(int int)" + BOTH, "int setRent(int int)" + BOTH,
        "int setFee(int)" + ILLEGAL, "int format(int)" + NO_SUCH, "int formattedByte(int)", "int undoCount()",
        "int undo()", "void saveSnapshot()", "boolean restoreSnapshot()", "int query(int)" + ILLEGAL};

    public static void main(String[] args) {
        theClass();
        methods();
        constantsAndConstructor();
        Check.end();
    }

    private static void theClass() {
        int modifiers = CinemaChain.class.getModifiers();
        Check.yes("public", Modifier.isPublic(modifiers));
        Check.yes("final", Modifier.isFinal(modifiers));
        Class<?>[] inside = CinemaChain.class.getDeclaredClasses();
        Check.yes("some twelve classes at most", inside.length < 12);
        for (Class<?> each : inside) {
            Check.yes(each + " is static", Modifier.isStatic(each.getModifiers()));
            Check.no(each + " is public", Modifier.isPublic(each.getModifiers()));
            Check.yes("some twenty fields at most in " + each, fieldsIn(each) <= 20);
        }
        Check.yes("some twenty fields at most", fieldsIn(CinemaChain.class) <= 20);
    }

    private static int fieldsIn(Class<?> type) {
        int count = 0;
        for (Field field : type.getDeclaredFields()) {
            if (!Modifier.isStatic(field.getModifiers()) && !field.isSynthetic()) {
                count++;
            }
        }
        return count;
    }

    private static String namesOf(Class<?>[] types) {
        List<String> names = new ArrayList<>();
        for (Class<?> type : types) {
            names.add(type.getSimpleName());
        }
        return String.join(" ", names);
    }

    private static String signatureOf(Method method) {
        Class<?>[] thrown = method.getExceptionTypes();
        Arrays.sort(thrown, (a, b) -> a.getSimpleName().compareTo(b.getSimpleName()));
        return method.getReturnType().getSimpleName() + " " + method.getName() + "("
                + namesOf(method.getParameterTypes()) + ")" + (thrown.length == 0 ? "" : " throws " + namesOf(thrown));
    }

    private static void methods() {
        Set<String> signatures = new TreeSet<>();
        Set<String> names = new TreeSet<>();
        for (Method method : CinemaChain.class.getDeclaredMethods()) {
            if (Modifier.isPublic(method.getModifiers())) {
                signatures.add(signatureOf(method));
                names.add(method.getName());
            }
        }
        Check.sameText("the methods", signatures.toString(), new TreeSet<>(Arrays.asList(FACE)).toString());
        for (Method method : CinemaChain.class.getDeclaredMethods()) {
            if (!Modifier.isPublic(method.getModifiers()) && !method.isSynthetic()) {
                Check.yes(method + " is private", Modifier.isPrivate(method.getModifiers()));
                Check.no(method + " has the name of a public one", names.contains(method.getName()));
            }
        }
        for (Class<?> inside : CinemaChain.class.getDeclaredClasses()) {
            for (Method method : inside.getDeclaredMethods()) {
                if (Modifier.isPrivate(method.getModifiers()) && !method.isSynthetic()) {
                    Check.no(method + " has the name of a public one", names.contains(method.getName()));
                }
            }
        }
    }

    private static void constantsAndConstructor() {
        Set<String> shown = new TreeSet<>();
        for (Field field : CinemaChain.class.getDeclaredFields()) {
            if (!Modifier.isPrivate(field.getModifiers()) && !field.isSynthetic()) {
                shown.add(Modifier.toString(field.getModifiers()) + " " + field.getType() + " " + field.getName());
            }
        }
        Check.sameText("the constants", shown.toString(),
                "[public static final int HIDDEN, public static final int NONE]");
        Constructor<?>[] constructors = CinemaChain.class.getDeclaredConstructors();
        Check.same("constructors", constructors.length, 1);
        Check.yes("the constructor is public", Modifier.isPublic(constructors[0].getModifiers()));
        Check.same("its parameters", constructors[0].getParameterCount(), 0);
    }
}
