import java.lang.reflect.Constructor;
import java.lang.reflect.Field;
import java.lang.reflect.Method;
import java.lang.reflect.Modifier;
import java.util.Arrays;
import java.util.TreeSet;

/** The public face is the document's, and nothing else can be reached. */
public final class FaceTest {
    private static final String[] METHODS = {
        "int begin(int,int) IllegalArgumentException",
        "int rows()",
        "int colourAt(int,int) IndexOutOfBoundsException",
        "int mark(int,int) IndexOutOfBoundsException",
        "int allowLies(int) IllegalArgumentException IllegalStateException",
        "boolean hide(int) IndexOutOfBoundsException IllegalStateException",
        "int guess(int) IndexOutOfBoundsException IllegalStateException",
        "int tell(int,int) IndexOutOfBoundsException IllegalArgumentException IllegalStateException",
        "int takeBack() IllegalStateException",
        "int entries()",
        "int guessOf(int) IndexOutOfBoundsException",
        "int markOf(int) IndexOutOfBoundsException",
        "int liesAbout(int) IndexOutOfBoundsException",
        "int left()",
        "int leftByAll()",
        "boolean isLeft(int) IndexOutOfBoundsException",
        "int leftAt(int) IndexOutOfBoundsException",
        "int parts(int) IndexOutOfBoundsException",
        "int partMark(int,int) IndexOutOfBoundsException",
        "int partSize(int,int) IndexOutOfBoundsException IllegalArgumentException",
        "int worstCase(int) IndexOutOfBoundsException",
        "int weight(int) IndexOutOfBoundsException",
        "int bestGuess(int) IllegalArgumentException IllegalStateException",
        "int guessesNeeded() IllegalStateException",
        "int proofSize()",
        "boolean isInProof(int) IndexOutOfBoundsException IllegalStateException",
    };

    public static void main(String[] args) {
        int modifiers = GuessMarks.class.getModifiers();
        Check.yes("the class is public and final", () -> modifiers == (Modifier.PUBLIC | Modifier.FINAL));
        Check.same("methods", new TreeSet<>(Arrays.asList(METHODS)).toString(), methods().toString());
        Constructor<?>[] constructors = GuessMarks.class.getDeclaredConstructors();
        Check.due("constructors", 1, () -> constructors.length);
        Check.yes("the constructor is public", () -> Modifier.isPublic(constructors[0].getModifiers()));
        Check.due("arguments of the constructor", 0, () -> constructors[0].getParameterCount());
        for (Field field : GuessMarks.class.getDeclaredFields()) {
            Check.yes(field + " is private", () -> Modifier.isPrivate(field.getModifiers()));
        }
        Check.end();
    }

    private static TreeSet<String> methods() {
        TreeSet<String> names = new TreeSet<>();
        for (Method method : GuessMarks.class.getDeclaredMethods()) {
            if (Modifier.isPrivate(method.getModifiers())) {
                continue;
            }
            StringBuilder line = new StringBuilder(method.getReturnType() + " " + method.getName() + "(");
            for (int i = 0; i < method.getParameterCount(); i++) {
                line.append(i == 0 ? "" : ",").append(method.getParameterTypes()[i]);
            }
            line.append(")");
            for (Class<?> thrown : method.getExceptionTypes()) {
                line.append(" ").append(thrown.getSimpleName());
            }
            Check.yes(line + " is public", () -> method.getModifiers() == Modifier.PUBLIC);
            names.add(line.toString());
        }
        return names;
    }
}
