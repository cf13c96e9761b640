import java.lang.reflect.Constructor;
import java.lang.reflect.Field;
import java.lang.reflect.Method;
import java.lang.reflect.Modifier;
import java.util.ArrayList;
import java.util.Arrays;
import java.util.Collections;
import java.util.List;

/** The class shows the document's face and nothing else, and no private method bears a name of it. */
public final class FaceTest {
    private static final String PLACE = " throws IndexOutOfBoundsException";
    private static final String ASKED = " throws IndexOutOfBoundsException IllegalArgumentException";
    private static final String WORDS = " throws IllegalArgumentException";

    private static final String[] FACE = {
        "int sheet int int" + WORDS,
        "int fold int int boolean boolean throws IllegalArgumentException IllegalStateException",
        "int unfold",
        "int turn",
        "int round",
        "boolean ink int int" + PLACE,
        "int dry",
        "int punch int int" + PLACE,
        "int glue int int" + PLACE,
        "int ofPlace int int int" + ASKED,
        "int at int int int" + PLACE,
        "int ofCell int int" + ASKED,
        "int ofPair int boolean int" + ASKED,
        "int ofCorner int int int" + ASKED,
        "int many int" + WORDS,
        "double weight int" + WORDS,
        "int would int int boolean boolean int" + WORDS,
        "int bestFold",
        "int bring int int" + ASKED,
        "int fewest",
        "long digest",
    };

    public static void main(String[] args) {
        theFace();
        noNameTwice();
        Check.end("FaceTest");
    }

    private static void theFace() {
        List<String> shown = new ArrayList<>();
        for (Method method : Creasebook.class.getDeclaredMethods()) {
            if (!Modifier.isPrivate(method.getModifiers())) {
                Check.isTrue(method + " is public", Modifier.isPublic(method.getModifiers()));
                shown.add(signature(method));
            }
        }
        List<String> due = new ArrayList<>(Arrays.asList(FACE));
        Collections.sort(shown);
        Collections.sort(due);
        Check.same("the methods", shown, due);
        Check.isTrue("public final", Modifier.isPublic(Creasebook.class.getModifiers())
                && Modifier.isFinal(Creasebook.class.getModifiers()));
        Constructor<?>[] constructors = Creasebook.class.getDeclaredConstructors();
        Check.same("constructors", constructors.length, 1);
        Check.isTrue("the constructor is public", Modifier.isPublic(constructors[0].getModifiers()));
        Check.same("what the constructor takes", constructors[0].getParameterCount(), 0);
        for (Field field : Creasebook.class.getDeclaredFields()) {
            Check.isTrue(field + " is private", Modifier.isPrivate(field.getModifiers()));
            Check.isTrue(field + " is final if static", !Modifier.isStatic(field.getModifiers())
                    || Modifier.isFinal(field.getModifiers()));
        }
    }

    private static void noNameTwice() {
        List<String> names = new ArrayList<>();
        for (String line : FACE) {
            names.add(line.split(" ")[1]);
        }
        for (Method method : Creasebook.class.getDeclaredMethods()) {
            Check.isTrue(method + " has a name of its own",
                    Modifier.isPublic(method.getModifiers()) || !names.contains(method.getName()));
        }
        for (Class<?> inside : Creasebook.class.getDeclaredClasses()) {
            Check.isTrue(inside + " is static", Modifier.isStatic(inside.getModifiers()));
            for (Method method : inside.getDeclaredMethods()) {
                Check.isTrue(method + " has a name of its own", !names.contains(method.getName()));
            }
        }
    }

    private static String signature(Method method) {
        StringBuilder text = new StringBuilder(method.getReturnType().getName());
        text.append(' ').append(method.getName());
        for (Class<?> type : method.getParameterTypes()) {
            text.append(' ').append(type.getName());
        }
        if (method.getExceptionTypes().length > 0) {
            text.append(" throws");
        }
        for (Class<?> type : method.getExceptionTypes()) {
            text.append(' ').append(type.getSimpleName());
        }
        return text.toString();
    }
}
