import java.lang.reflect.Constructor;
import java.lang.reflect.Field;
import java.lang.reflect.Method;
import java.lang.reflect.Modifier;
import java.util.ArrayList;
import java.util.Arrays;
import java.util.Collections;
import java.util.List;

/** The face of the class: the document's members with their throws clauses, and nothing else to be seen. */
public final class FaceTest {
    private static final String A = "IllegalArgumentException";
    private static final String S = "IllegalStateException";
    private static final String I = "IndexOutOfBoundsException";

    private static final String[] FACE = {
        "int society int int " + A + " " + S,
        "boolean feud int int boolean " + I + " " + A,
        "int theme int int int " + I + " " + A,
        "int song int " + I + " " + S,
        "int vote int int int " + I + " " + A + " " + S,
        "int round int " + I + " " + S,
        "int street int int int int int int " + I + " " + A + " " + S,
        "void route int int " + I + " " + A + " " + S,
        "int goOn int int " + I + " " + A + " " + S,
        "boolean jury int boolean " + I,
        "int build int int int int int " + I + " " + A + " " + S,
        "int cut int int int int int int " + I + " " + A + " " + S,
        "boolean fits int int " + I,
        "int enter int int " + I + " " + A + " " + S,
        "boolean change int int " + I + " " + A + " " + S,
        "int order int int " + I + " " + A,
        "int begin int int int " + A + " " + S,
        "int stop int int int " + A + " " + S + " " + I,
        "boolean rain boolean",
        "int ambulance int " + I,
        "int march int int " + A + " " + S,
        "int part int int int " + A + " " + S + " " + I,
        "int clock int int " + I + " " + A,
        "int note int int int int " + I + " " + A + " " + S,
        "int penalty int int int " + I + " " + A + " " + S,
        "int appeal int int " + I + " " + S,
        "int draw int " + A,
        "int endYear " + S,
        "int about int int " + I + " " + A,
        "int notes int int " + I + " " + A,
        "int penaltyAt int int int " + I + " " + A,
        "boolean isDoubted int int " + I + " " + A,
        "int table int int " + I + " " + A,
    };

    public static void main(String[] args) {
        Class<?> face = Floatparade.class;
        Check.is("public final class", true,
                Modifier.isPublic(face.getModifiers()) && Modifier.isFinal(face.getModifiers()));
        methods(face);
        fields(face);
        constructors(face);
        innerNames(face);
        Check.finish("FaceTest");
    }

    private static void methods(Class<?> face) {
        List<String> due = new ArrayList<>(Arrays.asList(FACE));
        for (Method method : face.getDeclaredMethods()) {
            if (Modifier.isPrivate(method.getModifiers())) {
                continue;
            }
            String told = told(method);
            Check.is("a call of the face: " + told, true, due.remove(told));
            Check.is(told + " is public and no static", true,
                    Modifier.isPublic(method.getModifiers()) && !Modifier.isStatic(method.getModifiers()));
        }
        Check.is("calls that are missing: " + due, 0, due.size());
    }

    private static String told(Method method) {
        List<String> words = new ArrayList<>();
        words.add(method.getReturnType().getSimpleName());
        words.add(method.getName());
        for (Class<?> type : method.getParameterTypes()) {
            words.add(type.getSimpleName());
        }
        for (Class<?> type : method.getExceptionTypes()) {
            words.add(type.getSimpleName());
        }
        return String.join(" ", words);
    }

    private static void fields(Class<?> face) {
        List<String> seen = new ArrayList<>();
        for (Field field : face.getDeclaredFields()) {
            if (!Modifier.isPrivate(field.getModifiers())) {
                seen.add(Modifier.toString(field.getModifiers()) + " " + field.getType() + " " + field.getName());
            }
        }
        Check.is("fields that can be seen: " + seen, true,
                seen.equals(Collections.singletonList("public static final int NONE")));
        Check.is("NONE", -1, Floatparade.NONE);
    }

    private static void constructors(Class<?> face) {
        Constructor<?>[] made = face.getDeclaredConstructors();
        Check.is("constructors", 1, made.length);
        Check.is("its parameters", 0, made[0].getParameterCount());
        Check.is("it is public", true, Modifier.isPublic(made[0].getModifiers()));
    }

    private static void innerNames(Class<?> face) {
        List<String> names = new ArrayList<>();
        for (String call : FACE) {
            names.add(call.split(" ")[1]);
        }
        for (Class<?> inner : face.getDeclaredClasses()) {
            Check.is(inner + " is static and not public", true,
                    Modifier.isStatic(inner.getModifiers()) && !Modifier.isPublic(inner.getModifiers()));
            for (Method method : inner.getDeclaredMethods()) {
                Check.is(inner + " uses a name of the face: " + method.getName(), false,
                        names.contains(method.getName()));
            }
        }
        for (Method method : face.getDeclaredMethods()) {
            if (Modifier.isPrivate(method.getModifiers())) {
                Check.is("a private call with a name of the face: " + method.getName(), false,
                        names.contains(method.getName()));
            }
        }
    }
}
