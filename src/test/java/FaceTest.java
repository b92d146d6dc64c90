import java.lang.reflect.Constructor;
import java.lang.reflect.Executable;
import java.lang.reflect.Field;
import java.lang.reflect.Method;
import java.lang.reflect.Modifier;
import java.util.HashSet;
import java.util.Set;
import java.util.TreeSet;

/** The class has the face that stands here, and nothing public beside it (LANGUAGE.md, rule 1). */
public final class FaceTest {
    private static final Check CHECK = new Check();

    private static final String[] FACE = {
        "int feed(int, int, int, int, int) IllegalStateException",
        "int load(int) IllegalArgumentException IllegalStateException",
        "int errorCode()",
        "int errorPosition()",
        "int bars()",
        "int barAt(int) NoSuchElementException",
        "int bar(int, int) NoSuchElementException IllegalArgumentException",
        "int labelled(int) NoSuchElementException",
        "int played()",
        "int beats()",
        "int cuts()",
        "int cut(int, boolean) NoSuchElementException",
        "int hiddenBy(int) NoSuchElementException",
        "int marks()",
        "int mark(int, int) NoSuchElementException IllegalArgumentException",
        "int from(int, int) NoSuchElementException",
        "int called(int) NoSuchElementException IllegalStateException",
        "int parts()",
        "int content(int, int) NoSuchElementException",
        "int reason(int) NoSuchElementException IllegalStateException",
        "int items(int) NoSuchElementException",
        "int item(int, int, int) NoSuchElementException IllegalArgumentException IndexOutOfBoundsException",
        "int itemOf(int, int) NoSuchElementException IllegalStateException",
        "int longestRest(int) NoSuchElementException",
        "int waiting(int, int) NoSuchElementException IllegalStateException",
        "int sounding(int) NoSuchElementException",
        "boolean isPrinted(int) NoSuchElementException",
        "int errata(int) NoSuchElementException IllegalStateException",
        "int erratum(int, int, int) NoSuchElementException IllegalArgumentException IllegalStateException"
                + " IndexOutOfBoundsException",
        "int misled(int) IllegalArgumentException",
        "int insert(int, int, int) NoSuchElementException IllegalArgumentException IllegalStateException",
        "int erase(int) NoSuchElementException IllegalStateException",
        "int makeCut(int, int) NoSuchElementException IllegalArgumentException IllegalStateException",
        "int openCut(int) NoSuchElementException",
        "int putMark(int, int) NoSuchElementException IllegalArgumentException IllegalStateException",
        "int removeMark(int) NoSuchElementException",
        "int reletter()",
        "int renumber()",
        "int setBar(int, int, int) NoSuchElementException IllegalArgumentException",
        "int setContent(int, int, int) NoSuchElementException IllegalArgumentException",
        "int print(int) NoSuchElementException",
        "int undo() IllegalStateException",
        "int undoCount()",
        "int writePart(int) NoSuchElementException",
        "int outputByte(int) IndexOutOfBoundsException",
    };

    public static void main(String[] args) {
        Class<ScoreParts> face = ScoreParts.class;
        CHECK.due("modifiers", face.getModifiers(), Modifier.PUBLIC | Modifier.FINAL);
        methods(face);
        fields(face);
        Constructor<?>[] made = face.getDeclaredConstructors();
        CHECK.due("constructors", made.length, 1);
        CHECK.due("constructor's parameters", made[0].getParameterCount(), 0);
        CHECK.due("constructor's modifiers", made[0].getModifiers(), Modifier.PUBLIC);
        CHECK.finish();
    }

    private static void methods(Class<?> face) {
        Set<String> due = new TreeSet<>(Set.of(FACE));
        Set<String> found = new TreeSet<>();
        Set<String> names = new HashSet<>();
        for (Method method : face.getDeclaredMethods()) {
            if (!Modifier.isPrivate(method.getModifiers()) && !method.isSynthetic()) {
                CHECK.due(method + " is public", method.getModifiers(), Modifier.PUBLIC);
                found.add(signature(method));
                names.add(method.getName());
            }
        }
        CHECK.due("methods", found, due);
        noPrivateMethodBearsTheNameOfAPublicOne(face, names);
    }

    private static void noPrivateMethodBearsTheNameOfAPublicOne(Class<?> face, Set<String> names) {
        for (Method method : face.getDeclaredMethods()) {
            if (Modifier.isPrivate(method.getModifiers())) {
                CHECK.due(method + " bears the name of a public one", names.contains(method.getName()), false);
            }
        }
        for (Class<?> inside : face.getDeclaredClasses()) {
            CHECK.due(inside + " is public", Modifier.isPublic(inside.getModifiers()), false);
            CHECK.due(inside + " is static", Modifier.isStatic(inside.getModifiers()), true);
            for (Method method : inside.getDeclaredMethods()) {
                CHECK.due(method + " bears the name of a public one", names.contains(method.getName()), false);
            }
        }
    }

    private static String signature(Method method) {
        StringBuilder all = new StringBuilder(method.getReturnType().getSimpleName());
        all.append(' ').append(method.getName()).append('(');
        String between = "";
        for (Class<?> parameter : method.getParameterTypes()) {
            all.append(between).append(parameter.getSimpleName());
            between = ", ";
        }
        all.append(')');
        for (Class<?> thrown : ((Executable) method).getExceptionTypes()) {
            all.append(' ').append(thrown.getSimpleName());
        }
        return all.toString();
    }

    private static void fields(Class<?> face) {
        for (Field field : face.getDeclaredFields()) {
            if (!Modifier.isPrivate(field.getModifiers())) {
                CHECK.due("field", field.toString(), "public static final int ScoreParts.NONE");
            }
        }
    }
}
