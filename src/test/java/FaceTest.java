import java.lang.reflect.Constructor;
import java.lang.reflect.Field;
import java.lang.reflect.Member;
import java.lang.reflect.Method;
import java.lang.reflect.Modifier;
import java.util.ArrayList;
import java.util.Arrays;
import java.util.List;
import java.util.Set;
import java.util.TreeSet;

/** The class has the face that the document tells, and no other member that can be seen from outside. */
public final class FaceTest {
    private static final String[] FACE = {
        "NONE int",
        "SharedColumns()",
        "mean(int,int,int) int IllegalArgumentException",
        "forget(int,int) int IllegalArgumentException",
        "pack(int) int IllegalArgumentException",
        "index(int,int) int IllegalArgumentException",
        "row(int) int IllegalArgumentException",
        "put(int,int,int) int IndexOutOfBoundsException IllegalArgumentException",
        "remove(int) int IndexOutOfBoundsException",
        "move(int) int IllegalArgumentException",
        "limit(int,boolean,int) int IllegalArgumentException",
        "append(int) int IllegalArgumentException IllegalStateException",
        "clearBuffer() int",
        "firstError() int",
        "ask(int) int IllegalArgumentException",
        "purge(int) int IllegalArgumentException",
        "undo() int IllegalStateException",
        "rowOf(int,int) int IndexOutOfBoundsException IllegalArgumentException",
        "column(int,int,int) int IllegalArgumentException",
        "tenant(int,int) int IllegalArgumentException",
        "answer(int,int,int) int IllegalArgumentException",
        "count(int) int IllegalArgumentException",
        "looked(int,boolean) int IllegalArgumentException",
        "bestIndex(int) int IllegalArgumentException",
        "fullness() double",
        "digest() long",
    };

    public static void main(String[] args) {
        Set<String> want = new TreeSet<>(Arrays.asList(FACE));
        Set<String> got = new TreeSet<>();
        List<String> wrong = new ArrayList<>();
        Set<String> names = new TreeSet<>();
        for (Field field : SharedColumns.class.getDeclaredFields()) {
            if (isOutside(field)) {
                got.add(field.getName() + " " + field.getType());
            }
            if (Modifier.isStatic(field.getModifiers()) && !Modifier.isFinal(field.getModifiers())) {
                wrong.add("static and not final: " + field);
            }
        }
        for (Constructor<?> made : SharedColumns.class.getDeclaredConstructors()) {
            if (isOutside(made)) {
                got.add("SharedColumns" + kinds(made.getParameterTypes(), ","));
            }
        }
        for (Method method : SharedColumns.class.getDeclaredMethods()) {
            if (isOutside(method)) {
                names.add(method.getName());
                got.add(method.getName() + kinds(method.getParameterTypes(), ",") + " " + method.getReturnType()
                    + thrown(method.getExceptionTypes()));
            }
        }
        for (Method method : SharedColumns.class.getDeclaredMethods()) {
            if (!isOutside(method) && names.contains(method.getName())) {
                wrong.add("a private method with a public name: " + method);
            }
        }
        if (!got.equals(want)) {
            wrong.add("the face is " + got + ", due is " + want);
        }
        if (SharedColumns.NONE != -1 || !Modifier.isFinal(SharedColumns.class.getModifiers())) {
            wrong.add("NONE is not -1, or the class is not final");
        }
        wrong.forEach(System.out::println);
        System.out.println(wrong.isEmpty() ? "all answers are as due" : wrong.size() + " answers are not as due");
        if (!wrong.isEmpty()) {
            System.exit(1);
        }
    }

    private static boolean isOutside(Member member) {
        return !member.isSynthetic() && !Modifier.isPrivate(member.getModifiers());
    }

    private static String kinds(Class<?>[] kinds, String between) {
        List<String> names = new ArrayList<>();
        for (Class<?> kind : kinds) {
            names.add(kind.getSimpleName());
        }
        return "(" + String.join(between, names) + ")";
    }

    private static String thrown(Class<?>[] kinds) {
        StringBuilder names = new StringBuilder();
        for (Class<?> kind : kinds) {
            names.append(" ").append(kind.getSimpleName());
        }
        return names.toString();
    }
}
