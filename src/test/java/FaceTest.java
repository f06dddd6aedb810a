import java.lang.reflect.Constructor;
import java.lang.reflect.Field;
import java.lang.reflect.Method;
import java.lang.reflect.Modifier;
import java.util.ArrayList;
import java.util.Collections;
import java.util.HashSet;
import java.util.List;
import java.util.Set;

/** The public face is the document's, member by member, and nothing else can be seen. */
public final class FaceTest {
    private static final String[] FACE = {
        "int sign(int,long,long,long,int) IllegalArgumentException UnsupportedOperationException",
        "int turn(int,boolean) NoSuchElementException",
        "int map(int,int,int,int) IndexOutOfBoundsException IllegalArgumentException",
        "int tag(int,int) NoSuchElementException IllegalArgumentException",
        "int length()",
        "int letter(int) IndexOutOfBoundsException",
        "int from(int) IndexOutOfBoundsException",
        "int line(int) NoSuchElementException",
        "int block(int) NoSuchElementException",
        "int twice(int) NoSuchElementException",
        "boolean space(int) NoSuchElementException",
        "long share(long,long) ArithmeticException",
        "int word(int,int) IndexOutOfBoundsException",
        "int find(int) IllegalArgumentException UnsupportedOperationException",
        "int found(int) IndexOutOfBoundsException",
        "int area(long,long,long,long)",
    };

    public static void main(String[] args) {
        Due due = new Due();
        Class<?> face = TextOrder.class;
        due.holds("the class is public and final",
                Modifier.isPublic(face.getModifiers()) && Modifier.isFinal(face.getModifiers()));
        due.holds("it has no package", face.getPackageName().isEmpty());
        List<String> seen = new ArrayList<>();
        Set<String> names = new HashSet<>();
        for (Method method : face.getDeclaredMethods()) {
            if (Modifier.isPublic(method.getModifiers())) {
                seen.add(told(method));
                names.add(method.getName());
                due.holds(method + " is of the object", !Modifier.isStatic(method.getModifiers()));
            } else {
                due.holds(method + " is private", Modifier.isPrivate(method.getModifiers()));
            }
        }
        for (Method method : face.getDeclaredMethods()) {
            boolean isSeen = Modifier.isPublic(method.getModifiers());
            due.holds(method + " has no name of the face", isSeen || !names.contains(method.getName()));
            due.holds(method + " takes at most seven", method.getParameterCount() <= 7);
        }
        List<String> want = new ArrayList<>(List.of(FACE));
        Collections.sort(seen);
        Collections.sort(want);
        due.holds("the methods are " + seen, seen.equals(want));
        due.is("constructors", face.getDeclaredConstructors().length, 1);
        for (Constructor<?> made : face.getDeclaredConstructors()) {
            due.holds(made + " is public and takes nothing",
                    Modifier.isPublic(made.getModifiers()) && made.getParameterCount() == 0);
        }
        for (Field field : face.getDeclaredFields()) {
            checkField(due, field);
            due.holds(field + " is private", Modifier.isPrivate(field.getModifiers()));
        }
        due.holds("at most twelve classes", face.getDeclaredClasses().length < 12);
        for (Class<?> inside : face.getDeclaredClasses()) {
            checkInside(due, inside, names);
        }
        due.end();
    }

    private static String told(Method method) {
        StringBuilder text = new StringBuilder(method.getReturnType().getName());
        text.append(' ').append(method.getName()).append('(');
        for (int i = 0; i < method.getParameterCount(); i++) {
            text.append(i == 0 ? "" : ",").append(method.getParameterTypes()[i].getName());
        }
        text.append(')');
        for (Class<?> thrown : method.getExceptionTypes()) {
            text.append(' ').append(thrown.getSimpleName());
        }
        return text.toString();
    }

    private static void checkField(Due due, Field field) {
        due.holds(field + " is final if static",
                !Modifier.isStatic(field.getModifiers()) || Modifier.isFinal(field.getModifiers()));
    }

    private static void checkInside(Due due, Class<?> inside, Set<String> names) {
        int kind = inside.getModifiers();
        due.holds(inside + " is static, not public", Modifier.isStatic(kind)
                && !Modifier.isPublic(kind) && !Modifier.isProtected(kind));
        due.holds(inside + " has at most twenty fields", inside.getDeclaredFields().length <= 20);
        for (Field field : inside.getDeclaredFields()) {
            checkField(due, field);
        }
        for (Method method : inside.getDeclaredMethods()) {
            due.holds(method + " has no name of the face", !names.contains(method.getName()));
            due.holds(method + " takes at most seven", method.getParameterCount() <= 7);
        }
    }
}
