import java.lang.reflect.Constructor;
import java.lang.reflect.Executable;
import java.lang.reflect.Field;
import java.lang.reflect.Method;
import java.lang.reflect.Modifier;
import java.util.ArrayList;
import java.util.Collections;
import java.util.List;

/** The face of the class is that of the document, and nothing else of it is seen from outside. */
public final class FaceTests {
    private static final String[] METHODS = {
        "int openSession() IllegalStateException",
        "int openWindow(int,int,int,int,int) IndexOutOfBoundsException IllegalArgumentException IllegalStateException",
        "boolean closeWindow(int,int) IndexOutOfBoundsException",
        "int moveWindow(int,int,int,int) IndexOutOfBoundsException IllegalArgumentException",
        "boolean raise(int,int) IndexOutOfBoundsException",
        "boolean show(int,int,boolean) IndexOutOfBoundsException",
        "boolean mark(int,int,boolean,boolean) IndexOutOfBoundsException",
        "int draw(int,int,int,int,int,int,int) IndexOutOfBoundsException IllegalArgumentException",
        "int screen(int,int,int) IndexOutOfBoundsException",
        "int join(int,int) IndexOutOfBoundsException IllegalArgumentException IllegalStateException",
        "int bid(int,int) IndexOutOfBoundsException IllegalArgumentException",
        "int money(int) IndexOutOfBoundsException",
        "int picture(int,int,int) IndexOutOfBoundsException",
        "int seen(int,int,int) IndexOutOfBoundsException",
        "int behind(int) IndexOutOfBoundsException",
        "char next(int) IndexOutOfBoundsException NoSuchElementException",
        "int nextCost(int) IndexOutOfBoundsException NoSuchElementException",
        "int tick(int) IllegalArgumentException",
        "long carried()",
        "int type(int,char) IndexOutOfBoundsException IllegalArgumentException UnsupportedOperationException IllegalStateException",
        "int guesses(int) IndexOutOfBoundsException",
        "float rightShare(int) IndexOutOfBoundsException ArithmeticException",
        "int copy(int,int,int) IndexOutOfBoundsException IllegalArgumentException",
        "boolean allow(int,int,int,boolean) IndexOutOfBoundsException IllegalArgumentException",
        "int paste(int,int) IndexOutOfBoundsException NoSuchElementException UnsupportedOperationException",
        "boolean move(int) IndexOutOfBoundsException IllegalStateException",
        "int left(int) IndexOutOfBoundsException IllegalStateException",
        "int host(int) IndexOutOfBoundsException",
        "int record(int) IndexOutOfBoundsException",
        "int played(int,int,int,int) IndexOutOfBoundsException NoSuchElementException",
        "int noted(int) IndexOutOfBoundsException NoSuchElementException",
        "double meanBehind() ArithmeticException",
        "boolean isConsistent()"};

    public static void main(String[] args) {
        Class<?> face = Remotepane.class;
        Check.same("public", Modifier.isPublic(face.getModifiers()), true);
        Check.same("final", Modifier.isFinal(face.getModifiers()), true);
        methods(face);
        constructors(face);
        nothingElse(face);
        Check.end();
    }

    private static void methods(Class<?> face) {
        List<String> found = new ArrayList<>();
        List<String> names = new ArrayList<>();
        for (Method method : face.getDeclaredMethods()) {
            if (!Modifier.isPrivate(method.getModifiers())) {
                found.add(told(method));
                names.add(method.getName());
                Check.same(method + " is public", Modifier.isPublic(method.getModifiers()), true);
                Check.same(method + " is no static one", Modifier.isStatic(method.getModifiers()), false);
            }
        }
        for (Method method : face.getDeclaredMethods()) {
            if (Modifier.isPrivate(method.getModifiers())) {
                Check.same(method + " has a name of its own", names.contains(method.getName()), false);
            }
        }
        List<String> due = new ArrayList<>(List.of(METHODS));
        Collections.sort(due);
        Collections.sort(found);
        Check.same("the methods", found.toString(), due.toString());
    }

    private static String told(Method method) {
        StringBuilder text = new StringBuilder();
        text.append(method.getReturnType().getSimpleName()).append(' ').append(method.getName());
        text.append('(').append(listed(method)).append(')');
        for (Class<?> thrown : method.getExceptionTypes()) {
            text.append(' ').append(thrown.getSimpleName());
        }
        return text.toString();
    }

    private static String listed(Executable call) {
        List<String> types = new ArrayList<>();
        for (Class<?> type : call.getParameterTypes()) {
            types.add(type.getSimpleName());
        }
        return String.join(",", types);
    }

    private static void constructors(Class<?> face) {
        Constructor<?>[] constructors = face.getDeclaredConstructors();
        Check.same("one constructor", constructors.length, 1);
        Check.same("is public", Modifier.isPublic(constructors[0].getModifiers()), true);
        Check.same("takes nothing", listed(constructors[0]), "");
    }

    private static void nothingElse(Class<?> face) {
        for (Field field : face.getDeclaredFields()) {
            Check.same(field + " is private", Modifier.isPrivate(field.getModifiers()), true);
            Check.same(field + " is final, if it is static", !Modifier.isStatic(field.getModifiers())
                    || Modifier.isFinal(field.getModifiers()), true);
        }
        for (Class<?> inner : face.getDeclaredClasses()) {
            Check.same(inner + " is private", Modifier.isPrivate(inner.getModifiers()), true);
            Check.same(inner + " is static", Modifier.isStatic(inner.getModifiers()), true);
        }
    }
}
