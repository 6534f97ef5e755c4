import java.lang.reflect.Constructor;
import java.lang.reflect.Field;
import java.lang.reflect.Method;
import java.lang.reflect.Modifier;
import java.util.HashSet;
import java.util.Set;
import java.util.TreeSet;

/** That the class has the document's face, and no more of it than that. */
public final class FaceTest {
    private static final String[] FACE = {
        "long put(int,int) I A", "long putBelow(int) I", "long turn(int) I", "int eighths(int) I",
        "long bits(int) I", "double number(int) I", "long rest(int,int,int) I D", "long restToo(int,int,int) I D",
        "int times(int,int) I D", "boolean isHalf(int,int) I D", "long cut(int,int,int) I D",
        "int apart(int,int) I D", "long residue(int,int,int) I D", "long plus(int,int,int,int) I D",
        "long minus(int,int,int,int) I D", "long many(int,int,int,int) I D", "long product(int,int,int,int) I D",
        "long power(int,int,int,int) I A D", "long inverse(int,int,int) I D", "int order(int,int) I D",
        "long measure(int,int,int) I", "int steps(int,int) I", "int digits(int,int) I D", "int digit(int) I",
        "int above(int) I", "int below(int) I", "int sum()", "long checksum()", "boolean isTrue()"};

    private FaceTest() {
    }

    public static void main(String[] args) {
        Class<Nearestclock> face = Nearestclock.class;
        Check.same("the modifiers", face.getModifiers(), Modifier.PUBLIC | Modifier.FINAL);
        Check.isTrue("no class above", face.getSuperclass() == Object.class && face.getInterfaces().length == 0);
        constructors(face);
        methods(face);
        fields(face);
        Check.end(FaceTest.class);
    }

    private static void constructors(Class<?> face) {
        Constructor<?>[] all = face.getDeclaredConstructors();
        Check.same("the constructors", all.length, 1);
        Check.isTrue("the constructor", Modifier.isPublic(all[0].getModifiers()) && all[0].getParameterCount() == 0);
    }

    private static void methods(Class<?> face) {
        Set<String> due = new TreeSet<>();
        for (String line : FACE) {
            due.add(line);
        }
        Set<String> got = new TreeSet<>();
        Set<String> namesOfFace = new HashSet<>();
        Set<String> namesInside = new HashSet<>();
        for (Method method : face.getDeclaredMethods()) {
            if (Modifier.isPrivate(method.getModifiers()) || method.isSynthetic()) {
                namesInside.add(method.getName());
            } else {
                got.add(lineOf(method));
                namesOfFace.add(method.getName());
                Check.isTrue(method + " is of an object", !Modifier.isStatic(method.getModifiers()));
            }
        }
        Check.isTrue("the methods are " + due + ", they are " + got, got.equals(due));
        namesInside.retainAll(namesOfFace);
        Check.isTrue("no private method bears a public one's name: " + namesInside, namesInside.isEmpty());
    }

    private static String lineOf(Method method) {
        StringBuilder line = new StringBuilder();
        line.append(method.getReturnType().getName()).append(' ').append(method.getName()).append('(');
        for (Class<?> parameter : method.getParameterTypes()) {
            line.append(line.charAt(line.length() - 1) == '(' ? "" : ",").append(parameter.getName());
        }
        line.append(')');
        for (Class<?> thrown : method.getExceptionTypes()) {
            line.append(' ').append(letterOf(thrown));
        }
        return line.toString();
    }

    private static String letterOf(Class<?> thrown) {
        if (thrown == IndexOutOfBoundsException.class) {
            return "I";
        }
        if (thrown == IllegalArgumentException.class) {
            return "A";
        }
        return thrown == ArithmeticException.class ? "D" : thrown.getName();
    }

    private static void fields(Class<?> face) {
        for (Field field : face.getDeclaredFields()) {
            int modifiers = field.getModifiers();
            Check.isTrue(field + " is private", Modifier.isPrivate(modifiers));
            Check.isTrue(field + " is final if static", Modifier.isFinal(modifiers) || !Modifier.isStatic(modifiers));
        }
        for (Class<?> inside : face.getDeclaredClasses()) {
            int shown = inside.getModifiers() & (Modifier.PUBLIC | Modifier.PROTECTED);
            Check.isTrue(inside + " is private or package-visible", shown == 0);
        }
    }
}
