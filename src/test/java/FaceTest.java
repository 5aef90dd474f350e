import java.lang.reflect.Constructor;
import java.lang.reflect.Field;
import java.lang.reflect.Method;
import java.lang.reflect.Modifier;
import java.util.Arrays;
import java.util.HashSet;
import java.util.Set;
import java.util.TreeSet;

/** The public face is the document's, and what is not of it is private. */
public final class FaceTest {
    private static final String[] DUE = {
        "void begin(int) IllegalArgumentException",
        "int make(int,int,boolean) IllegalArgumentException,IllegalStateException,IndexOutOfBoundsException",
        "int write(int,int,long) IllegalArgumentException,IndexOutOfBoundsException",
        "void cut(int,int) IllegalArgumentException,IndexOutOfBoundsException",
        "void move(int,int,int) IllegalArgumentException,IllegalStateException,UnsupportedOperationException",
        "void remove(int) IllegalArgumentException,IllegalStateException",
        "int dump(int) IllegalArgumentException,IndexOutOfBoundsException",
        "void spoil(int,int) IndexOutOfBoundsException",
        "long tape(int,int,int) IllegalArgumentException,IndexOutOfBoundsException,IllegalStateException",
        "int restore(int) IndexOutOfBoundsException",
        "int node(boolean,int,int) IllegalArgumentException,IllegalStateException,IndexOutOfBoundsException",
        "int octet(boolean,int,int) IllegalStateException,IllegalArgumentException,IndexOutOfBoundsException",
        "int find(boolean,int,int) IllegalStateException,IllegalArgumentException",
        "int count(int) IllegalArgumentException",
    };

    public static void main(String[] args) {
        Check.same("the class is public and final", TapeVault.class.getModifiers(), Modifier.PUBLIC | Modifier.FINAL);
        Set<String> found = new TreeSet<>();
        Set<String> publicNames = new HashSet<>();
        for (Method method : TapeVault.class.getDeclaredMethods()) {
            if (!Modifier.isPrivate(method.getModifiers())) {
                found.add(told(method));
                publicNames.add(method.getName());
            }
        }
        Check.same("the methods", found, new TreeSet<>(Arrays.asList(DUE)));
        for (Field field : TapeVault.class.getDeclaredFields()) {
            Check.same(field.getName() + " is private", Modifier.isPrivate(field.getModifiers()), true);
        }
        Constructor<?>[] constructors = TapeVault.class.getDeclaredConstructors();
        Check.same("one constructor", constructors.length, 1);
        Check.same("it is public", constructors[0].getModifiers(), Modifier.PUBLIC);
        Check.same("it takes nothing", constructors[0].getParameterCount(), 0);
        checkInside(publicNames);
        Check.end();
    }

    private static void checkInside(Set<String> publicNames) {
        for (Method method : TapeVault.class.getDeclaredMethods()) {
            if (Modifier.isPrivate(method.getModifiers())) {
                Check.same(method.getName() + " is a public method's name", publicNames.contains(method.getName()), false);
            }
        }
        for (Class<?> inside : TapeVault.class.getDeclaredClasses()) {
            Check.same(inside.getName() + " is static", Modifier.isStatic(inside.getModifiers()), true);
            Check.same(inside.getName() + " is public", Modifier.isPublic(inside.getModifiers()), false);
            for (Method method : inside.getDeclaredMethods()) {
                Check.same(inside.getName() + "." + method.getName() + " is a public method's name",
                        publicNames.contains(method.getName()), false);
            }
        }
    }

    private static String told(Method method) {
        StringBuilder text = new StringBuilder();
        text.append(method.getReturnType().getSimpleName()).append(' ').append(method.getName()).append('(');
        String comma = "";
        for (Class<?> type : method.getParameterTypes()) {
            text.append(comma).append(type.getSimpleName());
            comma = ",";
        }
        text.append(") ");
        comma = "";
        for (Class<?> type : method.getExceptionTypes()) {
            text.append(comma).append(type.getSimpleName());
            comma = ",";
        }
        return text.toString();
    }
}
