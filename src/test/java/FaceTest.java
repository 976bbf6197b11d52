import java.lang.reflect.Constructor;
import java.lang.reflect.Field;
import java.lang.reflect.Method;
import java.lang.reflect.Modifier;
import java.util.ArrayList;
import java.util.Arrays;
import java.util.List;

/** The class's face is the document's, and nothing else of it is seen from outside. */
public final class FaceTest {
    private static final String[] FACE = {
        "KerfFractions()",
        "boolean weight(long)",
        "int NONE",
        "int add(int,int) throws ArrayIndexOutOfBoundsException",
        "int bits(int) throws ArrayIndexOutOfBoundsException",
        "int digit(int,int,int) throws ArrayIndexOutOfBoundsException,IllegalArgumentException",
        "int end(int,int) throws ArrayIndexOutOfBoundsException",
        "int order(int,int) throws ArrayIndexOutOfBoundsException",
        "int over(int,int) throws ArrayIndexOutOfBoundsException,ArithmeticException",
        "int root(int,int) throws ArrayIndexOutOfBoundsException,IllegalArgumentException",
        "int round(int,int,long) throws ArrayIndexOutOfBoundsException,IllegalArgumentException",
        "int sign(int) throws ArrayIndexOutOfBoundsException",
        "int times(int,int) throws ArrayIndexOutOfBoundsException",
        "int turn(int,int,int) throws ArrayIndexOutOfBoundsException",
        "int value(long,long) throws ArithmeticException",
        "long share(long,int) throws ArrayIndexOutOfBoundsException,IllegalArgumentException,ArithmeticException",
        "void clearWeights()",
    };

    public static void main(String[] args) {
        Checks checks = new Checks("FaceTest");
        Class<?> type = KerfFractions.class;
        checks.due("the class's modifiers", Modifier.toString(type.getModifiers()), "public final");
        List<String> seen = new ArrayList<>();
        for (Constructor<?> made : type.getDeclaredConstructors()) {
            if (!Modifier.isPrivate(made.getModifiers())) {
                seen.add(type.getName() + parameters(made.getParameterTypes()) + thrown(made.getExceptionTypes()));
            }
        }
        for (Method method : type.getDeclaredMethods()) {
            if (!Modifier.isPrivate(method.getModifiers())) {
                seen.add(method.getReturnType().getName() + " " + method.getName()
                    + parameters(method.getParameterTypes()) + thrown(method.getExceptionTypes()));
                checks.due(method.getName() + "'s modifiers", Modifier.toString(method.getModifiers()), "public");
            }
        }
        for (Field field : type.getDeclaredFields()) {
            if (!Modifier.isPrivate(field.getModifiers())) {
                seen.add(field.getType().getName() + " " + field.getName());
                checks.due(field.getName() + "'s modifiers", Modifier.toString(field.getModifiers()), "public static final");
            }
            checks.due(field.getName() + " is no static that changes",
                Modifier.isStatic(field.getModifiers()) && !Modifier.isFinal(field.getModifiers()), false);
        }
        seen.sort(null);
        checks.due("the face", seen.toString(), Arrays.toString(FACE));
        checks.due("NONE", KerfFractions.NONE, -1);
        checkPrivateNames(checks, type);
        checks.end();
    }

    private static void checkPrivateNames(Checks checks, Class<?> type) {
        List<String> open = new ArrayList<>();
        for (Method method : type.getDeclaredMethods()) {
            if (Modifier.isPublic(method.getModifiers())) {
                open.add(method.getName());
            }
        }
        for (Method method : type.getDeclaredMethods()) {
            if (Modifier.isPrivate(method.getModifiers())) {
                checks.due(method.getName() + " bears a public method's name", open.contains(method.getName()), false);
            }
        }
    }

    private static String parameters(Class<?>[] types) {
        return "(" + names(types) + ")";
    }

    private static String thrown(Class<?>[] types) {
        return types.length == 0 ? "" : " throws " + names(types);
    }

    private static String names(Class<?>[] types) {
        StringBuilder text = new StringBuilder();
        for (Class<?> type : types) {
            text.append(text.length() == 0 ? "" : ",").append(type.getSimpleName());
        }
        return text.toString();
    }
}
