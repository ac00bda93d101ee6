import java.lang.reflect.Constructor;
import java.lang.reflect.Field;
import java.lang.reflect.Method;
import java.lang.reflect.Modifier;
import java.util.Arrays;
import java.util.Set;
import java.util.TreeSet;

/** The public face: just the document's members, and no other that is not private. */
public final class FaceTest {
    private static final String[] METHODS = {
        "int row(int)", "int word(int,int)", "int label(int,int)", "int addition(int,int)",
        "int counted(int,int)", "long share(int,int,int) throws ArithmeticException",
        "long weight(int,int,int)", "int best(int)", "int rounds(int)", "int guess(int)", "int text(int)",
        "long next(int,int,int,int)", "int likely(int,int)", "int weigh(int,int,int,int)", "int sign(int,int)",
        "int path(int,int)", "long total(int)", "long at(int,int,int,int) throws ArithmeticException",
        "int learn(int)", "int rule(int,int)", "int count(int)"
    };

    public static void main(String[] args) {
        Class<?> face = CountLearners.class;
        Check.due("NONE", CountLearners.NONE, -1);
        Check.due("BAD", CountLearners.BAD, -2);
        Check.due("FULL", CountLearners.FULL, -3);
        Check.isTrue("the class is public", Modifier.isPublic(face.getModifiers()));
        Check.isTrue("the class is final", Modifier.isFinal(face.getModifiers()));
        methods(face);
        fields(face);
        Constructor<?>[] makers = face.getDeclaredConstructors();
        Check.isTrue("one public constructor without arguments", makers.length == 1
            && makers[0].getParameterCount() == 0 && Modifier.isPublic(makers[0].getModifiers()));
        for (Class<?> inside : face.getDeclaredClasses()) {
            int kind = inside.getModifiers();
            Check.isTrue(inside.getName() + " is static and not public",
                Modifier.isStatic(kind) && !Modifier.isPublic(kind) && !Modifier.isProtected(kind));
        }
        Check.end();
    }

    private static void methods(Class<?> face) {
        Set<String> open = new TreeSet<>();
        Set<String> openNames = new TreeSet<>();
        Set<String> closedNames = new TreeSet<>();
        for (Method method : face.getDeclaredMethods()) {
            if (Modifier.isPrivate(method.getModifiers())) {
                closedNames.add(method.getName());
            } else {
                Check.isTrue(method.getName() + " is public", Modifier.isPublic(method.getModifiers()));
                open.add(told(method));
                openNames.add(method.getName());
            }
        }
        Set<String> due = new TreeSet<>(Arrays.asList(METHODS));
        Check.isTrue("methods of the face are " + due + ", and not " + open, open.equals(due));
        closedNames.retainAll(openNames);
        Check.isTrue("no private method bears a public name: " + closedNames, closedNames.isEmpty());
    }

    private static String told(Method method) {
        StringBuilder text = new StringBuilder(method.getReturnType().getSimpleName());
        text.append(' ').append(method.getName()).append('(');
        String between = "";
        for (Class<?> type : method.getParameterTypes()) {
            text.append(between).append(type.getSimpleName());
            between = ",";
        }
        text.append(')');
        for (Class<?> type : method.getExceptionTypes()) {
            text.append(" throws ").append(type.getSimpleName());
        }
        return text.toString();
    }

    private static void fields(Class<?> face) {
        Set<String> open = new TreeSet<>();
        for (Field field : face.getDeclaredFields()) {
            int kind = field.getModifiers();
            if (!Modifier.isPrivate(kind)) {
                open.add(field.getName());
                Check.isTrue(field.getName() + " is a public constant",
                    Modifier.isPublic(kind) && Modifier.isStatic(kind) && Modifier.isFinal(kind));
            }
        }
        Check.isTrue("constants are NONE, BAD, FULL: " + open, open.equals(Set.of("NONE", "BAD", "FULL")));
    }
}
