import java.lang.reflect.Constructor;
import java.lang.reflect.Field;
import java.lang.reflect.Method;
import java.lang.reflect.Modifier;
import java.util.Arrays;
import java.util.Set;
import java.util.TreeSet;

/** The class has the document's public face, and nothing else that is not private. */
public final class FaceTest {
    private static final String[] FACE = {
        "int feed(long,long,long)", "int programme()", "int stuff(int,int)", "int line(int,int)",
        "boolean lay(int,int,int)", "int cost()", "int inputs()", "int input(int,int)", "boolean begin(int)",
        "int run(int)", "int state(int)", "int cell(int) throws java.util.NoSuchElementException",
        "int wrote(int) throws java.util.NoSuchElementException", "boolean fresh()", "int steps(int)",
        "int falls(int)", "int most(int,int)", "int never()", "int first(int)", "int apart()", "int rounds(int)",
        "int lasting(int)", "int lasts(int,int,int)", "int better(int)", "int same(int)",
        "boolean mark(int,boolean)", "int count(int)"};

    public static void main(String[] args) throws ReflectiveOperationException {
        Set<String> want = new TreeSet<>(Arrays.asList(FACE));
        Set<String> got = new TreeSet<>();
        Check check = new Check();
        for (Method method : WornLines.class.getDeclaredMethods()) {
            if (!Modifier.isPrivate(method.getModifiers()) && !method.isSynthetic()) {
                got.add(told(method));
                check.due(method + " is public alone", method.getModifiers(), Modifier.PUBLIC);
            }
        }
        System.out.print(got.equals(want) ? "" : "the face is " + got + "\n");
        check.due("the face", got.equals(want), true);
        for (Field field : WornLines.class.getDeclaredFields()) {
            boolean constant = field.getName().equals("NONE");
            check.due(field + " is private", Modifier.isPrivate(field.getModifiers()), !constant);
        }
        Field none = WornLines.class.getField("NONE");
        check.due("NONE", none.getModifiers(), Modifier.PUBLIC | Modifier.STATIC | Modifier.FINAL);
        check.due("NONE", none.getInt(null), -1);
        Constructor<?>[] constructors = WornLines.class.getDeclaredConstructors();
        check.due("constructors", constructors.length, 1);
        check.due("constructor", constructors[0].getModifiers(), Modifier.PUBLIC);
        check.due("class", WornLines.class.getModifiers(), Modifier.PUBLIC | Modifier.FINAL);
        check.due("no package", WornLines.class.getPackageName().isEmpty(), true);
        check.end();
    }

    private static String told(Method method) {
        StringBuilder s = new StringBuilder(method.getReturnType().getName() + " " + method.getName() + "(");
        for (Class<?> type : method.getParameterTypes()) {
            s.append(s.charAt(s.length() - 1) == '(' ? "" : ",").append(type.getName());
        }
        s.append(")");
        for (Class<?> type : method.getExceptionTypes()) {
            s.append(" throws ").append(type.getName());
        }
        return s.toString();
    }
}
