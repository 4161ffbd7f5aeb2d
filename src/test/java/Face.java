import java.lang.reflect.Constructor;
import java.lang.reflect.Field;
import java.lang.reflect.Method;
import java.lang.reflect.Modifier;
import java.util.Arrays;
import java.util.List;
import java.util.TreeSet;

/** The class has the document's public face and nothing else that can be seen from outside. */
public final class Face {
    private static final List<String> DUE = List.of(
        "int request(int,int,int,int)", "int deliver(int)", "int next()", "boolean remind(int)",
        "boolean suspect(int)", "boolean crash(int)", "boolean recover(int,int)", "int status(int)",
        "int view(int)", "int length(int)", "int commit(int)", "int entry(int,int)",
        "int origin(int,int)", "int total(int)", "int vector(int,int)", "int sent()",
        "int message(int)", "int answered(int)", "int answer(int)");

    private static int wrong = 0;

    private static void check(String what, boolean holds) {
        if (!holds) {
            wrong++;
            System.out.println("does not hold: " + what);
        }
    }

    private static String signature(Method method) {
        StringBuilder text = new StringBuilder();
        text.append(method.getReturnType().getName()).append(' ').append(method.getName()).append('(');
        Class<?>[] types = method.getParameterTypes();
        for (int i = 0; i < types.length; i++) {
            text.append(i == 0 ? "" : ",").append(types[i].getName());
        }
        return text.append(')').toString();
    }

    private static void checkMethods() {
        TreeSet<String> seen = new TreeSet<>();
        for (Method method : GroupLog.class.getDeclaredMethods()) {
            if (Modifier.isPrivate(method.getModifiers())) {
                continue;
            }
            seen.add(signature(method));
            check(method + " is public", Modifier.isPublic(method.getModifiers()));
            check(method + " is not static", !Modifier.isStatic(method.getModifiers()));
            check(method + " throws nothing", method.getExceptionTypes().length == 0);
        }
        check("the methods are " + DUE + " but are " + seen, seen.equals(new TreeSet<>(DUE)));
    }

    private static void checkFieldsAndConstructor() {
        for (Field field : GroupLog.class.getDeclaredFields()) {
            check(field + " is private", Modifier.isPrivate(field.getModifiers()));
        }
        Constructor<?>[] constructors = GroupLog.class.getDeclaredConstructors();
        check("there is one constructor", constructors.length == 1);
        check("it is public", Modifier.isPublic(constructors[0].getModifiers()));
        check("it takes one int",
            Arrays.equals(constructors[0].getParameterTypes(), new Class<?>[] {int.class}));
    }

    private static void checkClass() {
        check("it is public", Modifier.isPublic(GroupLog.class.getModifiers()));
        check("it is final", Modifier.isFinal(GroupLog.class.getModifiers()));
        check("it extends Object", GroupLog.class.getSuperclass() == Object.class);
        check("it implements nothing", GroupLog.class.getInterfaces().length == 0);
        for (Class<?> inside : GroupLog.class.getDeclaredClasses()) {
            check(inside + " is static", Modifier.isStatic(inside.getModifiers()));
        }
    }

    public static void main(String[] args) {
        checkClass();
        checkMethods();
        checkFieldsAndConstructor();
        System.out.println(wrong == 0 ? "the face is as due" : wrong + " things are not as due");
        if (wrong != 0) {
            System.exit(1);
        }
    }
}
