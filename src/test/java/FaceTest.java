import java.lang.reflect.Constructor;
import java.lang.reflect.Field;
import java.lang.reflect.Member;
import java.lang.reflect.Method;
import java.lang.reflect.Modifier;
import java.util.ArrayList;
import java.util.List;
import java.util.TreeSet;

/** The class shows the document's face, and nothing else; rules 1 and 5 of LANGUAGE.md. */
public final class FaceTest {
    private static final String[] FACE = {
        "method(int)int", "operation(int,int,int)int", "handler(int,int,int,int,int)int",
        "search(int,int,int,int)int", "more(int)int", "told(int)int", "path(int,int)int",
        "condition(int,int,int)int", "token(int,int)int", "value(int,int,int)int",
        "along(int,int)int", "input(int,int)int", "flip(int,int)int", "pruned(int,int)int",
        "times(int,int)int", "plain(int,int,int,int,int)int", "agrees()boolean"};

    public static void main(String[] args) {
        Check check = new Check();
        check.in("face");
        Class<?> face = PathRunner.class;
        check.due("public", true, Modifier.isPublic(face.getModifiers()));
        check.due("final", true, Modifier.isFinal(face.getModifiers()));

        TreeSet<String> want = new TreeSet<>(List.of(FACE));
        TreeSet<String> got = new TreeSet<>();
        for (Method method : face.getDeclaredMethods()) {
            if (!Modifier.isPrivate(method.getModifiers())) {
                got.add(describe(method));
                check.due(method.getName() + " is public", true, Modifier.isPublic(method.getModifiers()));
                check.due(method.getName() + " is static", false, Modifier.isStatic(method.getModifiers()));
            }
        }
        check.due("methods " + got, true, want.equals(got));

        List<String> constants = new ArrayList<>();
        for (Field field : face.getDeclaredFields()) {
            if (!Modifier.isPrivate(field.getModifiers())) {
                constants.add(field.getName());
            }
            checkStatic(check, field);
        }
        check.due("constants " + constants, true,
                constants.equals(List.of("NONE", "BAD", "STATE", "FULL")));
        check.due("NONE", -1, PathRunner.NONE);
        check.due("BAD", -2, PathRunner.BAD);
        check.due("STATE", -3, PathRunner.STATE);
        check.due("FULL", -4, PathRunner.FULL);

        Constructor<?>[] made = face.getDeclaredConstructors();
        check.due("constructors", 1, made.length);
        check.due("its parameters", 1, made[0].getParameterCount());
        checkInner(check, face, want);
        check.end("FaceTest");
    }

    private static void checkInner(Check check, Class<?> face, TreeSet<String> want) {
        TreeSet<String> names = new TreeSet<>();
        for (String one : want) {
            names.add(one.substring(0, one.indexOf('(')));
        }
        check.due("classes inside", true, face.getDeclaredClasses().length <= 11);
        for (Class<?> inner : face.getDeclaredClasses()) {
            check.due(inner + " is static", true, Modifier.isStatic(inner.getModifiers()));
            check.due(inner + " is public", false, Modifier.isPublic(inner.getModifiers()));
            for (Method method : inner.getDeclaredMethods()) {
                check.due(method + " bears a name of the face", false, names.contains(method.getName()));
                check.due(method + " takes more than seven", false, method.getParameterCount() > 7);
            }
            int own = 0;
            for (Field field : inner.getDeclaredFields()) {
                checkStatic(check, field);
                own += Modifier.isStatic(field.getModifiers()) ? 0 : 1;
            }
            check.due(inner + " has more than twenty fields", false, own > 20);
        }
    }

    private static void checkStatic(Check check, Member field) {
        if (Modifier.isStatic(field.getModifiers())) {
            check.due(field.getName() + " is final", true, Modifier.isFinal(field.getModifiers()));
        }
    }

    private static String describe(Method method) {
        StringBuilder text = new StringBuilder(method.getName()).append('(');
        for (Class<?> type : method.getParameterTypes()) {
            text.append(text.charAt(text.length() - 1) == '(' ? "" : ",").append(type.getName());
        }
        return text.append(')').append(method.getReturnType().getName()).toString();
    }
}
