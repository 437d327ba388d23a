import java.lang.reflect.Constructor;
import java.lang.reflect.Field;
import java.lang.reflect.Method;
import java.lang.reflect.Modifier;
import java.util.Set;
import java.util.TreeSet;

/** The face: the document's constant, constructor and methods, and no other member to be seen. */
public final class FaceTest {
    private static final String[] METHODS = {
        "int feed(int,int,int,int,int)", "int text(int)", "int fault(int)", "int named(int,int)",
        "int look(int,int)", "int hole(int,int)", "int house(int,int)", "long law(int,int,int)",
        "int move(int,int)", "int nights(int)", "int feast(int)", "int saw(int,int,int)",
        "int plan(int)", "int hangs(int,int,int)", "int carriers(int)", "int least(int,int,int)",
        "int placed(int,int,int)", "int most()", "int shutting()", "int shut(int)",
        "int light(int,int)", "int sight(int,int,boolean)", "int strike(int)",
        "boolean known(int)", "int tales()", "int tale(int,int)", "int sure(int)",
        "int chance(int,int,int,int)", "int bird(int)", "int undo()", "int keep()", "int back()",
        "int count(int)"
    };

    public static void main(String[] args) {
        Check check = new Check();
        Class<?> face = WindowLoans.class;
        check.due("the class is public and final",
            Modifier.isPublic(face.getModifiers()) && Modifier.isFinal(face.getModifiers()), true);
        Set<String> seen = new TreeSet<>();
        for (Method method : face.getDeclaredMethods()) {
            if (!Modifier.isPrivate(method.getModifiers()) && !method.isSynthetic()) {
                seen.add(describe(method));
            }
        }
        Set<String> wanted = new TreeSet<>(Set.of(METHODS));
        check.due("methods to be seen " + seen, seen.equals(wanted), true);
        Constructor<?>[] constructors = face.getDeclaredConstructors();
        check.due("constructors", constructors.length, 1);
        check.due("its parameters", constructors[0].getParameterCount(), 0);
        int fields = 0;
        for (Field field : face.getDeclaredFields()) {
            if (!Modifier.isPrivate(field.getModifiers()) && !field.isSynthetic()) {
                fields++;
                check.due("a field to be seen: " + field.getName(), field.getName().equals("NONE"), true);
            }
        }
        check.due("fields to be seen", fields, 1);
        check.due("NONE", WindowLoans.NONE, -1);
        check.end();
    }

    private static String describe(Method method) {
        StringBuilder text = new StringBuilder();
        text.append(method.getReturnType().getName()).append(' ').append(method.getName()).append('(');
        Class<?>[] types = method.getParameterTypes();
        for (int k = 0; k < types.length; k++) {
            text.append(k == 0 ? "" : ",").append(types[k].getName());
        }
        return text.append(')').toString();
    }
}
