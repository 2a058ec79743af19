import java.lang.reflect.Constructor;
import java.lang.reflect.Field;
import java.lang.reflect.Method;
import java.lang.reflect.Modifier;
import java.util.ArrayList;
import java.util.List;
import java.util.Set;
import java.util.TreeSet;

/** The public face is the document's, and nothing else of the class is open (LANGUAGE.md, rules 1 and 2). */
public final class FaceTest {
    private static final Check check = new Check("FaceTest");

    private static final String[] FACE = {
        "int make(int,int,int) IllegalArgumentException IllegalStateException",
        "int breakOne(int) IndexOutOfBoundsException",
        "int bath(int,int) IndexOutOfBoundsException IllegalArgumentException",
        "int pass(int) IllegalArgumentException",
        "int set(int,int) IndexOutOfBoundsException IllegalArgumentException",
        "int measure(int,int) IndexOutOfBoundsException IllegalStateException",
        "int forget(int,int) IndexOutOfBoundsException IllegalArgumentException",
        "int paper(int) IndexOutOfBoundsException IllegalStateException",
        "int append(int) IllegalArgumentException IllegalStateException",
        "int clearBuffer()",
        "int firstError()",
        "int work() IllegalArgumentException",
        "int stopped(int) IllegalArgumentException",
        "int undo() IllegalStateException",
        "int keep()",
        "int restore() IllegalStateException",
        "int reads(int,int) IndexOutOfBoundsException IllegalArgumentException",
        "int corrected(int,int,int) IndexOutOfBoundsException IllegalArgumentException",
        "int thermometer(int,int) IndexOutOfBoundsException IllegalArgumentException",
        "int point(int,int,int) IndexOutOfBoundsException IllegalArgumentException",
        "int count(int) IllegalArgumentException",
        "int whyNot(int,int) IndexOutOfBoundsException",
        "int overlap(int,int,int) IndexOutOfBoundsException IllegalArgumentException",
        "int worstDegree(int,int) IndexOutOfBoundsException",
        "int voidIn(int) IndexOutOfBoundsException",
        "double validShare()",
        "long digest()",
    };

    public static void main(String[] args) {
        methods();
        fieldsAndConstructor();
        nestedClasses();
        check.end();
    }

    private static void methods() {
        Set<String> open = new TreeSet<>();
        Set<String> names = new TreeSet<>();
        for (Method method : ThawPoints.class.getDeclaredMethods()) {
            if (Modifier.isPublic(method.getModifiers()) && !Modifier.isStatic(method.getModifiers())) {
                open.add(signature(method));
                names.add(method.getName());
            } else if (!Modifier.isPrivate(method.getModifiers())) {
                check.fail("open method " + method);
            }
        }
        check.due("the face", open.equals(new TreeSet<>(List.of(FACE))) ? 1 : 0, 1);
        List<Class<?>> all = new ArrayList<>(List.of(ThawPoints.class.getDeclaredClasses()));
        all.add(ThawPoints.class);
        for (Class<?> type : all) {
            for (Method method : type.getDeclaredMethods()) {
                if (!Modifier.isPublic(method.getModifiers()) && names.contains(method.getName())) {
                    check.fail("a method bears the name of a public one: " + method);
                }
            }
        }
    }

    private static String signature(Method method) {
        StringBuilder text = new StringBuilder(method.getReturnType() + " " + method.getName() + "(");
        String between = "";
        for (Class<?> type : method.getParameterTypes()) {
            text.append(between).append(type);
            between = ",";
        }
        text.append(")");
        for (Class<?> type : method.getExceptionTypes()) {
            text.append(" ").append(type.getSimpleName());
        }
        return text.toString();
    }

    private static void fieldsAndConstructor() {
        for (Field field : ThawPoints.class.getDeclaredFields()) {
            boolean none = field.getName().equals("NONE");
            int kind = none ? Modifier.PUBLIC | Modifier.STATIC | Modifier.FINAL : Modifier.PRIVATE;
            check.due("openness of " + field, field.getModifiers() & kind, kind);
        }
        Constructor<?>[] constructors = ThawPoints.class.getDeclaredConstructors();
        check.due("constructors", constructors.length, 1);
        check.due("parameters", constructors[0].getParameterCount(), 0);
        check.due("public", constructors[0].getModifiers(), Modifier.PUBLIC);
        check.due("the class", ThawPoints.class.getModifiers(), Modifier.PUBLIC | Modifier.FINAL);
    }

    private static void nestedClasses() {
        Class<?>[] nested = ThawPoints.class.getDeclaredClasses();
        check.due("at most twelve classes", nested.length < 12 ? 1 : 0, 1);
        for (Class<?> type : nested) {
            check.due("openness of " + type, type.getModifiers() & (Modifier.PUBLIC | Modifier.PROTECTED), 0);
            check.due("static " + type, type.getModifiers() & Modifier.STATIC, Modifier.STATIC);
        }
    }
}
