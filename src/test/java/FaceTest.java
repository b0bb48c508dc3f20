import java.lang.reflect.Constructor;
import java.lang.reflect.Field;
import java.lang.reflect.Method;
import java.lang.reflect.Modifier;
import java.util.Set;
import java.util.TreeSet;

/** The public face, and the rules of LANGUAGE.md on members that can be seen by reflection. */
public final class FaceTest {
    private static final String[] FACE = {
        "int function(int,int,int)", "int add(int,int,int)", "boolean change(int,int,int,int)",
        "boolean handler(int,int,int,int)", "boolean only(int,int)", "void clear()", "int answer(int)",
        "void forget()", "void begin()", "int go(int)", "int frame(int,int)", "int value(int,boolean,int)",
        "int kind(int,boolean,int)", "int row(int,int)", "int trace(int,int)", "int look(int)",
    };

    public static void main(String[] args) {
        int classModifiers = StackRun.class.getModifiers();
        Check.yes("public and final", Modifier.isPublic(classModifiers) && Modifier.isFinal(classModifiers));
        Check.same("NONE", StackRun.NONE, -1);
        methods();
        fields();
        constructors();
        nestedClasses();
        Check.finish();
    }

    private static void methods() {
        Set<String> due = new TreeSet<>(Set.of(FACE));
        Set<String> names = names();
        for (Method m : StackRun.class.getDeclaredMethods()) {
            String signature = signature(m);
            if (!Modifier.isPrivate(m.getModifiers())) {
                Check.yes("of the face: " + signature, due.remove(signature));
            } else {
                Check.no("private with a public name: " + signature, names.contains(m.getName()));
            }
        }
        Check.yes("missing from the face: " + due, due.isEmpty());
    }

    private static Set<String> names() {
        Set<String> names = new TreeSet<>();
        for (String signature : FACE) {
            names.add(signature.substring(signature.indexOf(' ') + 1, signature.indexOf('(')));
        }
        return names;
    }

    private static String signature(Method m) {
        StringBuilder s = new StringBuilder(m.getReturnType().getName() + " " + m.getName() + "(");
        for (Class<?> p : m.getParameterTypes()) {
            s.append(s.charAt(s.length() - 1) == '(' ? "" : ",").append(p.getName());
        }
        return s.append(")").toString();
    }

    private static void fields() {
        for (Field f : StackRun.class.getDeclaredFields()) {
            Check.yes("private or NONE: " + f, Modifier.isPrivate(f.getModifiers()) || f.getName().equals("NONE"));
            Check.yes("no static state: " + f, isFinalIfStatic(f));
        }
    }

    private static boolean isFinalIfStatic(Field f) {
        return !Modifier.isStatic(f.getModifiers()) || Modifier.isFinal(f.getModifiers());
    }

    private static void constructors() {
        Constructor<?>[] all = StackRun.class.getDeclaredConstructors();
        Check.same("constructors", all.length, 1);
        Check.yes("public", Modifier.isPublic(all[0].getModifiers()));
        Check.same("its parameters", all[0].getParameterCount(), 0);
    }

    private static void nestedClasses() {
        Class<?>[] nested = StackRun.class.getDeclaredClasses();
        Check.yes("at most eleven classes inside", nested.length <= 11);
        for (Class<?> c : nested) {
            int m = c.getModifiers();
            Check.yes("static: " + c, Modifier.isStatic(m) && !Modifier.isPublic(m) && !Modifier.isProtected(m));
            for (Field f : c.getDeclaredFields()) {
                Check.yes("no static state: " + f, isFinalIfStatic(f));
            }
            for (Method inner : c.getDeclaredMethods()) {
                Check.no("inside with a public name: " + inner, names().contains(inner.getName()));
            }
        }
    }
}
