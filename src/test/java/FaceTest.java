import java.lang.reflect.Constructor;
import java.lang.reflect.Field;
import java.lang.reflect.Method;
import java.lang.reflect.Modifier;
import java.util.Set;
import java.util.TreeSet;

/** The public face, and the rules of the language that can be seen from the compiled class. */
public final class FaceTest {
    private static final String[] FACE = {
        "int state(int)", "int spot(int)", "boolean way(int,int,int)", "int person(int,int,int)",
        "int debt(int,int,int,int)", "boolean set(int,int)", "boolean goal(int,int)", "int feed(int,int,int,int,int)",
        "boolean end(int)", "int text()", "int fault(int)", "int sunday()", "int pass(int)", "int of(int,int)",
        "int owed(int,int)", "int cleared(int)", "int first(int,int)", "int tour(int,int)",
        "int share(int,int,int,int)", "boolean chance(int,int,int)", "long waiting(int,int,int)",
        "int line(int,int,int,int)", "int wrong(int)", "boolean image(boolean)", "int look(int)"
    };

    public static void main(String[] args) throws Exception {
        Class<?> face = PaidWhereMade.class;
        Set<String> want = new TreeSet<>(Set.of(FACE));
        Set<String> names = new TreeSet<>();
        Set<String> got = new TreeSet<>();
        for (Method m : face.getDeclaredMethods()) {
            if (Modifier.isPublic(m.getModifiers())) {
                got.add(told(m));
                names.add(m.getName());
            } else {
                Due.is("private is " + m, Modifier.isPrivate(m.getModifiers()) || m.isSynthetic(), true);
            }
        }
        Due.is("the face is " + got, got.equals(want), true);
        for (Field f : face.getDeclaredFields()) {
            boolean isNone = f.getName().equals("NONE");
            int how = f.getModifiers();
            Due.is("private is " + f, isNone ? Modifier.isPublic(how) : Modifier.isPrivate(how), true);
        }
        Due.is("constructors", face.getDeclaredConstructors().length, 1);
        Due.is("final and public", Modifier.isFinal(face.getModifiers()) && Modifier.isPublic(face.getModifiers()), true);
        Constructor<?> made = face.getConstructor();
        Due.is("public is " + made, Modifier.isPublic(made.getModifiers()), true);
        inside(face, names);
        Due.finish();
    }

    private static String told(Method m) {
        StringBuilder text = new StringBuilder(m.getReturnType() + " " + m.getName() + "(");
        for (int i = 0; i < m.getParameterCount(); i++) {
            text.append(i == 0 ? "" : ",").append(m.getParameterTypes()[i]);
        }
        return text.append(")").toString();
    }

    private static void inside(Class<?> face, Set<String> names) {
        Due.is("some twelve classes", face.getDeclaredClasses().length <= 12, true);
        for (Class<?> c : face.getDeclaredClasses()) {
            Due.is("static is " + c, Modifier.isStatic(c.getModifiers()), true);
            for (Field f : c.getDeclaredFields()) {
                int how = f.getModifiers();
                Due.is("no static state in " + f, !Modifier.isStatic(how) || Modifier.isFinal(how), true);
            }
            for (Method m : c.getDeclaredMethods()) {
                Due.is("name of the face: " + m, names.contains(m.getName()), false);
                Due.is("seven parameters at most: " + m, m.getParameterCount() <= 7, true);
            }
        }
    }
}
