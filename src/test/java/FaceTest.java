import java.lang.reflect.Constructor;
import java.lang.reflect.Field;
import java.lang.reflect.Method;
import java.lang.reflect.Modifier;
import java.util.Set;
import java.util.TreeSet;

/** The public face of the document, and rule 1 of the language: no other member can be seen. */
public final class FaceTest {
    private static final String[] FACE = {
        "boolean track(int,int)", "boolean bend(int,int,int,int)", "boolean runners(int,int,int,int,int)",
        "int copy(int,int,int,int,int)", "int glide(int,int) throws NoSuchElementException", "boolean weather(int,int,int)",
        "boolean water(int,int)", "int cell(int,int)", "int standard()", "boolean eye(int,int,int)",
        "int sled(int,int,int,int)", "int feed(int,int,int,int,int)", "int end(int)", "int laws()", "int place()",
        "int law(int)", "boolean race()", "int begin(int)", "int order(int)", "int start()", "int shut()",
        "boolean touch(int,int)", "int time(int,int,int)", "int twice(int,int,int)", "int sum(int,int)", "int rank(int,int)",
        "int ice(int,int) throws NoSuchElementException", "int lost(int,int,int)", "int close()", "int points(int,int)",
        "int count(int)"};

    public static void main(String[] args) {
        Due.is("the class", Modifier.PUBLIC | Modifier.FINAL, IceRun.class.getModifiers());
        methods();
        fields();
        constructors();
        classes();
        Due.done();
    }

    private static String tell(Method m) {
        StringBuilder text = new StringBuilder(m.getReturnType().getName()).append(' ').append(m.getName()).append('(');
        for (Class<?> p : m.getParameterTypes()) {
            text.append(text.charAt(text.length() - 1) == '(' ? "" : ",").append(p.getName());
        }
        text.append(')');
        for (Class<?> e : m.getExceptionTypes()) {
            text.append(" throws ").append(e.getSimpleName());
        }
        return text.toString();
    }

    private static void methods() {
        Set<String> face = new TreeSet<>(Set.of(FACE));
        Set<String> names = new TreeSet<>();
        for (Method m : IceRun.class.getDeclaredMethods()) {
            if (Modifier.isPublic(m.getModifiers())) {
                Due.yes(tell(m) + " in the face", face.remove(tell(m)));
                Due.no(tell(m) + " static", Modifier.isStatic(m.getModifiers()));
                names.add(m.getName());
            }
        }
        Due.is("missing " + face, 0, face.size());
        for (Method m : IceRun.class.getDeclaredMethods()) {
            if (!Modifier.isPublic(m.getModifiers()) && !m.isSynthetic()) {
                Due.yes(tell(m) + " private", Modifier.isPrivate(m.getModifiers()));
                Due.no(tell(m) + " by a public name", names.contains(m.getName()));
            }
        }
    }

    private static void fields() {
        for (Field f : IceRun.class.getDeclaredFields()) {
            if (f.getName().equals("NONE")) {
                Due.is("NONE", Modifier.PUBLIC | Modifier.STATIC | Modifier.FINAL, f.getModifiers());
            } else {
                Due.yes(f.getName() + " private", Modifier.isPrivate(f.getModifiers()));
            }
            if (Modifier.isStatic(f.getModifiers())) {
                Due.yes(f.getName() + " final", Modifier.isFinal(f.getModifiers()));
            }
        }
    }

    private static void constructors() {
        Constructor<?>[] all = IceRun.class.getDeclaredConstructors();
        Due.is("constructors", 1, all.length);
        Due.is("its parameters", 0, all[0].getParameterCount());
        Due.yes("public", Modifier.isPublic(all[0].getModifiers()));
    }

    private static void classes() {
        for (Class<?> c : IceRun.class.getDeclaredClasses()) {
            Due.yes(c.getName() + " static", Modifier.isStatic(c.getModifiers()));
            Due.no(c.getName() + " public", Modifier.isPublic(c.getModifiers()) || Modifier.isProtected(c.getModifiers()));
        }
    }
}
