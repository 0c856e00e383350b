import java.lang.reflect.Constructor;
import java.lang.reflect.Field;
import java.lang.reflect.Method;
import java.lang.reflect.Modifier;
import java.util.Arrays;
import java.util.List;
import java.util.TreeSet;
import java.util.stream.Collectors;

/** The public face, and rules 1, 5 and 11 of LANGUAGE.md as far as the compiled classes show them. */
public final class FaceTest {
    private static final String[] FACE = {
        "int hang(int,int,int)", "int off(int,int)", "int of(int,int,int)", "int set(int,int,int,int)",
        "int turn(int,int,int)", "int as(int,int,int)", "int swap(int,int,int)", "int take(int)",
        "int like(int,int)", "int wind(int)", "int days(int)", "int means(int,int)", "int forget(int)",
        "int number(int)", "int read(int)", "int apart()", "int worth(int)", "int worthIn(int,int)",
        "int says(int)", "int winds(int)", "int lost(int)", "int fewest(int,int)", "int which(int,int)",
        "int more(int,int)", "int orders(int,int)", "int most(int)", "int least(int)", "int order(int,int)",
        "int worths(int)", "int can(int)", "int join(int,int)", "int same(int,int)", "int best(int)",
        "int feed(int,int)", "int wipe()", "int town()", "int sheet(int,int,int)", "long write(int,int,long)",
        "int copy(int,int,int,int,int)", "int lays(int,int)", "int show(int,int)", "int check(int,int)",
        "int image()", "int undo()", "int tear()", "int count(int)", "int status(int)"};

    public static void main(String[] args) {
        Class<?> face = LinenSigns.class;
        Due.is("modifiers", face.getModifiers(), Modifier.PUBLIC | Modifier.FINAL);
        TreeSet<String> names = new TreeSet<>();
        TreeSet<String> found = new TreeSet<>();
        for (Method m : face.getDeclaredMethods()) {
            if (!Modifier.isPrivate(m.getModifiers())) {
                found.add(told(m));
                names.add(m.getName());
                Due.is("modifiers of " + m, m.getModifiers(), Modifier.PUBLIC);
            }
        }
        Due.holds("the face is as told: " + found, found.equals(new TreeSet<>(Arrays.asList(FACE))));
        Constructor<?>[] made = face.getDeclaredConstructors();
        Due.is("constructors", made.length, 1);
        Due.is("its parameters", made[0].getParameterCount(), 0);
        Due.is("its modifiers", made[0].getModifiers(), Modifier.PUBLIC);
        fields(face);
        List<Class<?>> inside = List.of(face.getDeclaredClasses());
        Due.holds("at most twelve classes", inside.size() < 12);
        for (Class<?> c : inside) {
            Due.holds(c + " is static", Modifier.isStatic(c.getModifiers()));
            Due.holds(c + " isn't public", (c.getModifiers() & (Modifier.PUBLIC | Modifier.PROTECTED)) == 0);
            fields(c);
            methods(c, names);
        }
        methods(face, names);
        Due.end();
    }

    private static String told(Method m) {
        return m.getReturnType() + " " + m.getName() + "("
            + Arrays.stream(m.getParameterTypes()).map(Class::getName).collect(Collectors.joining(",")) + ")";
    }

    private static void fields(Class<?> c) {
        int own = 0;
        for (Field f : c.getDeclaredFields()) {
            boolean isStatic = Modifier.isStatic(f.getModifiers());
            own += isStatic ? 0 : 1;
            Due.holds(f + " is no changing static", !isStatic || Modifier.isFinal(f.getModifiers()));
            Due.holds(f + " is private", c != LinenSigns.class || Modifier.isPrivate(f.getModifiers()));
        }
        Due.holds(c + " has few fields", own <= 20);
    }

    private static void methods(Class<?> c, TreeSet<String> names) {
        for (Method m : c.getDeclaredMethods()) {
            Due.holds(m + " has few parameters", m.getParameterCount() <= 7);
            boolean isOfFace = c == LinenSigns.class && Modifier.isPublic(m.getModifiers());
            Due.holds(m + " bears no name of the face", isOfFace || !names.contains(m.getName()));
            Due.holds(m + " tells no exceptions", m.getExceptionTypes().length == 0);
        }
    }
}
