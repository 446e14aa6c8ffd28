import java.lang.reflect.Executable;
import java.lang.reflect.Field;
import java.lang.reflect.Method;
import java.lang.reflect.Modifier;
import java.util.Arrays;
import java.util.Set;
import java.util.TreeSet;

/** Promise 1, the constants, the public face, and the rules of LANGUAGE.md that can be seen. */
public final class FaceTest {
    private static final String[] FACE = {
        "int insert(int,int,int,int,int)", "int delete(int,int,int,int,int)", "int take(int,int,int,int)",
        "boolean cut(int)", "boolean stop()", "boolean start()", "boolean up()", "int size()",
        "int count(int,int,int,int)", "int within(int,int,int,int)", "int pick(int,int,int,int,int)",
        "long distance(int,int)", "int nearest(int,int)", "int around(int)", "boolean sound()", "boolean frugal()",
    };

    public static void main(String[] args) {
        newObject();
        constants();
        publicFace();
        classesInside();
        Checks.end();
    }

    private static void newObject() {
        BoxedPages s = new BoxedPages();
        Checks.due("new up", s.up(), true);
        Checks.due("new start", s.start(), false);
        Checks.due("new size", s.size(), 0);
        Checks.due("new count", s.count(-1000000000, -1000000000, 1000000000, 1000000000), 0);
        Checks.due("new within", s.within(-1000000000, -1000000000, 1000000000, 1000000000), 0);
        Checks.due("new pick", s.pick(-1000000000, -1000000000, 1000000000, 1000000000, 0), -1);
        Checks.due("new distance", s.distance(0, 0), -1);
        Checks.due("new nearest", s.nearest(0, 0), -1);
        for (int side = 0; side < 4; side++) {
            Checks.due("new around", s.around(side), 2000000000);
        }
        Checks.due("new sound", s.sound(), true);
        Checks.due("new frugal", s.frugal(), true);
        Checks.due("new take", s.take(0, 0, 0, 0), -1);
        Checks.due("new delete", s.delete(0, 0, 0, 0, 0), -1);
        Checks.due("no cut is set", s.insert(0, 0, 0, 0, 0), 1);
        Checks.due("objects share nothing", new BoxedPages().size(), 0);
        emptyAndDown();
    }

    private static void emptyAndDown() {
        BoxedPages s = new BoxedPages();
        Checks.due("a new store stops", s.stop(), true);
        Checks.due("a new store starts again", s.start(), true);
        Checks.due("and is empty", s.size(), 0);
        Checks.due("and sound", s.sound(), true);
        Checks.due("and can be used", s.insert(3, 1, 1, 1, 1), 1);
    }

    private static void constants() {
        Checks.due("BAD", BoxedPages.BAD, -1);
        Checks.due("FULL", BoxedPages.FULL, -2);
        Checks.due("DOWN", BoxedPages.DOWN, -3);
        Checks.due("LOST", BoxedPages.LOST, -4);
        Checks.due("NONE", BoxedPages.NONE, 2000000000);
    }

    private static void publicFace() {
        Set<String> wanted = new TreeSet<>(Arrays.asList(FACE));
        Set<String> found = new TreeSet<>();
        Set<String> names = new TreeSet<>();
        for (Method method : BoxedPages.class.getDeclaredMethods()) {
            if (Modifier.isPublic(method.getModifiers())) {
                String whole = method.toString().replace("public ", "").replace("BoxedPages.", "");
                found.add(whole);
                names.add(method.getName());
            } else {
                Checks.due("private " + method, Modifier.isPrivate(method.getModifiers()), true);
            }
        }
        Checks.due("the public methods " + found, found.equals(wanted), true);
        for (Method method : BoxedPages.class.getDeclaredMethods()) {
            boolean clash = Modifier.isPrivate(method.getModifiers()) && names.contains(method.getName());
            Checks.due("a private method named as a public one: " + method, clash, false);
        }
        int publicFields = 0;
        for (Field field : BoxedPages.class.getDeclaredFields()) {
            publicFields += Modifier.isPublic(field.getModifiers()) ? 1 : 0;
            boolean hidden = Modifier.isPublic(field.getModifiers()) || Modifier.isPrivate(field.getModifiers());
            Checks.due("hidden or public: " + field, hidden, true);
        }
        Checks.due("public constants", publicFields, 5);
        Checks.due("constructors", BoxedPages.class.getDeclaredConstructors().length, 1);
        Checks.due("final", Modifier.isFinal(BoxedPages.class.getModifiers()), true);
    }

    private static void classesInside() {
        Class<?>[] inside = BoxedPages.class.getDeclaredClasses();
        Checks.due("at most twelve classes", inside.length <= 11, true);
        for (Class<?> one : inside) {
            Checks.due("static " + one, Modifier.isStatic(one.getModifiers()), true);
            Checks.due("not public " + one, Modifier.isPublic(one.getModifiers()), false);
            limits(one);
        }
        limits(BoxedPages.class);
    }

    private static void limits(Class<?> one) {
        int fields = 0;
        for (Field field : one.getDeclaredFields()) {
            boolean fixed = Modifier.isStatic(field.getModifiers());
            fields += fixed ? 0 : 1;
            Checks.due("static and not final: " + field, fixed && !Modifier.isFinal(field.getModifiers()), false);
        }
        Checks.due("at most twenty fields in " + one, fields <= 20, true);
        for (Executable method : one.getDeclaredMethods()) {
            Checks.due("at most seven parameters: " + method, method.getParameterCount() <= 7, true);
        }
    }
}
