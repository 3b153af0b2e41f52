import java.lang.reflect.Constructor;
import java.lang.reflect.Executable;
import java.lang.reflect.Field;
import java.lang.reflect.Method;
import java.lang.reflect.Modifier;
import java.util.ArrayList;
import java.util.List;
import java.util.TreeSet;

/** The public face of the document, with nothing beside it: LANGUAGE.md, rules 1, 5 and 11. */
public final class FaceTest {
    private static final String[] FACE = {
        "int addShop(int) IllegalArgumentException IllegalStateException",
        "int addItem(int, int) IllegalArgumentException IllegalStateException",
        "int carry(int, int, int, int) IndexOutOfBoundsException IllegalArgumentException IllegalStateException",
        "boolean carries(int, int) IndexOutOfBoundsException",
        "int supply(int, int) IndexOutOfBoundsException IllegalArgumentException IllegalStateException",
        "int setService(int) IllegalArgumentException",
        "int setRates(int, int) IllegalArgumentException",
        "boolean mark(int, int) IndexOutOfBoundsException IllegalArgumentException",
        "boolean isMarked(int, int) IndexOutOfBoundsException IllegalArgumentException",
        "int demand(int, int, int) IndexOutOfBoundsException NoSuchElementException IllegalArgumentException "
            + "UnsupportedOperationException",
        "int night() IllegalStateException",
        "int today()",
        "int demandToday(int, int) IndexOutOfBoundsException NoSuchElementException",
        "int level(int, int) IndexOutOfBoundsException NoSuchElementException",
        "int levelByDays(int, int) IndexOutOfBoundsException NoSuchElementException",
        "int season(int, int, int) IndexOutOfBoundsException NoSuchElementException IllegalArgumentException",
        "int forecast(int, int, int) IndexOutOfBoundsException NoSuchElementException IllegalArgumentException",
        "int errors(int, int, int) IndexOutOfBoundsException NoSuchElementException IllegalArgumentException",
        "int safety(int, int) IndexOutOfBoundsException NoSuchElementException",
        "int stock(int, int) IndexOutOfBoundsException NoSuchElementException",
        "int stockByJournal(int, int) IndexOutOfBoundsException NoSuchElementException",
        "int onWay(int, int) IndexOutOfBoundsException NoSuchElementException",
        "int nextArrival(int, int) IndexOutOfBoundsException NoSuchElementException",
        "int need(int, int) IndexOutOfBoundsException NoSuchElementException",
        "int request(int, int) IndexOutOfBoundsException NoSuchElementException",
        "int share(int, int) IndexOutOfBoundsException NoSuchElementException",
        "int shareByPacks(int, int) IndexOutOfBoundsException NoSuchElementException",
        "int centre(int) IndexOutOfBoundsException",
        "int centreByJournal(int) IndexOutOfBoundsException",
        "int sold(int, int) IndexOutOfBoundsException NoSuchElementException",
        "int lost(int, int) IndexOutOfBoundsException NoSuchElementException",
        "long units()",
        "float service(int) IndexOutOfBoundsException NoSuchElementException",
    };
    private static final Checks checks = new Checks();

    public static void main(String[] args) {
        publicFace();
        members();
        classesInside();
        checks.end();
    }

    private static String listed(Class<?>[] types, String between) {
        List<String> names = new ArrayList<>();
        for (Class<?> type : types) {
            names.add(type.getSimpleName());
        }
        return String.join(between, names);
    }

    private static String written(Method method) {
        return (method.getReturnType() + " " + method.getName() + "(" + listed(method.getParameterTypes(), ", ") + ") "
            + listed(method.getExceptionTypes(), " ")).trim();
    }

    private static boolean isNotPrivate(int modifiers) {
        return !Modifier.isPrivate(modifiers);
    }

    private static void publicFace() {
        checks.same("public final", Replen.class.getModifiers(), Modifier.PUBLIC | Modifier.FINAL);
        TreeSet<String> found = new TreeSet<>();
        for (Method method : Replen.class.getDeclaredMethods()) {
            if (isNotPrivate(method.getModifiers())) {
                checks.same("public " + method, method.getModifiers(), Modifier.PUBLIC);
                found.add(written(method));
            }
        }
        checks.same("the methods of the face", found.toString(), new TreeSet<>(List.of(FACE)).toString());
        Constructor<?>[] constructors = Replen.class.getDeclaredConstructors();
        checks.same("one constructor", constructors.length, 1);
        for (Constructor<?> constructor : constructors) {
            checks.same("its modifiers", constructor.getModifiers(), Modifier.PUBLIC);
            checks.same("its parameters", constructor.getParameterCount(), 0);
        }
    }

    private static void members() {
        TreeSet<String> names = new TreeSet<>();
        for (String method : FACE) {
            names.add(method.substring(method.indexOf(' ') + 1, method.indexOf('(')));
        }
        for (Field field : Replen.class.getDeclaredFields()) {
            checks.same("private field " + field, isNotPrivate(field.getModifiers()), false);
        }
        for (Method method : Replen.class.getDeclaredMethods()) {
            if (Modifier.isPrivate(method.getModifiers())) {
                checks.same("private name " + method, names.contains(method.getName()), false);
            }
            atMostSeven(method);
        }
    }

    private static void atMostSeven(Executable method) {
        checks.same("at most 7 parameters " + method, method.getParameterCount() <= 7, true);
    }

    private static void classesInside() {
        Class<?>[] inside = Replen.class.getDeclaredClasses();
        checks.same("at most 12 classes", inside.length < 12, true);
        for (Class<?> one : inside) {
            checks.same("static " + one, Modifier.isStatic(one.getModifiers()), true);
            checks.same("not public " + one, Modifier.isPublic(one.getModifiers()), false);
            for (Field field : one.getDeclaredFields()) {
                checks.same("no static state " + field, Modifier.isStatic(field.getModifiers()), false);
            }
            for (Method method : one.getDeclaredMethods()) {
                atMostSeven(method);
            }
        }
        for (Field field : Replen.class.getDeclaredFields()) {
            if (Modifier.isStatic(field.getModifiers())) {
                checks.same("constant " + field, Modifier.isFinal(field.getModifiers()), true);
            }
        }
    }
}
