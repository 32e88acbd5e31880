import java.lang.reflect.Constructor;
import java.lang.reflect.Field;
import java.lang.reflect.Method;
import java.lang.reflect.Modifier;
import java.util.Arrays;
import java.util.Set;
import java.util.TreeSet;

/** The public face, LANGUAGE.md's rule 1 about it, and promise 1. */
public final class FaceTest {
    private static final Set<String> FACE = new TreeSet<>(Arrays.asList(
        "boolean unit(int,int)", "boolean role(int,int,int)", "int step(int,int,int,int,int)",
        "boolean link(int,int,int,int)", "int release(int)!", "int batch(int,int)!", "int start(int)!",
        "int tick()", "void hold(int)!", "int restart(int)!", "int stop(int)!", "void abort(int)!",
        "boolean measure(int,int,int)", "int batchIs(int,int)", "int token(int,int)", "int unitOf(int,int)",
        "int unitIs(int,int)", "int content(int,int,int)", "int lot(int,int)", "int from(int,int,int)",
        "int trace(int,boolean,int)", "int lots()"));

    private static String signature(Method method) {
        StringBuilder text = new StringBuilder();
        text.append(method.getReturnType()).append(' ').append(method.getName()).append('(');
        String comma = "";
        for (Class<?> type : method.getParameterTypes()) {
            text.append(comma).append(type);
            comma = ",";
        }
        text.append(')');
        boolean declares = Arrays.equals(method.getExceptionTypes(),
                new Class<?>[] {IllegalArgumentException.class, IllegalStateException.class});
        return text.append(declares ? "!" : "").toString();
    }

    private static void face() {
        Class<?> type = BatchHall.class;
        Check.yes("public and final", Modifier.isPublic(type.getModifiers()) && Modifier.isFinal(type.getModifiers()));
        Set<String> found = new TreeSet<>();
        for (Method method : type.getDeclaredMethods()) {
            if (Modifier.isPublic(method.getModifiers())) {
                found.add(signature(method));
            } else {
                Check.yes(method + " is private", Modifier.isPrivate(method.getModifiers()));
            }
        }
        Check.yes("the face is " + found, found.equals(FACE));
        for (Field field : type.getDeclaredFields()) {
            boolean isNone = field.getName().equals("NONE");
            Check.same(field + " is public", Modifier.isPublic(field.getModifiers()) ? 1 : 0, isNone ? 1 : 0);
            Check.yes(field + " is private", isNone || Modifier.isPrivate(field.getModifiers()));
        }
        Constructor<?>[] made = type.getDeclaredConstructors();
        Check.yes("one public constructor", made.length == 1 && Modifier.isPublic(made[0].getModifiers())
                && made[0].getParameterCount() == 0);
        for (Class<?> inside : type.getDeclaredClasses()) {
            Check.yes(inside + " is static", Modifier.isStatic(inside.getModifiers()));
        }
        Check.same("NONE", BatchHall.NONE, -1);
    }

    private static void newObject() {
        Check.about("Units of class 0 without content, empty recipes, no batches, no lots.");
        BatchHall hall = new BatchHall();
        for (int unit = 0; unit < 6; unit++) {
            Check.same("owner of " + unit, hall.unitIs(unit, 0), -1);
            Check.same("class of " + unit, hall.unitIs(unit, 1), 0);
            Check.same("lots in " + unit, hall.unitIs(unit, 2), 0);
            Check.same("amount in " + unit, hall.unitIs(unit, 3), 0);
            Check.same("content of " + unit, hall.content(unit, 0, 0), -1);
        }
        Check.same("no unit 6", hall.unitIs(6, 0), -1);
        Check.same("no batch", hall.batchIs(0, 0), -1);
        Check.same("no lots", hall.lots(), 0);
        Check.same("no lot 0", hall.lot(0, 0), -1);
        Check.same("nothing is busy", hall.tick(), 0);
        for (int recipe = 0; recipe < 4; recipe++) {
            Check.same("recipe " + recipe + " is empty", hall.release(recipe), 1);
        }
        // Roles have no class at first: a phase isn't SOUND till its role has one.
        hall.step(0, 1, 2, 1, 0);
        hall.step(0, 9, 0, 0, 0);
        hall.link(0, 0, 1, 0);
        Check.same("role without a class", hall.release(0), 1);
    }

    private static void objectsAreApart() {
        BatchHall one = new BatchHall();
        BatchHall two = new BatchHall();
        one.unit(0, 2);
        one.step(0, 9, 0, 0, 0);
        Check.same("one released", one.release(0), 0);
        Check.same("the other's unit", two.unitIs(0, 1), 0);
        Check.same("the other's recipe", two.release(0), 1);
    }

    public static void main(String[] args) {
        face();
        newObject();
        objectsAreApart();
        Check.end();
    }
}
