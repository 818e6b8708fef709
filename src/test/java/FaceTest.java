import java.lang.reflect.Constructor;
import java.lang.reflect.Field;
import java.lang.reflect.Method;
import java.lang.reflect.Modifier;
import java.util.Set;
import java.util.TreeSet;

/** The members of the class that are not private are those of the document's face, and no others. */
public final class FaceTest {
    private static final String[] METHODS = {
        "public int TimberList.addBoard(int,int,int) IllegalArgumentException IllegalStateException",
        "public int TimberList.addDefect(int,int,int,int) IndexOutOfBoundsException IllegalArgumentException IllegalStateException",
        "public int TimberList.addPart(int,int,int,int,boolean) IllegalArgumentException IllegalStateException",
        "public int TimberList.setSaw(int) IllegalArgumentException IllegalStateException",
        "public int TimberList.setJoint(int) IllegalArgumentException",
        "public int TimberList.grade(int,int) IndexOutOfBoundsException",
        "public int TimberList.stretches(int,int) IndexOutOfBoundsException IllegalArgumentException",
        "public int TimberList.stretch(int,int,int,boolean) IndexOutOfBoundsException IllegalArgumentException",
        "public boolean TimberList.fits(int,int,int) IndexOutOfBoundsException",
        "public int TimberList.earliest(int,int) IndexOutOfBoundsException",
        "public int TimberList.cut(int,int,int) IndexOutOfBoundsException IllegalStateException",
        "public int TimberList.join(int,int,int,int,int,int) IndexOutOfBoundsException IllegalArgumentException IllegalStateException",
        "public int TimberList.undo() IllegalStateException",
        "public int TimberList.plan()",
        "public int TimberList.left(int) IndexOutOfBoundsException",
        "public int TimberList.pieces(int) IndexOutOfBoundsException",
        "public int TimberList.piece(int,int,int) IndexOutOfBoundsException",
        "public int TimberList.cuts(int) IndexOutOfBoundsException",
        "public int TimberList.longestRoom(int) IndexOutOfBoundsException",
        "public int TimberList.bestUse(int,int,int) IndexOutOfBoundsException IllegalArgumentException",
        "public double TimberList.used()",
        "public long TimberList.digest()"
    };

    public static void main(String[] args) {
        Check check = new Check();
        check.is("the class is public and final", TimberList.class.getModifiers(), Modifier.PUBLIC | Modifier.FINAL);
        check.is("its methods", open(TimberList.class.getDeclaredMethods()).toString(), new TreeSet<>(Set.of(METHODS)).toString());
        Constructor<?>[] constructors = TimberList.class.getDeclaredConstructors();
        check.is("how many constructors", constructors.length, 1);
        check.is("its constructor", constructors[0].toString(), "public TimberList()");
        for (Field field : TimberList.class.getDeclaredFields()) {
            check.is(field + " is private", Modifier.isPrivate(field.getModifiers()), true);
        }
        for (Class<?> inside : TimberList.class.getDeclaredClasses()) {
            check.is(inside + " is static", Modifier.isStatic(inside.getModifiers()), true);
            check.is(inside + " is private", Modifier.isPrivate(inside.getModifiers()), true);
        }
        check.end("FaceTest");
    }

    private static Set<String> open(Method[] methods) {
        Set<String> found = new TreeSet<>();
        for (Method method : methods) {
            if (Modifier.isPrivate(method.getModifiers())) {
                continue;
            }
            StringBuilder text = new StringBuilder(method.toString().replaceAll(" throws .*", ""));
            for (Class<?> thrown : method.getExceptionTypes()) {
                text.append(' ').append(thrown.getSimpleName());
            }
            found.add(text.toString());
        }
        return found;
    }
}
