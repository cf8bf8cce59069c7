import java.lang.reflect.Constructor;
import java.lang.reflect.Field;
import java.lang.reflect.Method;
import java.lang.reflect.Modifier;
import java.util.ArrayList;
import java.util.Arrays;
import java.util.HashSet;
import java.util.List;
import java.util.Set;
import java.util.TreeSet;
import java.util.stream.Collectors;

/** The public face, and what can be seen of the members of the class from outside. */
public final class FaceTest {
    private static final String A = " IllegalArgumentException";
    private static final String S = " IllegalStateException";
    private static final String I = " IndexOutOfBoundsException";
    private static final String[] FACE = {
        "int append(int)" + A + S, "int clearText()", "int errorPosition()", "int load()" + S,
        "int about(int)" + A, "int setting(int)" + A, "int place(int,int)" + I + A, "int room(int,int)" + I + A,
        "int moved(int,int)" + A, "int way(int,int)" + I + A, "int addRoom(int,int,int,int)" + A + S,
        "int setRoom(int,int,int)" + I + A, "int window(int,boolean)" + I, "int set(int,int)" + A,
        "int outside(int)" + A, "int pass(int)" + A, "int undo()" + S, "int ahead(int,int)" + I + A,
        "int minutesTo(int)" + I, "int whyOff()", "int whyShare()", "int bestSlope(int)" + A,
        "int leastPower(int)" + A, "int heatFor(int)" + A, "int runScript(int,long)" + A,
        "long simulate(long,int)" + A, "int save(int)" + I, "int restore(int)" + I + S};

    public static void main(String[] args) {
        Class<?> face = MixerStation.class;
        Check.isTrue("the class is public and final",
                Modifier.isPublic(face.getModifiers()) && Modifier.isFinal(face.getModifiers()));
        methods(face);
        members(face);
        Check.end("FaceTest");
    }

    private static String names(Class<?>[] types, String between) {
        return Arrays.stream(types).map(Class::getSimpleName).collect(Collectors.joining(between));
    }

    private static void methods(Class<?> face) {
        Set<String> got = new TreeSet<>();
        for (Method m : face.getDeclaredMethods()) {
            if (!Modifier.isPrivate(m.getModifiers())) {
                String thrown = names(m.getExceptionTypes(), " ");
                got.add(m.getReturnType() + " " + m.getName() + "(" + names(m.getParameterTypes(), ",") + ")"
                        + (thrown.isEmpty() ? "" : " " + thrown));
            }
        }
        Set<String> want = new TreeSet<>(Arrays.asList(FACE));
        Check.isTrue("the methods of the face are " + want + ", here are " + got, got.equals(want));
    }

    private static void members(Class<?> face) {
        List<String> open = new ArrayList<>();
        for (Field f : face.getDeclaredFields()) {
            if (!Modifier.isPrivate(f.getModifiers())) {
                open.add(f.getName());
            }
            Check.isTrue("the static field " + f.getName() + " is final",
                    !Modifier.isStatic(f.getModifiers()) || Modifier.isFinal(f.getModifiers()));
        }
        Check.isTrue("NONE is the only open field, here are " + open, open.equals(List.of("NONE")));
        Constructor<?>[] constructors = face.getDeclaredConstructors();
        Check.isTrue("one constructor, public and without arguments", constructors.length == 1
                && Modifier.isPublic(constructors[0].getModifiers()) && constructors[0].getParameterCount() == 0);
        Set<String> names = new HashSet<>();
        for (String line : FACE) {
            names.add(line.substring(line.indexOf(' ') + 1, line.indexOf('(')));
        }
        for (Class<?> inside : face.getDeclaredClasses()) {
            Check.isTrue(inside + " is static and not public", Modifier.isStatic(inside.getModifiers())
                    && !Modifier.isPublic(inside.getModifiers()) && !Modifier.isProtected(inside.getModifiers()));
            for (Method m : inside.getDeclaredMethods()) {
                Check.isTrue(m + " has a name of its own", !names.contains(m.getName()));
            }
        }
        Check.isTrue("at most some twelve classes", face.getDeclaredClasses().length < 12);
    }
}
