import java.lang.reflect.Constructor;
import java.lang.reflect.Field;
import java.lang.reflect.Method;
import java.lang.reflect.Modifier;
import java.util.Set;
import java.util.TreeSet;

/** The class has the document's face and no other member that can be seen. */
public final class FaceTest {
    private static final String[] METHODS = {
        "write(int)", "wipe()", "fault()", "lay()", "bell(int,int)", "pins(int)",
        "turn()", "turnBack()", "pin(int,int,boolean)", "shift(int)", "undo()",
        "whole(int)", "silence()", "again()", "harsh()", "canon(int)",
        "want(int,int)", "changes(int)", "letters()", "ringers()",
        "hear(int)", "forget()", "stood()", "octaves()", "melody(int)", "winter(int,int,int)",
        "keep()", "back()", "count(int)"
    };

    public static void main(String[] args) {
        Due due = new Due();
        due.part("face");
        Class<?> face = RungByADrum.class;
        due.holds("public and final", face.getModifiers() == (Modifier.PUBLIC | Modifier.FINAL));
        Set<String> seen = new TreeSet<>();
        Set<String> publicNames = new TreeSet<>();
        Set<String> privateNames = new TreeSet<>();
        for (Method m : face.getDeclaredMethods()) {
            if (Modifier.isPrivate(m.getModifiers()) || m.isSynthetic()) {
                privateNames.add(m.getName());
                continue;
            }
            due.holds(m + " is public, answers int, is not static", m.getModifiers() == Modifier.PUBLIC
                    && m.getReturnType() == int.class && m.getExceptionTypes().length == 0);
            String types = "";
            for (Class<?> type : m.getParameterTypes()) {
                types += (types.isEmpty() ? "" : ",") + type;
            }
            seen.add(m.getName() + "(" + types + ")");
            publicNames.add(m.getName());
        }
        due.holds("methods " + seen, seen.equals(new TreeSet<>(java.util.List.of(METHODS))));
        privateNames.retainAll(publicNames);
        due.holds("no private method bears a public name " + privateNames, privateNames.isEmpty());
        Set<String> fields = new TreeSet<>();
        for (Field f : face.getDeclaredFields()) {
            if (!Modifier.isPrivate(f.getModifiers())) {
                fields.add(f.getName());
                due.holds(f + " is a constant of int", f.getType() == int.class
                        && f.getModifiers() == (Modifier.PUBLIC | Modifier.STATIC | Modifier.FINAL));
            }
        }
        due.holds("constants " + fields, fields.equals(new TreeSet<>(java.util.List.of("BAD", "NO", "FULL", "NONE"))));
        Constructor<?>[] made = face.getDeclaredConstructors();
        due.holds("one public constructor without parameters", made.length == 1
                && made[0].getParameterCount() == 0 && made[0].getModifiers() == Modifier.PUBLIC);
        holdsNoStaticState(due, face);
        for (Class<?> inner : face.getDeclaredClasses()) {
            holdsNoStaticState(due, inner);
            for (Method m : inner.getDeclaredMethods()) {
                due.holds(m + " does not bear a public name", !Modifier.isPrivate(m.getModifiers())
                        || !publicNames.contains(m.getName()));
            }
            due.holds(inner + " is static and not public", Modifier.isStatic(inner.getModifiers())
                    && !Modifier.isPublic(inner.getModifiers()) && !Modifier.isProtected(inner.getModifiers()));
        }
        due.is("BAD", RungByADrum.BAD, -1);
        due.is("NO", RungByADrum.NO, -2);
        due.is("FULL", RungByADrum.FULL, -3);
        due.is("NONE", RungByADrum.NONE, -4);
        due.end();
    }

    /** Static fields are constants; of others there are some twenty at most. */
    private static void holdsNoStaticState(Due due, Class<?> holder) {
        int many = 0;
        for (Field f : holder.getDeclaredFields()) {
            if (Modifier.isStatic(f.getModifiers())) {
                due.holds(f + " is a constant", Modifier.isFinal(f.getModifiers())
                        && (f.getType().isPrimitive() || f.getType() == String.class));
            } else {
                many++;
            }
        }
        due.holds("twenty fields at most: " + holder, many <= 20);
    }
}
