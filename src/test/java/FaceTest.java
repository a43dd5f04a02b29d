import java.lang.reflect.Constructor;
import java.lang.reflect.Field;
import java.lang.reflect.Method;
import java.lang.reflect.Modifier;
import java.util.Arrays;
import java.util.NoSuchElementException;
import java.util.TreeSet;

/** The public face: just the members of the document, and no private method with a face's name. */
public final class FaceTest {
    private static final String[] FACE = {
        "int roll()", "int lay(int,int,int,int)", "int lift(int,int,int)", "int hole(int,int,int)",
        "int note(int,int,int)", "int tempo(int,int,int)", "int sounds(int,int,int)",
        "int pressure(int,int,int)", "int silent(int,int)", "int ticks(int)", "int move(int,int)",
        "int item(int,int)", "void clear()", "int align(int,int)", "int paired(int,int)",
        "int mend(int)", "int sight(int,int,boolean)", "int since(int,int)", "int worn(int,int)",
        "int line(int,int,int)", "int day(int)", "int where(int,int,int)", "int there(int,int,int)",
        "int count(int)"};

    public static void main(String[] args) throws Exception {
        Check check = new Check("FaceTest");
        Class<?> c = RollHouse.class;
        check.due("the class is public and final",
                Modifier.isPublic(c.getModifiers()) && Modifier.isFinal(c.getModifiers()));
        check.due("NONE", RollHouse.NONE, -1);
        methods(check, c);
        Constructor<?>[] made = c.getDeclaredConstructors();
        check.due("constructors", made.length, 1);
        check.due("the constructor is public and takes nothing",
                Modifier.isPublic(made[0].getModifiers()) && made[0].getParameterCount() == 0);
        for (Field f : c.getDeclaredFields()) {
            int m = f.getModifiers();
            boolean none = f.getName().equals("NONE") && Modifier.isPublic(m)
                    && Modifier.isStatic(m) && Modifier.isFinal(m) && f.getType() == int.class;
            check.due("field " + f.getName() + " is private or NONE", none || Modifier.isPrivate(m));
            check.due("field " + f.getName() + ", if static, is final",
                    !Modifier.isStatic(m) || Modifier.isFinal(m));
        }
        Class<?>[] thrown = c.getMethod("where", int.class, int.class, int.class).getExceptionTypes();
        check.due("where tells NoSuchElementException",
                thrown.length == 1 && thrown[0] == NoSuchElementException.class);
        check.end();
    }

    private static void methods(Check check, Class<?> c) {
        TreeSet<String> want = new TreeSet<>(Arrays.asList(FACE));
        TreeSet<String> got = new TreeSet<>();
        TreeSet<String> names = new TreeSet<>();
        for (Method m : c.getDeclaredMethods()) {
            if (!Modifier.isPrivate(m.getModifiers())) {
                check.due(m.getName() + " is public", Modifier.isPublic(m.getModifiers()));
                got.add(signature(m));
                names.add(m.getName());
            }
        }
        check.due("methods " + got, got.equals(want));
        for (Method m : c.getDeclaredMethods()) {
            check.due("private " + m.getName() + " has a name of its own",
                    !Modifier.isPrivate(m.getModifiers()) || !names.contains(m.getName()));
        }
        for (Class<?> inside : c.getDeclaredClasses()) {
            check.due(inside.getName() + " is static", Modifier.isStatic(inside.getModifiers()));
            for (Method m : inside.getDeclaredMethods()) {
                check.due(inside.getName() + "." + m.getName() + " has a name of its own",
                        !names.contains(m.getName()));
            }
        }
    }

    private static String signature(Method m) {
        StringBuilder b = new StringBuilder(m.getReturnType().getName());
        b.append(' ').append(m.getName()).append('(');
        String comma = "";
        for (Class<?> p : m.getParameterTypes()) {
            b.append(comma).append(p.getName());
            comma = ",";
        }
        return b.append(')').toString();
    }
}
