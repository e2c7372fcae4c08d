import java.lang.reflect.Constructor;
import java.lang.reflect.Field;
import java.lang.reflect.Method;
import java.lang.reflect.Modifier;
import java.util.TreeSet;

/** The face of the class is that of the document, and no more of it can be seen from outside (LANGUAGE.md, rule 1). */
public final class VaneHouseFaceTest {
    private static final String[] FACE = {
        "int beginWind(int,int,boolean) IllegalArgumentException",
        "int addWind(int,int,boolean) IllegalArgumentException IllegalStateException",
        "int wind(int,int) IllegalArgumentException IndexOutOfBoundsException",
        "int setUp(int,int,int,int,int,int) IllegalArgumentException IllegalStateException",
        "int oil(int) IndexOutOfBoundsException",
        "int turn(int,int) IndexOutOfBoundsException IllegalArgumentException IllegalStateException",
        "int vane(int,int) IndexOutOfBoundsException",
        "int difference(int,int) IllegalArgumentException",
        "int move(int,int,int,int) IllegalArgumentException IllegalStateException",
        "int put(int,int) IndexOutOfBoundsException IllegalArgumentException IllegalStateException",
        "int motion(int,int) IndexOutOfBoundsException",
        "int stand(int,int) IndexOutOfBoundsException",
        "int pass(int) IllegalArgumentException IllegalStateException",
        "int count(int) IndexOutOfBoundsException",
        "int party(int,int) IndexOutOfBoundsException",
        "int coalition()",
        "int foresee(int,int) IndexOutOfBoundsException IllegalArgumentException IllegalStateException",
        "int passes(int,int) IndexOutOfBoundsException IllegalArgumentException IllegalStateException",
        "int advise(int,int) IndexOutOfBoundsException IllegalArgumentException IllegalStateException",
        "double discord()",
        "long digest()",
    };

    private static int wrong;

    public static void main(String[] args) {
        Class<?> house = VaneHouse.class;
        expect("the class is public and final", Modifier.isPublic(house.getModifiers()) && Modifier.isFinal(house.getModifiers()));
        methods(house);
        Constructor<?>[] constructors = house.getDeclaredConstructors();
        expect("one public constructor", constructors.length == 1 && Modifier.isPublic(constructors[0].getModifiers())
            && constructors[0].getParameterCount() == 0);
        fields(house);
        for (Class<?> inside : house.getDeclaredClasses()) {
            expect(inside + " is private and static",
                Modifier.isPrivate(inside.getModifiers()) && Modifier.isStatic(inside.getModifiers()));
            fields(inside);
        }
        System.out.println("VaneHouseFaceTest: " + wrong + " wrong");
        if (wrong != 0) {
            System.exit(1);
        }
    }

    private static void expect(String what, boolean holds) {
        if (!holds) {
            wrong++;
            System.out.println("not so: " + what);
        }
    }

    private static void methods(Class<?> house) {
        TreeSet<String> due = new TreeSet<>(java.util.Arrays.asList(FACE));
        TreeSet<String> names = new TreeSet<>();
        for (String line : FACE) {
            names.add(line.substring(line.indexOf(' ') + 1, line.indexOf('(')));
        }
        for (Method m : house.getDeclaredMethods()) {
            if (Modifier.isPrivate(m.getModifiers())) {
                expect("private " + m.getName() + " bears a name of its own", !names.contains(m.getName()));
                continue;
            }
            expect(line(m) + " is public", Modifier.isPublic(m.getModifiers()));
            expect(line(m) + " is of the face", due.remove(line(m)));
        }
        expect("all of the face is there, but for " + due, due.isEmpty());
    }

    private static String line(Method m) {
        StringBuilder text = new StringBuilder(m.getReturnType() + " " + m.getName() + "(");
        Class<?>[] parameters = m.getParameterTypes();
        for (int i = 0; i < parameters.length; i++) {
            text.append(i == 0 ? "" : ",").append(parameters[i]);
        }
        text.append(")");
        for (Class<?> e : m.getExceptionTypes()) {
            text.append(" ").append(e.getSimpleName());
        }
        return text.toString();
    }

    private static void fields(Class<?> owner) {
        for (Field f : owner.getDeclaredFields()) {
            expect(f + " is private", Modifier.isPrivate(f.getModifiers()));
            expect(f + ", if static, is final", !Modifier.isStatic(f.getModifiers()) || Modifier.isFinal(f.getModifiers()));
        }
    }
}
