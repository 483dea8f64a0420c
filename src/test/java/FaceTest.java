import java.lang.reflect.Constructor;
import java.lang.reflect.Field;
import java.lang.reflect.Method;
import java.lang.reflect.Modifier;
import java.util.TreeSet;

/** The public face: the document's constants, constructor and methods, and no other member that can be seen. */
public final class FaceTest {
    private static final String[] METHODS = {
        "int write(int)", "int erase()", "int fault()", "int table()", "int seat(int,int)", "int knight(int,int)",
        "int as(int,int)", "int seatAs(int,int)", "int sit(int,int)", "int rise()", "int tell(int,int)", "int feast()",
        "int undo()", "int keep(int)", "int back(int)", "int seatings()", "int seatOf(int)", "int moved()",
        "int knows(int)", "int judge(int)", "int seen(int,int,int,int)", "int forget()", "int worlds(int)",
        "int safest(int,int)", "long quests(int,int,int,int,int)", "int lent(int)", "int count(int)",
    };

    public static void main(String[] args) {
        Checks c = new Checks();
        c.due("NONE", PerilSeat.NONE, -1);
        c.due("UNKNOWN", PerilSeat.UNKNOWN, -2);
        c.due("OUTSIDE", PerilSeat.OUTSIDE, -3);
        c.due("NOT", PerilSeat.NOT, -4);
        c.due("FULL", PerilSeat.FULL, -5);
        c.due("public and final", Modifier.toString(PerilSeat.class.getModifiers()), "public final");

        TreeSet<String> wanted = new TreeSet<>();
        for (String method : METHODS) {
            wanted.add("public " + method);
        }
        TreeSet<String> names = new TreeSet<>();
        TreeSet<String> found = new TreeSet<>();
        for (Method method : PerilSeat.class.getDeclaredMethods()) {
            if (!Modifier.isPrivate(method.getModifiers())) {
                StringBuilder types = new StringBuilder();
                for (Class<?> type : method.getParameterTypes()) {
                    types.append(types.length() == 0 ? "" : ",").append(type.getName());
                }
                found.add(Modifier.toString(method.getModifiers()) + " " + method.getReturnType().getName() + " "
                    + method.getName() + "(" + types + ")");
                names.add(method.getName());
            }
        }
        c.due("methods", found.toString(), wanted.toString());

        TreeSet<String> fields = new TreeSet<>();
        for (Field field : PerilSeat.class.getDeclaredFields()) {
            if (!Modifier.isPrivate(field.getModifiers())) {
                fields.add(Modifier.toString(field.getModifiers()) + " " + field.getType().getName() + " "
                    + field.getName());
            }
        }
        c.due("fields", fields.toString(), "[public static final int FULL, public static final int NONE, "
            + "public static final int NOT, public static final int OUTSIDE, public static final int UNKNOWN]");

        Constructor<?>[] constructors = PerilSeat.class.getDeclaredConstructors();
        c.due("constructors", constructors.length, 1);
        c.due("its parameters", constructors[0].getParameterCount(), 0);
        c.due("public", Modifier.toString(constructors[0].getModifiers()), "public");

        for (Class<?> inside : PerilSeat.class.getDeclaredClasses()) {
            c.due(inside + " is static", Modifier.isStatic(inside.getModifiers()) ? 1 : 0, 1);
            for (Method method : inside.getDeclaredMethods()) {
                c.due("a name of the face inside: " + method, names.contains(method.getName()) ? 1 : 0, 0);
            }
        }
        for (Method method : PerilSeat.class.getDeclaredMethods()) {
            boolean hidden = Modifier.isPrivate(method.getModifiers());
            c.due("a private name of the face: " + method, hidden && names.contains(method.getName()) ? 1 : 0, 0);
        }
        c.end();
    }
}
