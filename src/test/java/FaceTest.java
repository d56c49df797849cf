import java.lang.reflect.Constructor;
import java.lang.reflect.Field;
import java.lang.reflect.Method;
import java.lang.reflect.Modifier;
import java.util.Arrays;
import java.util.TreeSet;

/** The public face, member by member, and promise 1. */
public final class FaceTest {
    private static final String STATE = "IllegalStateException";
    private static final String ARGUMENT = "IllegalArgumentException";
    private static final String INDEX = "IndexOutOfBoundsException";
    private static final String[] METHODS = {
        "int type(int,long,int) " + INDEX + " " + ARGUMENT + " " + STATE,
        "void cut(int,int) " + INDEX + " " + ARGUMENT,
        "void turn(int) " + INDEX,
        "int letter(int,int) " + INDEX,
        "int size(int) " + INDEX,
        "void score(int,int,int) " + INDEX + " " + ARGUMENT,
        "void scores(int,int) " + ARGUMENT,
        "void costs(int,int) " + ARGUMENT,
        "int whole(int) " + ARGUMENT,
        "int parts()",
        "int steps() " + STATE,
        "int step(int) " + STATE + " " + INDEX,
        "int place(int,boolean) " + INDEX + " " + STATE,
        "int count(int) " + ARGUMENT + " " + STATE,
        "int run(int,int) " + ARGUMENT + " " + STATE + " " + INDEX,
        "long ways() " + STATE,
        "int crossing(int) " + STATE + " " + INDEX,
        "int draw(int) " + ARGUMENT + " " + STATE,
        "int wipe()",
        "int worth(int) " + ARGUMENT,
    };

    public static void main(String[] args) {
        Check check = new Check("FaceTest");
        constants(check);
        members(check);
        promise1NewObject(check);
        objectsAreApart(check);
        check.end();
    }

    private static void constants(Check check) {
        check.same("NONE", RowAligner.NONE, -1);
        check.same("PAIR", RowAligner.PAIR, 0);
        check.same("ONE", RowAligner.ONE, 1);
        check.same("OTHER", RowAligner.OTHER, 2);
        check.same("NO_LAYING", RowAligner.NO_LAYING, -1000000);
    }

    private static void members(Check check) {
        TreeSet<String> methods = new TreeSet<>();
        TreeSet<String> hidden = new TreeSet<>();
        for (Method m : RowAligner.class.getDeclaredMethods()) {
            if (!Modifier.isPrivate(m.getModifiers()) && !m.isSynthetic()) {
                methods.add(described(m));
            } else {
                hidden.add(m.getName());
            }
        }
        check.same("the methods", methods.toString(), new TreeSet<>(Arrays.asList(METHODS)).toString());
        for (Method m : RowAligner.class.getMethods()) {
            check.same("private methods named " + m.getName(), hidden.contains(m.getName()) ? 1 : 0, 0);
        }
        TreeSet<String> fields = new TreeSet<>();
        for (Field f : RowAligner.class.getDeclaredFields()) {
            if (!Modifier.isPrivate(f.getModifiers())) {
                fields.add(Modifier.toString(f.getModifiers()) + " " + f.getType() + " " + f.getName());
            }
        }
        check.same("the fields", fields.toString(), "[public static final int NONE, public static final int NO_LAYING,"
                + " public static final int ONE, public static final int OTHER, public static final int PAIR]");
        Constructor<?>[] constructors = RowAligner.class.getDeclaredConstructors();
        check.same("how many constructors", constructors.length, 1);
        check.same("the constructor", constructors[0].toString(), "public RowAligner()");
        check.same("the class", Modifier.toString(RowAligner.class.getModifiers()), "public final");
    }

    private static String described(Method m) {
        StringBuilder text = new StringBuilder(m.getReturnType() + " " + m.getName() + "(");
        for (int k = 0; k < m.getParameterCount(); k++) {
            text.append(k == 0 ? "" : ",").append(m.getParameterTypes()[k]);
        }
        text.append(")");
        for (Class<?> thrown : m.getExceptionTypes()) {
            text.append(" ").append(thrown.getSimpleName());
        }
        return text.toString();
    }

    private static void promise1NewObject(Check check) {
        RowAligner x = new RowAligner();
        check.same("size(0) at first", x.size(0), 0);
        check.same("size(1) at first", x.size(1), 0);
        check.same("wipe() at first", x.wipe(), 0);
        check.badState("steps() at first", () -> x.steps());
        check.same("worth(0) of nothing", x.worth(0), 0);
        Rows.type(x, 0, "ab");
        Rows.type(x, 1, "ac");
        Rows.draw(x, "00");
        check.same("worth(0) at first: 1 for the same, -1 for others", x.worth(0), 0);
        Rows.draw(x, "1122");
        check.same("worth(0) at first: gaps at 3 + k", x.worth(0), -10);
    }

    private static void objectsAreApart(Check check) {
        RowAligner x = Rows.of("abc", "abd");
        RowAligner y = new RowAligner();
        x.scores(7, -7);
        x.costs(9, 9);
        x.whole(0);
        x.draw(0);
        check.same("size(0) of another object", y.size(0), 0);
        check.badState("steps() of another object", () -> y.steps());
        check.same("wipe() of another object", y.wipe(), 0);
        Rows.type(y, 0, "a");
        Rows.type(y, 1, "a");
        check.same("whole(0) of another object", y.whole(0), 1);
        check.same("whole(0) of the first one", x.whole(0), 7);
    }
}
