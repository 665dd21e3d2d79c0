import java.lang.reflect.Constructor;
import java.lang.reflect.Field;
import java.lang.reflect.Method;
import java.lang.reflect.Modifier;
import java.util.Arrays;
import java.util.TreeSet;

/** The public face: just what the document has, and nothing of it throws what the document doesn't name. */
public final class FaceTest {
    private static final String FACE = """
        int feed(int, int, int, int, int)
        int text(int)
        int fault(int)
        int named(int, int)
        int thing(int, int)
        int room(int, int)
        int dead(int, int)
        int door(int, int)
        int gauge(int)
        int liking(int, int)
        long law(int, int, int)
        boolean hang(int, int)
        boolean rope(int, boolean)
        boolean dust(int)
        int go(int)
        int ahead(int, int, int)
        int comes()
        int sits(int)
        int quiet()
        int leastMoved(int, int, int)
        int hanging(int)
        int steer(int, int)
        int rests()
        int rest(int)
        int way(int, int)
        long likely(int, int, int, int)
        int tickets(int)
        int shunned()
        int loved(int)
        int note(int, int, int, boolean)
        int out(int)
        boolean known(int)
        int tastes(int)
        int chance(int, int, int, int)
        int tried(int, int, int)
        int undo()
        int keep()
        int back()
        int count(int)
        """;
    private static final int[] EDGES = {Integer.MIN_VALUE, -3, -2, -1, 0, 1, 2, 5, 6, 7, 8, 9, 24, 30, 31, 32, 60, 61, 99, 100,
        700, 9900, 9999, 10000, Integer.MAX_VALUE};

    private static void members() {
        TreeSet<String> got = new TreeSet<>();
        for (Method m : DeadMonday.class.getDeclaredMethods()) {
            if (Modifier.isPrivate(m.getModifiers())) continue;
            Check.due(m + " is public", Modifier.isPublic(m.getModifiers()), true);
            String types = String.join(", ", Arrays.stream(m.getParameterTypes()).map(Class::getName).toList());
            got.add(m.getReturnType().getName() + " " + m.getName() + "(" + types + ")");
            String thrown = String.join(", ", Arrays.stream(m.getExceptionTypes()).map(Class::getSimpleName).toList());
            Check.same("what " + m + " throws", thrown, m.getName().equals("thing") ? "IndexOutOfBoundsException, NoSuchElementException" : "");
        }
        TreeSet<String> want = new TreeSet<>(FACE.lines().toList());
        Check.due("methods " + got, got.equals(want), true);
        Check.due("39 methods", want.size(), 39);
        int fields = 0;
        for (Field f : DeadMonday.class.getDeclaredFields()) if (!Modifier.isPrivate(f.getModifiers())) fields++;
        Check.due("one constant", fields, 1);
        Check.due("NONE", DeadMonday.NONE, -1);
        Constructor<?>[] made = DeadMonday.class.getDeclaredConstructors();
        Check.due("one constructor", made.length, 1);
        Check.due("it is public", Modifier.isPublic(made[0].getModifiers()), true);
        Check.due("final", Modifier.isFinal(DeadMonday.class.getModifiers()), true);
    }

    /** Every call with every mix of edges for two of its numbers. */
    private static void edges(String text) throws ReflectiveOperationException {
        for (Method m : DeadMonday.class.getMethods()) {
            if (m.getDeclaringClass() != DeadMonday.class) continue;
            DeadMonday x = Check.house(text);
            Class<?>[] types = m.getParameterTypes();
            for (int a = 0; a < EDGES.length; a++) {
                for (int b = 0; b < EDGES.length; b++) {
                    Object[] arguments = new Object[types.length];
                    for (int k = 0; k < types.length; k++) {
                        int number = k == 0 ? EDGES[a] : k == 1 ? EDGES[b] : EDGES[(a * 7 + b * 3 + k) % EDGES.length];
                        arguments[k] = types[k] == boolean.class ? (Object) (number % 2 == 0) : (Object) number;
                    }
                    Check.due(m.getName() + Arrays.toString(arguments), throwsOther(x, m, arguments), false);
                }
            }
        }
    }

    private static boolean throwsOther(DeadMonday x, Method m, Object[] arguments) throws ReflectiveOperationException {
        try {
            m.invoke(x, arguments);
            return false;
        } catch (java.lang.reflect.InvocationTargetException e) {
            Class<?> thrown = e.getCause().getClass();
            boolean named = thrown == IndexOutOfBoundsException.class || thrown == java.util.NoSuchElementException.class;
            return !(named && m.getName().equals("thing"));
        }
    }

    public static void main(String[] args) throws ReflectiveOperationException {
        members();
        edges("");
        edges("room a;");
        edges("dead d 1 1 1 1;");
        edges("room a;room b;room c;room d;room e;room f;door a b;thing t a 1 1;thing u f 1 9;thing v f 1 9;thing w f 1 9;"
            + "thing x f 1 9;thing y f 1 9;thing z f 1 9;thing q f 1 9;dead d 1 1 1 1;dead e 9 1 0 0;dead f 4 1 1 0;"
            + "dead g 4 2 0 50;dead h 4 3 0 50;dead i 4 4 0 50;law like 9*warm-monday/(gauge-50);law bear warm*9;");
        Check.end("FaceTest");
    }
}
