import java.lang.reflect.InvocationTargetException;
import java.lang.reflect.Method;
import java.util.ArrayList;
import java.util.Arrays;
import java.util.Comparator;
import java.util.List;
import java.util.Random;

/** All promises: runs of calls from fixed seeds, each answer compared with that of Plain. */
public final class PlainTest {
    private static final String[] NAMES = {"age", "kind", "taste", "fond", "warm", "gauge", "monday"};
    private static final String[] SIGNS = {"+", "-", "*", "/", "<", "<=", "=", "<>", ">=", ">", "and", "or"};
    private static final String WEIRD = "<>=;()+-*/ \n#A09zq";
    private final Random random;

    private PlainTest(long seed) {
        random = new Random(seed);
    }

    private int pick(int n) {
        return random.nextInt(n);
    }

    // ---- texts

    private String expression(int size) {
        if (size <= 1) {
            int sort = pick(8);
            if (sort == 0) return String.valueOf(pick(10000));
            return sort < 4 ? String.valueOf(pick(101)) : NAMES[pick(7)];
        }
        if (pick(8) == 0) return "not (" + expression(size - 1) + ")";
        int left = 1 + pick(size - 1);
        String sign = pick(2) == 0 ? SIGNS[pick(4)] : SIGNS[pick(SIGNS.length)];
        String one = expression(left);
        String other = expression(size - left);
        if (pick(3) > 0 && left > 1) one = "(" + one + ")";
        if (pick(3) > 0 && size - left > 1) other = "(" + other + ")";
        return one + " " + sign + " " + other;
    }

    private String likeLaw() {
        switch (pick(5)) {
            case 0: return "99-warm*7-age*taste";
            case 1: return "(age*7+kind*13+taste*17+fond*3+warm*11+gauge+monday*5)-(age+warm)/3*20";
            case 2: return "50+kind*10-age*age/(warm-2)+gauge/9";
            default: return expression(1 + pick(10));
        }
    }

    private String text() {
        StringBuilder text = new StringBuilder();
        int rooms = 1 + pick(6);
        for (int r = 0; r < rooms; r++) text.append("room ").append((char) ('a' + r)).append(";");
        for (int d = pick(10); d > 0; d--) {
            int a = pick(rooms);
            int b = pick(rooms);
            String door = "door " + (char) ('a' + a) + " " + (char) ('a' + b) + ";";
            String same = "door " + (char) ('a' + b) + " " + (char) ('a' + a) + ";";
            boolean fine = a != b && text.indexOf(door) < 0 && text.indexOf(same) < 0;
            if (fine || pick(200) == 0) text.append(door);
        }
        int things = pick(9);
        for (int t = 0; t < things; t++) {
            text.append("thing t").append((char) ('a' + t)).append(" ").append((char) ('a' + pick(rooms)))
                .append(" ").append(pick(6)).append(" ").append(pick(10)).append(";");
        }
        int dead = pick(7);
        for (int d = 0; d < dead; d++) {
            text.append("dead d").append((char) ('a' + d)).append(pick(10)).append(" ").append(pick(6))
                .append(" ").append(pick(2)).append("\n").append(pick(101)).append(" ;");
        }
        for (int g = pick(5); g > 0; g--) text.append("glass ").append(pick(100)).append(";");
        if (pick(5) == 0) text.append("seed ").append(pick(100000)).append(";");
        if (pick(2) == 0) text.append("law like ").append(likeLaw()).append(";");
        if (pick(3) == 0) text.append("law bear ").append(pick(2) == 0 ? "40+warm*3" : expression(1 + pick(8))).append(";");
        if (pick(3) == 0) text.append("law come ").append(expression(1 + pick(6))).append(";");
        return text.length() <= 700 ? text.toString() : "room a;thing t a 1 1;dead d 9 0 0 0;";
    }

    /** A text in which some signs or words are put out of place. */
    private String spoiled(String text) {
        StringBuilder out = new StringBuilder(text);
        for (int k = 1 + pick(3); k > 0 && out.length() > 0; k--) {
            int at = pick(out.length());
            switch (pick(5)) {
                case 0: out.deleteCharAt(at); break;
                case 1: out.setCharAt(at, WEIRD.charAt(pick(WEIRD.length()))); break;
                case 2: out.insert(at, WEIRD.charAt(pick(WEIRD.length()))); break;
                case 3: out.insert(at, " " + Plain.LANGUAGE.get(pick(20)) + " "); break;
                default: out.insert(at, out.substring(at, Math.min(out.length(), at + pick(30)))); break;
            }
        }
        return out.length() <= 700 ? out.toString() : out.substring(0, 700);
    }

    // ---- calls

    private Object argument(Class<?> type, int of) {
        if (type == boolean.class) return pick(2) == 0;
        if (pick(60) == 0) return new int[] {Integer.MIN_VALUE, Integer.MAX_VALUE, -2, 100, 61, 31, 9}[pick(7)];
        return pick(of + 2) - 1;
    }

    private Object[] arguments(Method method) {
        Class<?>[] types = method.getParameterTypes();
        Object[] arguments = new Object[types.length];
        for (int k = 0; k < types.length; k++) arguments[k] = argument(types[k], k == 1 ? 7 : 6);
        switch (method.getName()) {
            case "go": if (pick(2) == 0) arguments[0] = pick(8); break;
            case "ahead": arguments[0] = pick(62); arguments[1] = pick(3); break;
            case "leastMoved": arguments[1] = 1 + pick(60); arguments[2] = pick(2); break;
            case "hanging": case "rest": arguments[0] = pick(6); break;
            case "count": arguments[0] = pick(15) - 1; break;
            case "gauge": arguments[0] = pick(4) == 0 ? pick(10003) - 1 : pick(20); break;
            case "likely": arguments[1] = pick(10); arguments[2] = pick(10); arguments[3] = pick(2); break;
            case "tickets": arguments[0] = pick(101); break;
            case "note": arguments[0] = pick(32); break;
            case "out": case "known": arguments[0] = pick(10) - 1; break;
            case "chance": arguments[0] = pick(9) == 0 ? -1 : random.nextInt() >>> 1; arguments[1] = pick(62); break;
            case "tried": arguments[2] = pick(62); if (pick(2) == 0) arguments[1] = 0; break;
            case "named": arguments[1] = Check.letters("" + (pick(2) == 0 ? "" : pick(2) == 0 ? "t" : "d") + (char) ('a' + pick(8))); break;
            default: break;
        }
        return arguments;
    }

    private static String answer(Object of, String name, Class<?>[] types, Object[] arguments) {
        try {
            Method method = of.getClass().getDeclaredMethod(name, types);
            return String.valueOf(method.invoke(of, arguments));
        } catch (InvocationTargetException e) {
            return "throws." + e.getCause().getClass().getSimpleName();
        } catch (ReflectiveOperationException e) {
            throw new IllegalStateException(e);
        }
    }

    private final List<String> run = new ArrayList<>();

    private boolean same(DeadMonday x, Plain y, Method method, Object... arguments) {
        String call = method.getName() + Arrays.toString(arguments);
        String got = answer(x, method.getName(), method.getParameterTypes(), arguments);
        String want = answer(y, method.getName(), method.getParameterTypes(), arguments);
        run.add(call + " = " + got);
        if (got.equals(want)) return true;
        Check.due(String.join("\n", run) + "\nthe last call answered " + got + ", due is " + want, 1, 0);
        return false;
    }

    private boolean tell(DeadMonday x, Plain y, String text) throws ReflectiveOperationException {
        run.add("text: " + text);
        Method feed = DeadMonday.class.getMethod("feed", int.class, int.class, int.class, int.class, int.class);
        int[] n = Check.numbers(text);
        for (int k = 0; k < n.length; k += 5) {
            if (!same(x, y, feed, n[k], n[k + 1], n[k + 2], n[k + 3], n[k + 4])) return false;
        }
        return same(x, y, DeadMonday.class.getMethod("text", int.class), text.length())
            && same(x, y, DeadMonday.class.getMethod("fault", int.class), 0)
            && same(x, y, DeadMonday.class.getMethod("fault", int.class), 1);
    }

    private boolean texts() throws ReflectiveOperationException {
        DeadMonday x = new DeadMonday();
        Plain y = new Plain();
        for (int k = 0; k < 12; k++) {
            run.clear();
            if (!tell(x, y, pick(4) == 0 ? text() : spoiled(text()))) return false;
            for (int what = 0; what <= 5; what++) {
                if (!same(x, y, DeadMonday.class.getMethod("count", int.class), what)) return false;
            }
        }
        return true;
    }

    private boolean calls(int calls) throws ReflectiveOperationException {
        DeadMonday x = new DeadMonday();
        Plain y = new Plain();
        if (!tell(x, y, text())) return false;
        Method[] methods = DeadMonday.class.getDeclaredMethods();
        List<Method> face = new ArrayList<>();
        for (Method method : methods) if ((method.getModifiers() & 1) != 0) face.add(method);
        face.sort(Comparator.comparing(Method::getName));
        for (int k = 0; k < calls; k++) {
            Method method = face.get(pick(face.size()));
            // a text told by chance ends what was built up, so it comes seldom
            if (method.getName().equals("text") && pick(30) > 0) continue;
            if (!same(x, y, method, arguments(method))) return false;
        }
        return true;
    }

    public static void main(String[] args) throws ReflectiveOperationException {
        int runs = args.length > 0 ? Integer.parseInt(args[0]) : 60;
        for (int seed = 0; seed < runs; seed++) {
            Check.due("texts of seed " + seed, new PlainTest(seed).texts(), true);
            Check.due("calls of seed " + seed, new PlainTest(seed).calls(250), true);
        }
        Check.end("PlainTest");
    }
}
