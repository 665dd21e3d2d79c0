import java.lang.reflect.Method;
import java.util.Arrays;
import java.util.Comparator;

/** What the tests share: texts fed as numbers, answers compared and counted. */
final class Check {
    private static int asked = 0;
    private static int wrong = 0;
    private static String test = "";

    private Check() {
    }

    static void due(String call, long got, long want) {
        asked++;
        if (got != want) {
            wrong++;
            System.out.println(test + call + " answered " + got + ", due is " + want);
        }
    }

    static void due(String call, boolean got, boolean want) {
        due(call, got ? 1 : 0, want ? 1 : 0);
    }

    static void same(String call, String got, String want) {
        due(call + ":\n  " + got + "\n  " + want + "\n ", got.equals(want), true);
    }

    static void end(String name) {
        System.out.println(name + ": " + asked + " answers, " + wrong + " wrong");
        if (wrong != 0 || asked == 0) System.exit(1);
    }

    /** Runs every test of a class that says which words it is for. */
    static void run(Class<?> tests) throws ReflectiveOperationException {
        Method[] methods = tests.getDeclaredMethods();
        Arrays.sort(methods, Comparator.comparing(Method::getName));
        for (Method method : methods) {
            if (!method.isAnnotationPresent(Says.class)) continue;
            test = tests.getSimpleName() + "." + method.getName() + ": ";
            method.invoke(null);
        }
        end(tests.getSimpleName());
    }

    /** Five numbers for each twenty bytes of the text, blanks behind the last one. */
    static int[] numbers(String text) {
        int groups = (text.length() + 19) / 20;
        int[] numbers = new int[groups * 5];
        for (int k = 0; k < groups * 20; k++) {
            int sign = k < text.length() ? text.charAt(k) & 255 : 32;
            numbers[k / 4] |= sign << (24 - 8 * (k % 4));
        }
        return numbers;
    }

    static void feed(DeadMonday x, String text) {
        int[] n = numbers(text);
        for (int k = 0; k < n.length; k += 5) x.feed(n[k], n[k + 1], n[k + 2], n[k + 3], n[k + 4]);
    }

    static int tell(DeadMonday x, String text) {
        feed(x, text);
        return x.text(text.length());
    }

    static DeadMonday house(String text) {
        DeadMonday x = new DeadMonday();
        if (tell(x, text) < 0) {
            due("text of " + text + " (fault " + x.fault(0) + " at " + x.fault(1) + ")", -1, 0);
        }
        return x;
    }

    /** A text with a FAULT: its kind and place, on a new object. */
    static void fault(String text, int kind, int place) {
        DeadMonday x = new DeadMonday();
        due("text of " + text, tell(x, text), -1);
        due("fault(0) of " + text, x.fault(0), kind);
        due("fault(1) of " + text, x.fault(1), place);
    }

    /** A text with a FAULT right where the second part begins. */
    static void faultBehind(String ahead, String rest, int kind) {
        fault(ahead + rest, kind, ahead.length());
    }

    static void good(String text, int lines) {
        DeadMonday x = new DeadMonday();
        due("text of " + text, tell(x, text), lines);
        due("fault(0) of " + text, x.fault(0), 0);
        due("fault(1) of " + text, x.fault(1), -1);
    }

    static int letters(String name) {
        int bits = 0;
        for (int k = 0; k < 6; k++) bits = bits * 32 + (k < name.length() ? name.charAt(k) - 'a' + 1 : 0);
        return bits;
    }

    /** 0 an answer, 1 IndexOutOfBoundsException, 2 NoSuchElementException. */
    static int thrown(DeadMonday x, int thing, int what) {
        try {
            x.thing(thing, what);
            return 0;
        } catch (IndexOutOfBoundsException e) {
            return 1;
        } catch (java.util.NoSuchElementException e) {
            return 2;
        }
    }

    /** All that can be asked of an object as it is now, so that two of them can be compared. */
    static String seen(DeadMonday x) {
        StringBuilder seen = new StringBuilder();
        for (int what = 0; what <= 12; what++) seen.append(x.count(what)).append(' ');
        seen.append("| things ");
        for (int t = 0; t < x.count(2); t++) for (int what = 0; what <= 4; what++) seen.append(x.thing(t, what)).append(' ');
        seen.append("| rooms ");
        for (int r = 0; r < x.count(0); r++) for (int what = 0; what <= 3; what++) seen.append(x.room(r, what)).append(' ');
        seen.append("| dead ");
        for (int d = 0; d < x.count(3); d++) for (int what = 0; what <= 4; what++) seen.append(x.dead(d, what)).append(' ');
        seen.append("| doors ");
        for (int r = 0; r < x.count(0); r++) for (int q = 0; q < x.count(0); q++) seen.append(x.door(r, q));
        seen.append(" | laws ");
        for (int d = 0; d < x.count(3); d++) {
            for (int t = 0; t < x.count(2); t++) for (int what = 0; what <= 2; what++) seen.append(x.law(what, d, t)).append(' ');
            seen.append(x.tastes(d)).append(' ');
        }
        for (int m = 0; m < 10; m++) seen.append(x.gauge(m)).append(' ');
        return seen.toString();
    }
}
