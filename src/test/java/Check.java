import java.lang.reflect.Method;
import java.util.Arrays;
import java.util.Comparator;

/** What the tests share: texts fed as numbers, answers compared and counted. */
final class Check {
    /** As much of everything as a TEXT may tell, but KNOTS. */
    static final String FULL = "room a;room b;room c;room d;room e;room f;"
        + "door a b;door a c;door a d;door a e;door a f;door b c;door b d;door b e;door b f;"
        + "thing a a 0 0;thing b b 1 9;thing c c 2 1;thing d d 3 8;thing e e 4 2;thing f f 5 7;thing g f 0 3;thing h f 1 6;"
        + "dead a 0 0 0 0;dead b 9 1 1 10;dead c 1 2 0 20;dead d 8 3 1 30;dead e 2 4 0 40;dead f 7 5 1 100;"
        + "glass 0;glass 90;glass 10;glass 80;glass 20;glass 70;glass 30;glass 60;glass 99;";
    private static final String LAWS = "law like 99-warm-age*taste-monday+gauge;law bear 60+warm+gauge;law come gauge+taste>9;";

    private static final String TURNING = "room a;thing a a 0 0;thing b a 0 1;thing c a 0 2;thing d a 0 3;thing e a 0 4;thing f a 0 5;"
        + "thing g a 0 6;thing h a 0 7;dead d 0 0 0 0;law like (age<>monday)*50;";
    private static final int MOST_TOLD = 60;

    private static int asked = 0;
    private static int wrong = 0;
    private static String test = "";
    // whether objects were in use before a text is told to them
    private static boolean worn = false;

    private Check() {
    }

    static void due(String call, long got, long want) {
        asked++;
        if (got != want) {
            wrong++;
            if (wrong <= MOST_TOLD) System.out.println(test + call + " answered " + got + ", due is " + want);
        }
    }

    static void due(String call, boolean got, boolean want) {
        due(call, got ? 1 : 0, want ? 1 : 0);
    }

    static void same(String call, String got, String want) {
        due(call + ":\n  " + got + "\n  " + want + "\n ", got.equals(want), true);
    }

    static void end(String name) {
        System.out.println(name + ": " + asked + " answers, " + wrong + " wrong");
        if (wrong != 0 || asked == 0) System.exit(1);
    }

    /** Runs every test of a class that says which words it is for: of new objects, and of worn ones, as a text begins all anew. */
    static void run(Class<?> tests) throws ReflectiveOperationException {
        Method[] methods = tests.getDeclaredMethods();
        Arrays.sort(methods, Comparator.comparing(Method::getName));
        for (Method method : methods) {
            if (!method.isAnnotationPresent(Says.class)) continue;
            for (boolean is : new boolean[] {false, true}) {
                worn = is;
                test = tests.getSimpleName() + "." + method.getName() + (is ? " (worn): " : ": ");
                method.invoke(null);
            }
        }
        end(tests.getSimpleName());
    }

    private static DeadMonday made() {
        DeadMonday x = new DeadMonday();
        if (worn) wear(x);
        return x;
    }

    /** Leaves traces of all that an object can be used for. */
    private static void wear(DeadMonday x) {
        for (int k = 0; k < 2; k++) {
            if (tell(x, FULL + LAWS) != 41) due("the full text (fault " + x.fault(0) + " at " + x.fault(1) + ")", -1, 41);
            x.go(9);
            x.keep();
            x.go(2);
            for (int r = 0; r < 6; r += 2) x.rope(r, true);
            for (int t = 0; t < 8; t++) x.hang(t, (x.thing(t, 0) + 1) % 6);
            for (int r = 0; r < 6; r++) x.dust(r);
            for (int n = 0; n < 24; n++) {
                if (n % 4 == 3) x.out(n - 1);
                else x.note(n + 1, n % 8, n % 6, n % 2 == 0);
            }
            x.known(7);
            for (int d = 0; d < 6; d++) x.tastes(d);
            x.hanging(4);
            x.rests();
            x.tried(2, 1, 5);
            x.tried(3, 0, 5);
            x.chance(77, 3, 7, 5);
            // each of them is turned once
            if (tell(x, TURNING) != 11) due("a text in which things are turned", -1, 11);
            x.go(9);
        }
        tell(x, FULL + "law like not ((((((((1+2*(");
    }

    /** Five numbers for each twenty bytes of the text, blanks behind the last one. */
    static int[] numbers(String text) {
        int groups = (text.length() + 19) / 20;
        int[] numbers = new int[groups * 5];
        for (int k = 0; k < groups * 20; k++) {
            int sign = k < text.length() ? text.charAt(k) & 255 : 32;
            numbers[k / 4] |= sign << (24 - 8 * (k % 4));
        }
        return numbers;
    }

    static void feed(DeadMonday x, String text) {
        int[] n = numbers(text);
        for (int k = 0; k < n.length; k += 5) x.feed(n[k], n[k + 1], n[k + 2], n[k + 3], n[k + 4]);
    }

    static int tell(DeadMonday x, String text) {
        feed(x, text);
        return x.text(text.length());
    }

    static DeadMonday house(String text) {
        DeadMonday x = made();
        if (tell(x, text) < 0) {
            due("text of " + text + " (fault " + x.fault(0) + " at " + x.fault(1) + ")", -1, 0);
        }
        return x;
    }

    /** A text with a FAULT: its kind and place. */
    static void fault(String text, int kind, int place) {
        DeadMonday x = made();
        due("text of " + text, tell(x, text), -1);
        due("fault(0) of " + text, x.fault(0), kind);
        due("fault(1) of " + text, x.fault(1), place);
    }

    /** A text with a FAULT right where the second part begins. */
    static void faultBehind(String ahead, String rest, int kind) {
        fault(ahead + rest, kind, ahead.length());
    }

    static void good(String text, int lines) {
        DeadMonday x = made();
        due("text of " + text, tell(x, text), lines);
        due("fault(0) of " + text, x.fault(0), 0);
        due("fault(1) of " + text, x.fault(1), -1);
    }

    static int letters(String name) {
        int bits = 0;
        for (int k = 0; k < 6; k++) bits = bits * 32 + (k < name.length() ? name.charAt(k) - 'a' + 1 : 0);
        return bits;
    }

    /** 0 an answer, 1 IndexOutOfBoundsException, 2 NoSuchElementException. */
    static int thrown(DeadMonday x, int thing, int what) {
        try {
            x.thing(thing, what);
            return 0;
        } catch (IndexOutOfBoundsException e) {
            return 1;
        } catch (java.util.NoSuchElementException e) {
            return 2;
        }
    }

    /** All that can be asked of an object as it is now, so that two of them can be compared. */
    static String seen(DeadMonday x) {
        StringBuilder seen = new StringBuilder();
        for (int what = 0; what <= 12; what++) seen.append(x.count(what)).append(' ');
        seen.append("| things ");
        for (int t = 0; t < x.count(2); t++) for (int what = 0; what <= 4; what++) seen.append(x.thing(t, what)).append(' ');
        seen.append("| rooms ");
        for (int r = 0; r < x.count(0); r++) for (int what = 0; what <= 3; what++) seen.append(x.room(r, what)).append(' ');
        seen.append("| dead ");
        for (int d = 0; d < x.count(3); d++) for (int what = 0; what <= 4; what++) seen.append(x.dead(d, what)).append(' ');
        seen.append("| doors ");
        for (int r = 0; r < x.count(0); r++) for (int q = 0; q < x.count(0); q++) seen.append(x.door(r, q));
        seen.append(" | laws ");
        for (int d = 0; d < x.count(3); d++) {
            for (int t = 0; t < x.count(2); t++) for (int what = 0; what <= 2; what++) seen.append(x.law(what, d, t)).append(' ');
            seen.append(x.tastes(d)).append(' ');
        }
        for (int m = 0; m < 10; m++) seen.append(x.gauge(m)).append(' ');
        return seen.toString();
    }
}
