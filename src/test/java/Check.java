/** What the tests share: texts fed as numbers, answers compared and counted. */
final class Check {
    private static int asked = 0;
    private static int wrong = 0;

    private Check() {
    }

    static void due(String call, long got, long want) {
        asked++;
        if (got != want) {
            wrong++;
            System.out.println(call + " answered " + got + ", due is " + want);
        }
    }

    static void due(String call, boolean got, boolean want) {
        due(call, got ? 1 : 0, want ? 1 : 0);
    }

    static void end(String name) {
        System.out.println(name + ": " + asked + " answers, " + wrong + " wrong");
        if (wrong != 0 || asked == 0) System.exit(1);
    }

    /** Five numbers for each twenty bytes of the text, blanks behind the last one. */
    static int[] numbers(String text) {
        int groups = (text.length() + 19) / 20;
        int[] numbers = new int[groups * 5];
        for (int k = 0; k < groups * 20; k++) {
            int sign = k < text.length() ? text.charAt(k) & 255 : 32;
            numbers[k / 4] |= sign << (24 - 8 * (k % 4));
        }
        return numbers;
    }

    static void feed(DeadMonday x, String text) {
        int[] n = numbers(text);
        for (int k = 0; k < n.length; k += 5) x.feed(n[k], n[k + 1], n[k + 2], n[k + 3], n[k + 4]);
    }

    static int tell(DeadMonday x, String text) {
        feed(x, text);
        return x.text(text.length());
    }

    static DeadMonday house(String text) {
        DeadMonday x = new DeadMonday();
        if (tell(x, text) < 0) {
            due("text of " + text + " (fault " + x.fault(0) + " at " + x.fault(1) + ")", -1, 0);
        }
        return x;
    }

    /** A text with a FAULT: its kind and place, on a new object. */
    static void fault(String text, int kind, int place) {
        DeadMonday x = new DeadMonday();
        due("text of " + text, tell(x, text), -1);
        due("fault(0) of " + text, x.fault(0), kind);
        due("fault(1) of " + text, x.fault(1), place);
    }

    static void good(String text, int lines) {
        DeadMonday x = new DeadMonday();
        due("text of " + text, tell(x, text), lines);
        due("fault(0) of " + text, x.fault(0), 0);
        due("fault(1) of " + text, x.fault(1), -1);
    }

    static int letters(String name) {
        int bits = 0;
        for (int k = 0; k < 6; k++) bits = bits * 32 + (k < name.length() ? name.charAt(k) - 'a' + 1 : 0);
        return bits;
    }

    /** 0 an answer, 1 IndexOutOfBoundsException, 2 NoSuchElementException. */
    static int thrown(DeadMonday x, int thing, int what) {
        try {
            x.thing(thing, what);
            return 0;
        } catch (IndexOutOfBoundsException e) {
            return 1;
        } catch (java.util.NoSuchElementException e) {
            return 2;
        }
    }
}
