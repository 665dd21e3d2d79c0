import java.math.BigInteger;

/** What is so now, LIKING, VALUES of laws: Terms of ==== 2, promises 6 to 12 and 40. */
public final class NowTest {
    static final String HALL = "room hall;room den;room loft;door hall den;door den loft;"
        + "thing bust hall 0 2;thing rug hall 1 9;thing urn den 2 5;"
        + "dead ann 2 0 0 40;dead bo 8 1 1 60;glass 50;glass 70;";
    // beyond all that there is
    static final int[] FAR = {-1, -2, 31, 32, 33, 64, Integer.MIN_VALUE, Integer.MAX_VALUE};
    private static final String MILLIONS = "1000*1000*1000*1000";
    private static final long ERROR = Long.MIN_VALUE;

    // ---- LIKING

    @Says("LIKING of one of the DEAD for a THING: E of like (0 .. 99;")
    static void likingIsWithin() {
        String one = "room a;thing t a 3 7;dead d 4 3 0 0;law like ";
        String[] laws = {"0-" + MILLIONS, "0-1", "0", "1", "98", "99", "100", "101", "9999", MILLIONS, "256", "256*256*256*256+5", "0-256*256*256*256+5"};
        int[] want = {0, 0, 0, 1, 98, 99, 99, 99, 99, 99, 99, 99, 0};
        for (int k = 0; k < laws.length; k++) Check.due("liking by " + laws[k], Check.house(one + laws[k] + ";").liking(0, 0), want[k]);
    }

    @Says("50 less 5 times how far AGE is from TASTE, and 20, if KIND is FAVOUR, without, with an ERROR).")
    static void plainLiking() {
        for (String law : new String[] {"", "law like 1/0;", "law like " + MILLIONS + "+1;"}) {
            for (int age = 0; age <= 9; age++) {
                for (int taste = 0; taste <= 9; taste++) {
                    int far = age > taste ? age - taste : taste - age;
                    DeadMonday x = Check.house("room a;thing t a 5 " + age + ";thing u a 4 " + age + ";dead d " + taste + " 5 0 0;" + law);
                    Check.due("of the favoured kind", x.liking(0, 0), 70 - 5 * far);
                    Check.due("of another kind", x.liking(0, 1), 50 - 5 * far);
                }
            }
        }
        // an ERROR for one of two alone
        DeadMonday y = Check.house("room a;thing t a 1 0;thing u a 1 4;dead d 4 1 0 0;law like 88/age;");
        Check.due("with an error", y.liking(0, 0), 50);
        Check.due("without", y.liking(0, 1), 22);
    }

    @Says("For a ROOM: that for all THINGS in it, in sum.")
    static void likingOfRooms() {
        String law = "dead d 0 0 0 0;law like age*10+kind;";
        Check.due("62 above 60", Check.house("room a;room b;thing t a 0 6;thing u b 1 3;thing v b 1 3;" + law).sits(0), 1);
        Check.due("60 and 60", Check.house("room a;room b;thing t a 0 6;thing u b 0 3;thing v b 0 3;" + law).sits(0), 0);
        Check.due("two of 95", Check.house("room a;room b;thing t a 5 9;thing q b 5 9;thing r b 5 9;" + law).sits(0), 1);
        Check.due("an empty one has 0", Check.house("room a;room b;thing t b 1 0;" + law).sits(0), 1);
        Check.due("and one that is liked 0, too", Check.house("room a;room b;thing t b 0 0;" + law).sits(0), 0);
    }

    @Says("SITS: the ROOM that isn't ROPED off with the most LIKING, the first of several (none, if all are ROPED).")
    static void sitsWhereItLikesBest() {
        DeadMonday x = Check.house("room a;room b;room c;room d;thing t b 0 0;thing u c 0 0;thing v d 0 1;dead d 0 1 0 0;");
        Check.due("the first of several", x.sits(0), 1);
        x.rope(1, true);
        Check.due("the other one", x.sits(0), 2);
        x.rope(2, true);
        Check.due("the next best", x.sits(0), 3);
        x.rope(3, true);
        Check.due("an empty one", x.sits(0), 0);
        x.rope(0, true);
        Check.due("nowhere", x.sits(0), -2);
        x.rope(3, false);
        Check.due("the last one alone", x.sits(0), 3);
        Check.due("all empty", Check.house("room a;room b;dead d 0 1 0 0;").sits(0), 0);
    }

    // ---- NAMES and VALUES

    private static void value(String expression, long want) {
        DeadMonday x = Check.house("room a;thing t a 3 7;dead d 4 2 0 0;glass 60;law like " + expression + ";");
        Check.due(expression, x.law(0, 0, 0), want);
    }

    @Says({"NAMES: age, kind: AGE, KIND of the THING", "taste, fond: TASTE, FAVOUR;", "gauge: GAUGE; monday: the MONDAY."})
    static void names() {
        value("age", 7);
        value("kind", 3);
        value("taste", 4);
        value("fond", 2);
        value("warm", 0);
        value("gauge", 60);
        value("monday", 0);
        DeadMonday x = Check.house("room a;room b;thing t a 0 9;thing u b 5 0;dead d 9 0 0 0;dead e 0 5 0 0;glass 99;glass 0;"
            + "law like age*1000+kind*100+taste*10+fond;law bear gauge*1000+monday;");
        Check.due("t by d", x.law(0, 0, 0), 9090);
        Check.due("u by d", x.law(0, 0, 1), 590);
        Check.due("t by e", x.law(0, 1, 0), 9005);
        Check.due("u by e", x.law(0, 1, 1), 505);
        Check.due("on monday 0", x.law(1, 0, 0), 99000);
        x.go(1);
        Check.due("on monday 1", x.law(1, 0, 0), 1);
        x.go(1);
        Check.due("on monday 2", x.law(1, 0, 0), 99002);
    }

    @Says({"VALUES are longs; comparisons, and, or, not are 1 or 0 (what isn't 0 is as 1,"})
    static void truths() {
        String[] signs = {"<", "<=", "=", "<>", ">=", ">"};
        int[][] want = {{1, 0, 0}, {1, 1, 0}, {0, 1, 0}, {1, 0, 1}, {0, 1, 1}, {0, 0, 1}};
        for (int k = 0; k < signs.length; k++) {
            value("2" + signs[k] + "3", want[k][0]);
            value("3" + signs[k] + "3", want[k][1]);
            value("4" + signs[k] + "3", want[k][2]);
            value("(0-4)" + signs[k] + "3", want[k][0]);
        }
        value("not 0", 1);
        value("not 1", 0);
        value("not 5", 0);
        value("not (0-1)", 0);
        value("not not 5", 1);
        String[] numbers = {"0", "1", "7", "(0-1)", "(256*256*256*256)"};
        for (String one : numbers) {
            for (String other : numbers) {
                boolean a = !one.equals("0");
                boolean b = !other.equals("0");
                value(one + " and " + other, a && b ? 1 : 0);
                value(one + " or " + other, a || b ? 1 : 0);
            }
        }
        value("(3<4)+(3<4)", 2);
        value("9999*9999*9999", 999700029999L);
    }

    @Says("both sides are worked out),")
    static void bothSides() {
        value("1 or 1/0", ERROR);
        value("1/0 or 1", ERROR);
        value("0 and 1/0", ERROR);
        value("1/0 and 0", ERROR);
        value("0*(1/0)", ERROR);
        value("1 or " + MILLIONS + "+1", ERROR);
    }

    @Says("/ is cut towards 0;")
    static void cutTowardsZero() {
        value("7/2", 3);
        value("(0-7)/2", -3);
        value("7/(0-2)", -3);
        value("(0-7)/(0-2)", 3);
        value("1/2", 0);
        value("(0-1)/2", 0);
        value("1/(0-2)", 0);
        value("0/5", 0);
        value("8/2", 4);
        value("(0-8)/2", -4);
    }

    @Says("ERROR: / by 0,")
    static void overZero() {
        value("1/0", ERROR);
        value("0/0", ERROR);
        value("(0-1)/0", ERROR);
        value("1/(2-2)", ERROR);
        value("1/warm", ERROR);
        value("1/(1/2)", ERROR);
        value("(1/0)*0", ERROR);
        value("not (1/0)", ERROR);
        value("1/0=1/0", ERROR);
        value("0/1", 0);
    }

    @Says("a value above 10 to the 12 or below 0 by more than that.")
    static void tooFarFromZero() {
        long most = 1000000000000L;
        value(MILLIONS, most);
        value(MILLIONS + "+0", most);
        value(MILLIONS + "+1", ERROR);
        value(MILLIONS + "-(0-1)", ERROR);
        value(MILLIONS + "*1", most);
        value(MILLIONS + "*(0-1)", -most);
        value("0-" + MILLIONS, -most);
        value("0-" + MILLIONS + "-1", ERROR);
        value("0-" + MILLIONS + "+(0-1)", ERROR);
        value("(0-1000)*1000*1000*1000", -most);
        value("(0-1000)*1000*1000*1001", ERROR);
        value("1000*1000*1000*(0-1001)", ERROR);
        value("1000*1000*1000*1001", ERROR);
        value("(" + MILLIONS + ")/1", most);
        value("(" + MILLIONS + ")/(0-1)", -most);
        // on the way, too
        value("(" + MILLIONS + "+1)*0", ERROR);
        value("(" + MILLIONS + "+1)-1", ERROR);
        value("not (" + MILLIONS + "+1)", ERROR);
        value("0*(" + MILLIONS + "+1)", ERROR);
        value("0*(" + MILLIONS + ")", 0);
        // beyond a long, where it would come round to 0 and to small ones
        value("256*256*256*256*(256*256*256*256)", ERROR);
        value("(256*256*256*256+1)*(256*256*256*256)", ERROR);
        value(MILLIONS + "*(" + MILLIONS + ")", ERROR);
        value("(0-" + MILLIONS + ")*(" + MILLIONS + ")", ERROR);
        value("(0-" + MILLIONS + ")*(0-" + MILLIONS + ")", ERROR);
    }

    @Says({"VALUES are longs; comparisons, and, or, not are 1 or 0", "/ is cut towards 0; ERROR: / by 0,"})
    static void everySignOfTwoNumbers() {
        long most = 1000000000000L;
        long[] numbers = {0, 1, -1, 2, -2, 3, -3, 7, -7, 10, -10, 999, -999, 1000000, -1000000, 1000001, -1000001, most - 1, 1 - most, most, -most};
        String[] signs = {"+", "-", "*", "/", "<", "<=", "=", "<>", ">=", ">", " and ", " or "};
        for (long a : numbers) {
            for (long b : numbers) {
                for (String sign : signs) value("(" + told(a) + ")" + sign + "(" + told(b) + ")", due(a, sign.trim(), b));
            }
        }
    }

    /** A number as E can tell it: in thousands, as N ends with 9999. */
    private static String told(long number) {
        if (number < 0) return "0-(" + told(-number) + ")";
        return number < 1000 ? Long.toString(number) : "(" + told(number / 1000) + ")*1000+" + number % 1000;
    }

    private static long due(long a, String sign, long b) {
        BigInteger one = BigInteger.valueOf(a);
        BigInteger other = BigInteger.valueOf(b);
        int c = one.compareTo(other);
        if (sign.equals("/") && b == 0) return ERROR;
        BigInteger v = switch (sign) {
            case "+" -> one.add(other);
            case "-" -> one.subtract(other);
            case "*" -> one.multiply(other);
            case "/" -> one.divide(other);
            case "and" -> truth(a != 0 && b != 0);
            case "or" -> truth(a != 0 || b != 0);
            default -> truth(c < 0 ? sign.contains("<") : c > 0 ? sign.contains(">") : sign.contains("="));
        };
        return v.abs().compareTo(BigInteger.TEN.pow(12)) > 0 ? ERROR : v.longValueExact();
    }

    private static BigInteger truth(boolean is) {
        return is ? BigInteger.ONE : BigInteger.ZERO;
    }

    @Says({"E: A { or A }. A: B { and B }. B: not B | C. C: S [", "S: T { ( + | - ) T }. T: P { ( * | / ) P }."})
    static void whatBindsFirst() {
        value("2+3*4", 14);
        value("(2+3)*4", 20);
        value("10-3-2", 5);
        value("10-(3-2)", 9);
        value("100/10/5", 2);
        value("2*7/4*2", 6);
        value("10-4+3", 9);
        value("1 or 0 and 0", 1);
        value("(1 or 0) and 0", 0);
        value("0 and 0 or 1", 1);
        value("not 0 and 0", 0);
        value("not (0 and 0)", 1);
        value("not 1=2", 1);
        value("(not 1)=2", 0);
        value("1+1=2", 1);
        value("2=1+1 and 3*2>5", 1);
        value("not 1 or 1", 1);
        value("age*100+kind*10+taste", 734);
        value("((((((((5))))))))*2", 10);
    }

    // ---- promises 6 to 12

    @Says(promise = 6, value = "Of a THING now, what 0 the ROOM, 1 KIND, 2 AGE, 3 how often MOVED, 4 TURNED.")
    static void things() {
        DeadMonday x = Check.house(HALL);
        int[][] want = {{0, 0, 2, 0, 0}, {0, 1, 9, 0, 0}, {1, 2, 5, 0, 0}};
        for (int t = 0; t < 3; t++) {
            for (int what = 0; what <= 4; what++) Check.due("thing(" + t + ", " + what + ")", x.thing(t, what), want[t][what]);
        }
        x.go(1);
        Check.due("the rug is moved", x.thing(1, 0) * 10 + x.thing(1, 3), 11);
        Check.due("the bust isn't", x.thing(0, 0) * 10 + x.thing(0, 3), 0);
        x.hang(1, 0);
        Check.due("hung, not moved", x.thing(1, 0) * 10 + x.thing(1, 3), 1);
        DeadMonday y = Check.house("room a;thing t a 5 0;dead d 9 0 0 0;");
        y.go(4);
        Check.due("turned", y.thing(0, 4), 4);
        Check.due("not moved", y.thing(0, 3), 0);
    }

    @Says(promise = 6, value = "IndexOutOfBoundsException: no such THING.")
    static void noSuchThing() {
        DeadMonday x = Check.house(HALL);
        Check.due("the last one", Check.thrown(x, 2, 0), 0);
        Check.due("behind the last one", Check.thrown(x, 3, 0), 1);
        for (int t : FAR) Check.due("thing(" + t + ", 0)", Check.thrown(x, t, 0), 1);
        for (int what : FAR) Check.due("thing(3, " + what + ")", Check.thrown(x, 3, what), 1);
        Check.due("of a new object", Check.thrown(new DeadMonday(), 0, 0), 1);
        Check.due("without things", Check.thrown(Check.house("room a;"), 0, 0), 1);
    }

    @Says(promise = 6, value = "NoSuchElementException: no such what.")
    static void noSuchWhatOfThings() {
        DeadMonday x = Check.house(HALL);
        Check.due("thing(0, 4)", Check.thrown(x, 0, 4), 0);
        Check.due("thing(0, 5)", Check.thrown(x, 0, 5), 2);
        for (int what : FAR) Check.due("thing(0, " + what + ")", Check.thrown(x, 0, what), 2);
    }

    @Says(promise = 7, value = "Of a ROOM now, what 0 how WARM, 1 whether ROPED (1, 0), 2 how many THINGS, 3 THINGS (bits).")
    static void rooms() {
        DeadMonday x = Check.house(HALL);
        int[][] want = {{0, 0, 2, 3}, {0, 0, 1, 4}, {0, 0, 0, 0}};
        for (int r = 0; r < 3; r++) {
            for (int what = 0; what <= 3; what++) Check.due("room(" + r + ", " + what + ")", x.room(r, what), want[r][what]);
        }
        x.rope(0, true);
        Check.due("roped", x.room(0, 1) * 10 + x.room(1, 1), 10);
        x.rope(0, false);
        Check.due("no more", x.room(0, 1), 0);
        x.go(2);
        Check.due("warm by ann twice", x.room(0, 0), 2);
        Check.due("warm by bo", x.room(1, 0), 1);
        DeadMonday y = Check.house("room a;room b;thing a b 0 0;thing b b 0 0;thing c b 0 0;thing d b 0 0;thing e b 0 0;thing f b 0 0;"
            + "thing g b 0 0;thing h b 0 0;");
        Check.due("all eight", y.room(1, 2) * 1000 + y.room(1, 3), 8255);
        Check.due("none", y.room(0, 2) * 1000 + y.room(0, 3), 0);
    }

    @Says(promise = 7, value = "NONE: no such ones.")
    static void noSuchRooms() {
        DeadMonday x = Check.house(HALL);
        for (int what = 0; what <= 3; what++) {
            Check.due("behind the last one", x.room(3, what), -1);
            for (int r : FAR) Check.due("room(" + r + ", " + what + ")", x.room(r, what), -1);
            Check.due("of a new object", new DeadMonday().room(0, what), -1);
        }
        Check.due("room(0, 4)", x.room(0, 4), -1);
        for (int what : FAR) Check.due("room(0, " + what + ")", x.room(0, what), -1);
    }

    @Says(promise = 8, value = "Of a DEAD, what 0 TASTE, 1 FAVOUR, 2 FACTION, 3 FAIR, 4 how often it CAME.")
    static void dead() {
        DeadMonday x = Check.house(HALL);
        int[][] want = {{2, 0, 0, 40, 0}, {8, 1, 1, 60, 0}};
        for (int d = 0; d < 2; d++) {
            for (int what = 0; what <= 4; what++) Check.due("dead(" + d + ", " + what + ")", x.dead(d, what), want[d][what]);
        }
        x.go(3);
        Check.due("ann came", x.dead(0, 4), 3);
        Check.due("bo came", x.dead(1, 4), 1);
    }

    @Says(promise = 8, value = "NONE: no such ones.")
    static void noSuchDead() {
        DeadMonday x = Check.house(HALL);
        for (int what = 0; what <= 4; what++) {
            Check.due("behind the last one", x.dead(2, what), -1);
            for (int d : FAR) Check.due("dead(" + d + ", " + what + ")", x.dead(d, what), -1);
            Check.due("of a new object", new DeadMonday().dead(0, what), -1);
        }
        Check.due("dead(0, 5)", x.dead(0, 5), -1);
        for (int what : FAR) Check.due("dead(0, " + what + ")", x.dead(0, what), -1);
    }

    @Says(promise = 9, value = "Whether a DOOR leads from a ROOM to another one (1, 0);")
    static void doors() {
        DeadMonday x = Check.house(HALL);
        int[][] want = {{0, 1, 0}, {1, 0, 1}, {0, 1, 0}};
        for (int a = 0; a < 3; a++) {
            for (int b = 0; b < 3; b++) Check.due("door(" + a + ", " + b + ")", x.door(a, b), want[a][b]);
        }
        x.rope(0, true);
        Check.due("to a roped one", x.door(1, 0), 1);
    }

    @Says(promise = 9, value = "NONE: no such ones.")
    static void noSuchDoors() {
        DeadMonday x = Check.house(HALL);
        Check.due("door(0, 3)", x.door(0, 3), -1);
        Check.due("door(3, 0)", x.door(3, 0), -1);
        Check.due("door(3, 3)", x.door(3, 3), -1);
        for (int r : FAR) {
            Check.due("door(0, " + r + ")", x.door(0, r), -1);
            Check.due("door(" + r + ", 0)", x.door(r, 0), -1);
            Check.due("door(" + r + ", " + r + ")", x.door(r, r), -1);
        }
        Check.due("of a new object", new DeadMonday().door(0, 0), -1);
    }

    @Says(promise = 10, value = "GAUGE of a MONDAY 0 .. 9999;")
    static void gauges() {
        DeadMonday x = Check.house("glass 7;glass 0;glass 99;");
        int[] want = {7, 0, 99};
        for (int m = 0; m <= 9999; m += m < 9 ? 1 : 45) Check.due("gauge(" + m + ")", x.gauge(m), want[m % 3]);
        Check.due("gauge(9998)", x.gauge(9998), 99);
        Check.due("gauge(9999)", x.gauge(9999), 7);
        x.go(2);
        Check.due("whatever it is now", x.gauge(0), 7);
    }

    @Says(promise = 10, value = "NONE: no such one.")
    static void noSuchMonday() {
        for (DeadMonday x : new DeadMonday[] {new DeadMonday(), Check.house("glass 7;glass 0;glass 99;")}) {
            for (int m : new int[] {-1, -2, -3, 10000, 10001, Integer.MIN_VALUE, Integer.MAX_VALUE}) Check.due("gauge(" + m + ")", x.gauge(m), -1);
        }
    }

    @Says(promise = 11, value = "LIKING now of a DEAD for a THING;")
    static void likingNow() {
        DeadMonday x = Check.house(HALL);
        int[][] want = {{70, 15, 35}, {20, 65, 35}};
        for (int d = 0; d < 2; d++) for (int t = 0; t < 3; t++) Check.due("liking(" + d + ", " + t + ")", x.liking(d, t), want[d][t]);
        DeadMonday y = Check.house("room a;room b;thing t a 3 7;dead d 4 3 0 0;glass 50;glass 70;law like 10+warm*3+(monday=1)*20+gauge/10;law bear 0;");
        Check.due("at first", y.liking(0, 0), 15);
        y.go(1);
        Check.due("a warm room, another monday and glass", y.liking(0, 0), 40);
        String one = "room a;thing t a 3 7;dead d 4 3 0 0;law bear 0;";
        DeadMonday z = Check.house(one + "law like 10+monday;");
        DeadMonday w = Check.house(one + "glass 7;glass 8;glass 7;law like gauge;");
        DeadMonday v = Check.house(one + "law like 10+warm;");
        for (int m = 0; m < 4; m++) {
            Check.due("by the monday alone", z.liking(0, 0), 10 + m);
            Check.due("by the glass alone", w.liking(0, 0), 7 + m % 3 % 2);
            Check.due("by the warmth alone", v.liking(0, 0), 10 + m);
            z.go(1);
            w.go(1);
            v.go(1);
        }
        y.hang(0, 1);
        Check.due("in a room that isn't warm", y.liking(0, 0), 37);
        y.hang(0, 0);
        y.dust(0);
        Check.due("in one that is dusted", y.liking(0, 0), 37);
    }

    @Says(promise = 11, value = "NONE: no such ones.")
    static void noSuchLiking() {
        DeadMonday x = Check.house(HALL);
        Check.due("liking(2, 0)", x.liking(2, 0), -1);
        Check.due("liking(0, 3)", x.liking(0, 3), -1);
        for (int far : FAR) {
            Check.due("liking(" + far + ", 0)", x.liking(far, 0), -1);
            Check.due("liking(0, " + far + ")", x.liking(0, far), -1);
        }
        Check.due("of a new object", new DeadMonday().liking(0, 0), -1);
    }

    private static DeadMonday lawful() {
        return Check.house("room a;room b;thing t a 3 7;thing u b 1 2;dead d 4 2 0 100;dead e 1 5 0 0;glass 60;glass 9;"
            + "law like warm*1000+age*10+taste;law bear 0-(warm*1000+kind*10+fond);law come age+kind+warm+gauge+taste;");
    }

    @Says(promise = 12, value = "The law's E now of a DEAD (what 0 like, 1 bear of a THING, by how WARM its ROOM is now; 2 come, the THING isn't looked at).")
    static void lawsNow() {
        DeadMonday x = lawful();
        for (int monday = 0; monday <= 2; monday++) {
            for (int t = 0; t < 2; t++) {
                int warm = x.room(x.thing(t, 0), 0) * 1000;
                for (int d = 0; d < 2; d++) {
                    Check.due("like", x.law(0, d, t), warm + x.thing(t, 2) * 10 + x.dead(d, 0));
                    Check.due("bear", x.law(1, d, t), -(warm + x.thing(t, 1) * 10 + x.dead(d, 1)));
                }
            }
            int glass = monday == 1 ? 9 : 60;
            for (int t : FAR) {
                Check.due("come looks at no thing", x.law(2, 0, t), glass + 4);
                Check.due("come of another one", x.law(2, 1, t), glass + 1);
            }
            Check.due("come", x.law(2, 0, 0), glass + 4);
            x.go(1);
        }
        Check.due("they came", x.room(0, 0) + x.room(1, 0), 6);
        Check.due("far beyond liking", Check.house("room a;thing t a 0 0;dead d 0 0 0 0;law bear 0-9999*9999;").law(1, 0, 0), -99980001);
        Check.due("without things", Check.house("dead d 3 0 0 0;law come taste;").law(2, 0, 0), 3);
    }

    @Says(promise = 12, value = "Long.MIN_VALUE: an ERROR, no such law, no such ones.")
    static void noSuchLaw() {
        DeadMonday x = lawful();
        for (int what = 0; what <= 2; what++) {
            Check.due("no such dead", x.law(what, 2, 0), ERROR);
            for (int far : FAR) Check.due("law(" + what + ", " + far + ", 0)", x.law(what, far, 0), ERROR);
        }
        for (int what = 0; what <= 1; what++) {
            Check.due("no such thing", x.law(what, 0, 2), ERROR);
            for (int far : FAR) Check.due("law(" + what + ", 0, " + far + ")", x.law(what, 0, far), ERROR);
        }
        Check.due("what 3", x.law(3, 0, 0), ERROR);
        for (int what : FAR) Check.due("law(" + what + ", 0, 0)", x.law(what, 0, 0), ERROR);
        DeadMonday y = Check.house(HALL);
        for (int what = 0; what <= 2; what++) Check.due("no such law", y.law(what, 0, 0), ERROR);
        DeadMonday z = Check.house(HALL + "law like 1/0;law bear 1/0;law come 1/0;");
        for (int what = 0; what <= 2; what++) Check.due("an error", z.law(what, 0, 0), ERROR);
        String[] rules = {"like", "bear", "come"};
        for (int told = 0; told < 3; told++) {
            DeadMonday w = Check.house(HALL + "law " + rules[told] + " 7;");
            for (int what = 0; what <= 2; what++) Check.due("one law alone", w.law(what, 0, 0), what == told ? 7 : ERROR);
        }
        for (int what = 0; what <= 2; what++) Check.due("of a new object", new DeadMonday().law(what, 0, 0), ERROR);
    }

    // ---- promise 40

    @Says(promise = 40, value = {"0 ROOMS, 1 DOORS, 2 THINGS, 3 DEAD, 4 glass told, 5 KNOTS, 6 the MONDAY, 7 MOVED in all, 8 TURNED in all,",
        "9 how often all CAME, 10 NOTES, 11 by how many it is KNOWN, 12 what can be undone."})
    static void counts() {
        DeadMonday x = Check.house(HALL + "law bear 30;seed 5;");
        int[] want = {3, 2, 3, 2, 2, 1, 0, 0, 0, 0, 0, 0, 0};
        for (int what = 0; what <= 12; what++) Check.due("count(" + what + ")", x.count(what), want[what]);
        x.go(2);
        x.note(1, 0, 0, true);
        x.out(0);
        x.rope(1, true);
        int[] then = {3, 2, 3, 2, 2, 1, 2, 1, 0, 3, 2, 2, 1};
        for (int what = 0; what <= 12; what++) Check.due("count(" + what + ") then", x.count(what), then[what]);
        x.known(1);
        Check.due("known by one", x.count(11), 1);
        x.known(0);
        Check.due("known by none", x.count(11), 0);
        x.known(-1);
        Check.due("known by all", x.count(11), 2);
        DeadMonday y = Check.house("room a;room b;room c;door a b;thing t a 0 9;thing u c 0 9;dead d 0 1 0 0;dead e 0 1 0 0;");
        y.go(3);
        Check.due("moved in all", y.count(7), y.thing(0, 3) + y.thing(1, 3));
        Check.due("turned in all", y.count(8), y.thing(0, 4) + y.thing(1, 4));
        Check.due("six visits", y.count(9), 6);
        Check.due("each for one", y.count(7) + y.count(8), 6);
    }

    @Says(promise = 40, value = "NONE for another what.")
    static void noSuchCount() {
        for (DeadMonday x : new DeadMonday[] {new DeadMonday(), Check.house(HALL)}) {
            Check.due("count(13)", x.count(13), -1);
            for (int what : FAR) Check.due("count(" + what + ")", x.count(what), -1);
        }
    }

    public static void main(String[] args) throws ReflectiveOperationException {
        Check.run(NowTest.class);
    }
}
