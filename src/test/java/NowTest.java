/** Promises 6 to 12 and 40: what is so now, and how laws are worked out. */
public final class NowTest {
    static final String HALL = "room hall;room den;room loft;door hall den;door den loft;"
        + "thing bust hall 0 2;thing rug hall 1 9;thing urn den 2 5;"
        + "dead ann 2 0 0 40;dead bo 8 1 1 60;glass 50;glass 70;";
    private static final long ERROR = Long.MIN_VALUE;

    private static void things() {
        DeadMonday x = Check.house(HALL);
        int[][] want = {{0, 0, 2, 0, 0}, {0, 1, 9, 0, 0}, {1, 2, 5, 0, 0}};
        for (int t = 0; t < 3; t++) {
            for (int what = 0; what <= 4; what++) Check.due("thing(" + t + ", " + what + ")", x.thing(t, what), want[t][what]);
        }
        Check.due("thing(3, 0)", Check.thrown(x, 3, 0), 1);
        Check.due("thing(-1, 0)", Check.thrown(x, -1, 0), 1);
        Check.due("thing(0, 5)", Check.thrown(x, 0, 5), 2);
        Check.due("thing(0, -1)", Check.thrown(x, 0, -1), 2);
        Check.due("thing(3, 5)", Check.thrown(x, 3, 5), 1);
        Check.due("thing(0, 0) of a new object", Check.thrown(new DeadMonday(), 0, 0), 1);
        x.go(1);
        Check.due("the rug is moved", x.thing(1, 0) * 10 + x.thing(1, 3), 11);
        x.hang(1, 0);
        Check.due("hung, not moved", x.thing(1, 0) * 10 + x.thing(1, 3), 1);
        DeadMonday y = Check.house("room a;thing t a 5 0;dead d 9 0 0 0;");
        y.go(4);
        Check.due("turned", y.thing(0, 4), 4);
        Check.due("not moved", y.thing(0, 3), 0);
        Check.due("count(8)", y.count(8), 4);
        Check.due("count(7)", y.count(7), 0);
    }

    private static void rooms() {
        DeadMonday x = Check.house(HALL);
        Check.due("room(0, 2)", x.room(0, 2), 2);
        Check.due("room(0, 3)", x.room(0, 3), 3);
        Check.due("room(1, 3)", x.room(1, 3), 4);
        Check.due("room(2, 2)", x.room(2, 2), 0);
        Check.due("room(2, 3)", x.room(2, 3), 0);
        Check.due("room(0, 0)", x.room(0, 0), 0);
        Check.due("room(0, 1)", x.room(0, 1), 0);
        x.rope(0, true);
        Check.due("roped", x.room(0, 1), 1);
        for (int what = -1; what <= 4; what++) {
            Check.due("room(3)", x.room(3, what), -1);
            Check.due("room(-1)", x.room(-1, what), -1);
        }
        Check.due("room(0, 4)", x.room(0, 4), -1);
        Check.due("room(0, -1)", x.room(0, -1), -1);
        x.rope(0, false);
        x.go(2);
        Check.due("warm by ann twice", x.room(0, 0), 2);
        Check.due("warm by bo", x.room(1, 0), 1);
    }

    private static void deadAndDoors() {
        DeadMonday x = Check.house(HALL);
        int[][] want = {{2, 0, 0, 40, 0}, {8, 1, 1, 60, 0}};
        for (int d = 0; d < 2; d++) {
            for (int what = 0; what <= 4; what++) Check.due("dead(" + d + ", " + what + ")", x.dead(d, what), want[d][what]);
        }
        Check.due("dead(2, 0)", x.dead(2, 0), -1);
        Check.due("dead(-1, 0)", x.dead(-1, 0), -1);
        Check.due("dead(0, 5)", x.dead(0, 5), -1);
        Check.due("dead(0, -1)", x.dead(0, -1), -1);
        x.go(3);
        Check.due("ann came", x.dead(0, 4), 3);
        Check.due("bo came", x.dead(1, 4), 1);
        Check.due("all came", x.count(9), 4);
        int[][] doors = {{0, 1, 0}, {1, 0, 1}, {0, 1, 0}};
        for (int a = 0; a < 3; a++) {
            for (int b = 0; b < 3; b++) Check.due("door(" + a + ", " + b + ")", x.door(a, b), doors[a][b]);
        }
        Check.due("door(0, 3)", x.door(0, 3), -1);
        Check.due("door(3, 0)", x.door(3, 0), -1);
        Check.due("door(-1, 0)", x.door(-1, 0), -1);
        Check.due("door(0, 32)", x.door(0, 32), -1);
    }

    private static void gauges() {
        DeadMonday x = Check.house("glass 7;glass 0;glass 99;");
        int[] want = {7, 0, 99};
        for (int m = 0; m < 9; m++) Check.due("gauge(" + m + ")", x.gauge(m), want[m % 3]);
        Check.due("gauge(9999)", x.gauge(9999), 7);
        Check.due("gauge(10000)", x.gauge(10000), -1);
        Check.due("gauge(-1)", x.gauge(-1), -1);
        DeadMonday y = Check.house("glass 1;glass 2;glass 3;glass 4;glass 5;glass 6;glass 7;glass 8;glass 9;");
        for (int m = 0; m < 20; m++) Check.due("gauge(" + m + ") of nine", y.gauge(m), m % 9 + 1);
        Check.due("gauge without glass", new DeadMonday().gauge(123), 50);
    }

    private static void likings() {
        DeadMonday x = Check.house(HALL);
        int[][] want = {{70, 15, 35}, {20, 65, 35}};
        for (int d = 0; d < 2; d++) for (int t = 0; t < 3; t++) Check.due("liking", x.liking(d, t), want[d][t]);
        Check.due("liking(2, 0)", x.liking(2, 0), -1);
        Check.due("liking(0, 3)", x.liking(0, 3), -1);
        Check.due("liking(-1, 0)", x.liking(-1, 0), -1);
        Check.due("liking(0, -1)", x.liking(0, -1), -1);
        String one = "room a;room b;thing t a 3 7;dead d 4 3 0 0;law like ";
        Check.due("99 at most", Check.house(one + "100;").liking(0, 0), 99);
        Check.due("99", Check.house(one + "99;").liking(0, 0), 99);
        Check.due("0 at least", Check.house(one + "0-1;").liking(0, 0), 0);
        Check.due("as without with an error", Check.house(one + "1/0;").liking(0, 0), 55);
        DeadMonday y = Check.house(one + "10+warm*3+monday*20;");
        Check.due("law at first", y.liking(0, 0), 10);
        y.hang(0, 1);
        y.go(1);
        Check.due("by the warmth of its room", y.liking(0, 0), 10 + y.room(y.thing(0, 0), 0) * 3 + 20);
    }

    private static void value(String expression, long want) {
        DeadMonday x = Check.house("room a;thing t a 3 7;dead d 4 2 0 0;glass 60;law like " + expression + ";");
        Check.due(expression, x.law(0, 0, 0), want);
    }

    private static void laws() {
        value("2+3*4", 14);
        value("(2+3)*4", 20);
        value("10-3-2", 5);
        value("100/10/5", 2);
        value("2*7/4*2", 6);
        value("7/2", 3);
        value("(0-7)/2", -3);
        value("7/(0-2)", -3);
        value("1 or 1/0", ERROR);
        value("0 and 1/0", ERROR);
        value("1/0", ERROR);
        value("(1/0)*0", ERROR);
        value("not 5", 0);
        value("not not 5", 1);
        value("not 0 and 0", 0);
        value("not (0 and 0)", 1);
        value("not 1=2", 1);
        value("2 and (0-3)", 1);
        value("0 or 7", 1);
        value("0 or 0", 0);
        value("1 or 0 and 0", 1);
        value("(1 or 0) and 0", 0);
        value("1+1=2", 1);
        value("3<3", 0);
        value("3<=3", 1);
        value("4<=3", 0);
        value("2<=3", 1);
        value("2>=3", 0);
        value("4<>3", 1);
        value("4=3", 0);
        value("3<>3", 0);
        value("3>=3", 1);
        value("3>3", 0);
        value("2>3", 0);
        value("4>3", 1);
        value("age*100+kind*10+taste", 734);
        value("fond*1000+gauge*10+warm+monday", 2600);
        value("1000*1000*1000*1000", 1000000000000L);
        value("1000*1000*1000*1000+1", ERROR);
        value("(1000*1000*1000*1000+1)*0", ERROR);
        value("0-1000*1000*1000*1000", -1000000000000L);
        value("0-1000*1000*1000*1000-1", ERROR);
        value("(0-1000)*1000*1000*1000", -1000000000000L);
        value("(0-1000)*1000*1000*1001", ERROR);
        value("256*256*256*256*(256*256*256*256)", ERROR);
        value("1000*1000*1000*1000*(1000*1000*1000*1000)", ERROR);
        value("9999*9999*9999*1", 999700029999L);
        value("0*(1000*1000*1000*1000)", 0);
    }

    private static void lawOf() {
        DeadMonday x = Check.house("room a;room b;thing t a 3 7;thing u b 1 2;dead d 4 2 0 100;dead e 1 5 0 0;glass 60;glass 9;"
            + "law like warm*1000+age*10+taste;law bear 0-(warm*1000+kind*10+fond);law come age+kind+warm+gauge+taste;");
        x.go(1);
        Check.due("monday", x.count(6), 1);
        for (int t = 0; t < 2; t++) {
            int warm = x.room(x.thing(t, 0), 0) * 1000;
            for (int d = 0; d < 2; d++) {
                Check.due("like", x.law(0, d, t), warm + x.thing(t, 2) * 10 + x.dead(d, 0));
                Check.due("bear", x.law(1, d, t), -(warm + x.thing(t, 1) * 10 + x.dead(d, 1)));
            }
        }
        Check.due("someone was there", x.room(0, 0) + x.room(1, 0), 2);
        Check.due("come", x.law(2, 0, 0), 13);
        Check.due("come looks at no thing", x.law(2, 1, -7), 10);
        Check.due("what 3", x.law(3, 0, 0), ERROR);
        Check.due("what -1", x.law(-1, 0, 0), ERROR);
        Check.due("no such dead", x.law(0, 2, 0), ERROR);
        Check.due("no such dead to come", x.law(2, 2, 0), ERROR);
        Check.due("no such thing", x.law(0, 0, 2), ERROR);
        Check.due("no such thing to bear", x.law(1, 0, -1), ERROR);
        DeadMonday y = Check.house(HALL);
        for (int what = 0; what <= 2; what++) Check.due("no such law", y.law(what, 0, 0), ERROR);
    }

    private static void counts() {
        DeadMonday x = Check.house(HALL + "law bear 30;seed 5;");
        int[] want = {3, 2, 3, 2, 2, 1, 0, 0, 0, 0, 0, 0, 0};
        for (int what = 0; what <= 12; what++) Check.due("count(" + what + ")", x.count(what), want[what]);
        x.go(2);
        x.note(1, 0, 0, true);
        x.note(1, 0, 0, true);
        x.rope(1, true);
        int[] then = {3, 2, 3, 2, 2, 1, 2, 1, 0, 3, 2, 2, 1};
        for (int what = 0; what <= 12; what++) Check.due("count(" + what + ") then", x.count(what), then[what]);
        x.known(1);
        Check.due("known by one", x.count(11), 1);
        x.known(-1);
        Check.due("known by all", x.count(11), 2);
        Check.due("count(13)", x.count(13), -1);
        Check.due("count(-1)", x.count(-1), -1);
    }

    public static void main(String[] args) {
        things();
        rooms();
        deadAndDoors();
        gauges();
        likings();
        laws();
        lawOf();
        counts();
        Check.end("NowTest");
    }
}
