/** Promises 22 to 27, 29, 30: hanging, steering, splitting, ways, what is likely, shunned, loved. */
public final class PlanTest {
    private static void hanging() {
        DeadMonday x = Check.house(NowTest.HALL);
        int[] want = {0, 0, 0, -2, 240};
        for (int what = 0; what <= 4; what++) Check.due("hanging(" + what + ")", x.hanging(what), want[what]);
        Check.due("hanging(5)", x.hanging(5), -1);
        Check.due("hanging(-1)", x.hanging(-1), -1);
        x.rope(0, true);
        Check.due("not in a roped one", x.hanging(0) * 100 + x.hanging(1) * 10 + x.hanging(2), 111);
        x.rope(1, true);
        Check.due("nor there", x.hanging(0) * 100 + x.hanging(1) * 10 + x.hanging(2), 222);
        x.rope(2, true);
        Check.due("all roped", x.hanging(0) * 100 + x.hanging(1) * 10 + x.hanging(2) + x.hanging(4), 0);
        Check.due("it is hung as it was", x.thing(2, 0), 1);
        Check.due("no rooms", new DeadMonday().hanging(0), -1);
        Check.due("no rooms", new DeadMonday().hanging(4), -1);
        Check.due("no things", Check.house("room a;").hanging(0), -2);
        Check.due("no things", Check.house("room a;dead d 0 0 0 0;").hanging(4), 0);
        // the others as they are: two of 50 in b draw the first four there
        String six = "room a;room b;thing t a 0 0;thing u a 0 0;thing v a 0 0;thing w a 0 0;thing x b 0 0;thing y b 0 0;";
        DeadMonday y = Check.house(six + "dead d 0 1 0 0;");
        Check.due("all to b", y.hanging(0) * 1000 + y.hanging(1) * 100 + y.hanging(2) * 10 + y.hanging(3), 1111);
        Check.due("six liked", y.hanging(4), 300);
        y.hang(5, 0);
        Check.due("the first by things", y.hanging(0) * 1000 + y.hanging(1) * 100 + y.hanging(2) * 10 + y.hanging(3), 0);
        Check.due("five liked", y.hanging(4), 250);
        // e is fond of x in b and never of t, which d would have with y in a: each sits by what stays
        String apart = "room a;room b;thing t b 0 1;thing u b 0 0;thing v b 0 0;thing w b 0 0;thing x b 5 3;thing y a 1 2;"
            + "dead d 1 0 0 0;dead e 2 0 0 0;law like (taste=1)*(age=1)*9+(taste=1)*(age=2)*40+(taste=2)*(age=3)*70;";
        DeadMonday q = Check.house(apart);
        Check.due("each by its own", q.hanging(4), 119);
        Check.due("t to a", q.hanging(0), 0);
        Check.due("the others by things", q.hanging(1) * 100 + q.hanging(2) * 10 + q.hanging(3), 0);
        q.rope(1, true);
        Check.due("without b", q.hanging(4), 49);
        q.rope(0, true);
        q.rope(1, false);
        Check.due("without a", q.hanging(4) * 10 + q.hanging(0), 791);
        // by how warm the room would be
        DeadMonday z = Check.house("room a;room b;thing t b 0 0;dead d 0 1 0 0;law like 10+warm*5;");
        z.go(2);
        Check.due("in the warm one", z.hanging(0) * 100 + z.hanging(4), 120);
    }

    private static void steer() {
        DeadMonday x = Check.house(NowTest.HALL);
        Check.due("it would", x.steer(0, 0), 0);
        Check.due("den", x.steer(0, 1), 1);
        Check.due("loft", x.steer(0, 2), 1);
        // bo: bust 20, rug 65, urn 35
        Check.due("bo to the den by the rug", x.steer(1, 1), 2);
        Check.due("bo to the loft by the rug", x.steer(1, 2), 2);
        x.rope(2, true);
        Check.due("roped", x.steer(1, 2), -2);
        x.rope(0, true);
        Check.due("it would, as that is roped", x.steer(1, 1), 0);
        Check.due("steer(2, 0)", x.steer(2, 0), -1);
        Check.due("steer(-1, 0)", x.steer(-1, 0), -1);
        Check.due("steer(0, 3)", x.steer(0, 3), -1);
        Check.due("steer(0, -1)", x.steer(0, -1), -1);
        // b has 50 and must be above a's 150: one isn't enough, of several the least bits
        DeadMonday y = Check.house("room a;room b;thing t a 0 0;thing u a 0 0;thing v a 0 0;thing w b 0 0;dead d 0 1 0 0;");
        Check.due("two", y.steer(0, 1), 3);
        Check.due("it would", y.steer(0, 0), 0);
        // a tie is for the first room
        DeadMonday z = Check.house("room a;room b;thing t b 0 0;thing u b 0 0;dead d 0 1 0 0;");
        Check.due("a tie is enough for a", z.steer(0, 0), 1);
        Check.due("by none", Check.house("room a;room b;thing t a 0 0;dead d 0 1 0 0;law like 0;").steer(0, 1), -2);
        DeadMonday w = Check.house("room a;room b;thing t a 0 0;thing u b 0 1;dead d 0 1 0 0;law like 20-warm*6;");
        w.go(1);
        // a is warm now: both like 20 in b, 14 in a
        Check.due("where it would be", w.sits(0) * 10 + w.steer(0, 0), 12);
    }

    private static void split() {
        DeadMonday x = Check.house(NowTest.HALL);
        Check.due("rests", x.rests(), 1);
        Check.due("rest(0)", x.rest(0), 0);
        Check.due("rest(1)", x.rest(1), -2);
        Check.due("rest(-1)", x.rest(-1), -1);
        Check.due("no rooms", new DeadMonday().rests(), -1);
        Check.due("no rooms", new DeadMonday().rest(0), -1);
        // empty rooms are all alike, together or not
        DeadMonday y = Check.house("room a;room b;");
        int[] all = {0, 1, 10, 11};
        Check.due("all rest", y.rests(), 4);
        for (int k = 0; k < 4; k++) Check.due("rest", y.rest(k), all[k]);
        Check.due("rest(4)", y.rest(4), -2);
        y.rope(0, true);
        Check.due("roped ones too", y.rests(), 4);
        // each likes a's thing 55 and b's 50; together in a each has 45: so they part
        DeadMonday z = Check.house("room a;room b;thing t a 0 1;thing u b 0 2;dead d 0 1 0 0;dead e 0 1 1 0;law like 60-age*5;");
        Check.due("they part", z.rests(), 2);
        Check.due("rest(0)", z.rest(0), 1);
        Check.due("rest(1)", z.rest(1), 10);
        // 60 and 50: together in a each has 50, and no more in b
        DeadMonday q = Check.house("room a;room b;thing t a 0 0;thing u b 0 2;dead d 0 1 0 0;dead e 0 1 1 0;law like 60-age*5;");
        Check.due("less ten for each thing", q.rests(), 3);
        for (int k = 0; k < 3; k++) Check.due("rest", q.rest(k), new int[] {0, 1, 10}[k]);
        // nobody of faction 1: it has nothing, or less than that together
        DeadMonday w = Check.house("room a;room b;thing t a 0 0;dead d 0 1 0 0;");
        Check.due("alone", w.rests(), 1);
        Check.due("rest(0)", w.rest(0), 1);
    }

    private static void ways() {
        DeadMonday x = Check.house("room a;room b;room c;room d;room e;room f;door a c;door c b;door b d;door d e;door a b;");
        int[][] want = {{0, 1, 1, 2, 3, -2}, {1, 0, 1, 1, 2, -2}, {1, 1, 0, 2, 3, -2}, {2, 1, 2, 0, 1, -2},
            {3, 2, 3, 1, 0, -2}, {-2, -2, -2, -2, -2, 0}};
        for (int a = 0; a < 6; a++) for (int b = 0; b < 6; b++) Check.due("way(" + a + ", " + b + ")", x.way(a, b), want[a][b]);
        DeadMonday y = Check.house("room a;room b;room c;room d;room e;room f;door a b;door b c;door c d;door d e;door e f;");
        Check.due("five doors", y.way(0, 5), 5);
        y.rope(2, true);
        Check.due("ropes don't count", y.way(5, 0), 5);
        Check.due("way(0, 6)", y.way(0, 6), -1);
        Check.due("way(6, 6)", y.way(6, 6), -1);
        Check.due("way(-1, 0)", y.way(-1, 0), -1);
    }

    private static void fraction(DeadMonday x, int dead, int n, int k, long above, long below) {
        Check.due("likely above", x.likely(dead, n, k, 0), above);
        Check.due("likely below", x.likely(dead, n, k, 1), below);
    }

    private static void likely() {
        DeadMonday x = Check.house("dead d 0 0 0 40;dead e 0 0 0 0;dead f 0 0 0 100;dead g 0 0 0 50;dead h 0 0 0 99;law come 0;");
        fraction(x, 0, 2, 1, 12, 25);
        fraction(x, 0, 0, 0, 1, 1);
        fraction(x, 1, 8, 8, 1, 1);
        fraction(x, 1, 8, 7, 0, 1);
        fraction(x, 2, 3, 0, 1, 1);
        fraction(x, 2, 3, 1, 0, 1);
        fraction(x, 3, 8, 4, 35, 128);
        fraction(x, 4, 8, 8, 1, 10000000000000000L);
        // 8 times 99 by 100 to the 8: both by 8
        fraction(x, 4, 8, 7, 99, 1250000000000000L);
        int[][] wrong = {{5, 1, 1, 0}, {-1, 1, 1, 0}, {0, 9, 1, 0}, {0, -1, 0, 0}, {0, 2, 3, 0}, {0, 2, -1, 0}, {0, 1, 1, 2}, {0, 1, 1, -1}};
        for (int[] w : wrong) Check.due("likely", x.likely(w[0], w[1], w[2], w[3]), -1);
    }

    private static void shunnedAndLoved() {
        DeadMonday x = Check.house(NowTest.HALL);
        Check.due("none is shunned", x.shunned(), 0);
        Check.due("loved", x.loved(0), 0);
        Check.due("by", x.loved(1), 90);
        Check.due("loved(2)", x.loved(2), -1);
        Check.due("loved(-1)", x.loved(-1), -1);
        DeadMonday y = Check.house("room a;thing t a 0 9;thing u a 0 5;thing v a 0 4;thing w a 0 0;dead d 0 1 0 0;dead e 1 1 0 0;");
        // t 5 and 10, u 25 and 30, v 30 and 35, w 50 and 45
        Check.due("shunned", y.shunned(), 1);
        Check.due("loved", y.loved(0) * 1000 + y.loved(1), 3095);
        DeadMonday z = Check.house("room a;thing t a 0 9;thing u a 0 5;thing v a 0 9;dead d 0 1 0 0;");
        Check.due("29 and less", z.shunned(), 7);
        DeadMonday w = Check.house("room a;thing t a 0 9;thing u a 0 9;dead d 9 1 0 0;");
        Check.due("the first of several", w.loved(0), 0);
        DeadMonday nobody = Check.house("room a;thing t a 0 9;thing u a 0 9;");
        Check.due("what nobody likes", nobody.shunned(), 3);
        Check.due("loved by nobody", nobody.loved(0) * 10 + nobody.loved(1), 0);
        Check.due("no things", new DeadMonday().loved(0), -1);
        Check.due("no things", new DeadMonday().loved(1), -1);
        Check.due("no things", new DeadMonday().shunned(), 0);
    }

    public static void main(String[] args) {
        hanging();
        steer();
        split();
        ways();
        likely();
        shunnedAndLoved();
        Check.end("PlanTest");
    }
}
