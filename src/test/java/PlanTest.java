/** What could be hung, chosen, walked, hoped for: Terms of ==== 3, promises 22 to 27, 29, 30. */
public final class PlanTest {
    private static final int[] FAR = NowTest.FAR;

    /** The ROOMS of the first four THINGS as digits. */
    private static int hung(DeadMonday x) {
        int digits = 0;
        for (int t = 0; t < 4 && t < x.count(2); t++) digits = digits * 10 + x.hanging(t);
        return digits;
    }

    // ---- HANGING

    @Says("HANGING: ROOMS for the first four THINGS (the others as they are)")
    static void firstFourThings() {
        // two of 50 in b draw the first four there
        String six = "room a;room b;thing t a 0 0;thing u a 0 0;thing v a 0 0;thing w a 0 0;thing x b 0 0;thing y b 0 0;";
        DeadMonday x = Check.house(six + "dead d 0 1 0 0;");
        Check.due("all to b", hung(x), 1111);
        Check.due("six liked", x.hanging(4), 300);
        x.hang(5, 0);
        Check.due("one of the others in each", hung(x), 0);
        Check.due("five liked", x.hanging(4), 250);
        x.hang(4, 0);
        Check.due("both in a", hung(x) * 1000 + x.hanging(4), 300);
        // all four to b, but e is best by what stays in a
        DeadMonday two = Check.house("room a;room b;thing t a 0 0;thing u a 0 0;thing v a 0 0;thing w a 0 0;thing x b 0 0;thing y a 1 0;"
            + "dead d 0 0 0 0;dead e 0 1 0 0;law like (kind=fond)*10;");
        Check.due("d by five, e by one", hung(two) * 1000 + two.hanging(4), 1111060);
        // as much of all as there may be
        DeadMonday full = Check.house(Check.FULL + "law like 10+warm;law bear 0;");
        Check.due("all to f, where three are", hung(full) * 1000 + full.hanging(4), 5555000 + 6 * 7 * 10);
        full.rope(5, true);
        Check.due("all to e, where one is", hung(full) * 1000 + full.hanging(4), 4444000 + 6 * 5 * 10);
        // just five: the fifth one stays
        DeadMonday y = Check.house("room a;room b;thing t a 0 0;thing u a 0 0;thing v a 0 0;thing w a 0 0;thing x b 0 0;dead d 0 1 0 0;");
        Check.due("to the fifth", hung(y) * 1000 + y.hanging(4), 1111250);
        // just four, wherever they are: the first room
        DeadMonday z = Check.house("room a;room b;room c;thing t c 0 0;thing u c 0 0;thing v c 0 0;thing w c 0 0;dead d 0 1 0 0;");
        Check.due("four", hung(z) * 1000 + z.hanging(4), 200);
    }

    @Says("by which LIKING of each of the DEAD for the ROOM where it would SIT (COMING or not) is most in sum,")
    static void mostInSum() {
        // d has y in a, and would have t, too; e has x in b: each sits by its own
        String apart = "room a;room b;thing t b 0 1;thing u b 0 0;thing v b 0 0;thing w b 0 0;thing x b 5 3;thing y a 1 2;"
            + "dead d 1 0 0 100;dead e 2 0 0 100;law like (taste=1)*(age=1)*9+(taste=1)*(age=2)*40+(taste=2)*(age=3)*70;";
        DeadMonday q = Check.house(apart);
        Check.due("nobody comes", q.comes(), 0);
        Check.due("each by its own", q.hanging(4), 119);
        Check.due("t to a", hung(q), 0);
        q.rope(1, true);
        Check.due("without b", q.hanging(4), 49);
        q.rope(0, true);
        q.rope(1, false);
        Check.due("without a", q.hanging(4) * 10 + q.hanging(0), 791);
        // by how warm the room would be
        DeadMonday z = Check.house("room a;room b;thing t b 0 0;dead d 0 1 0 0;law like 10+warm*5;");
        z.go(2);
        Check.due("in the warm one", z.hanging(0) * 100 + z.hanging(4), 120);
        DeadMonday w = Check.house("room a;room b;thing t a 0 0;dead d 0 1 0 0;law like 50-warm*5;");
        w.go(2);
        Check.due("in the other one", w.hanging(0) * 100 + w.hanging(4), 150);
        // roped ones are no place to sit
        DeadMonday x = Check.house(NowTest.HALL);
        x.rope(0, true);
        Check.due("not in a roped one", hung(x) * 1000 + x.hanging(4), 111240);
        x.rope(1, true);
        Check.due("nor there", hung(x) * 1000 + x.hanging(4), 222240);
        x.rope(2, true);
        Check.due("all roped", hung(x) * 1000 + x.hanging(4), 0);
    }

    @Says("of several the first by THINGS.")
    static void firstByThings() {
        Check.due("nobody", hung(Check.house("room a;room b;thing t b 0 0;thing u b 0 0;")), 0);
        Check.due("all alike", hung(Check.house("room a;room b;thing t b 0 0;thing u b 0 0;dead d 0 0 0 0;law like 0;")), 0);
        // d likes t alone, e u alone: any rooms will do
        String two = "room a;room b;room c;thing t c 0 0;thing u c 1 0;dead d 0 0 0 0;dead e 0 1 0 0;law like (kind=fond)*50;";
        Check.due("both in the first one", hung(Check.house(two)), 0);
        // with v in b they are all best there, then the first thing that can be elsewhere is
        DeadMonday x = Check.house("room a;room b;thing t b 5 0;thing u b 0 0;thing v b 5 0;thing w b 5 0;thing x b 0 0;dead d 0 0 0 0;law like (kind=0)*50;");
        Check.due("t to a, u to b, v, w to a", hung(x) * 1000 + x.hanging(4), 100100);
        // a roped first room is as good for what nobody likes
        x.rope(0, true);
        Check.due("a roped one, too", hung(x), 100);
    }

    @Says(promise = 22, value = "HANGING, what 0 .. 3: the ROOM of the first THING, and so on (-2: not so many), 4: LIKING in sum.")
    static void hanging() {
        DeadMonday x = Check.house(NowTest.HALL);
        String seen = Check.seen(x);
        int[] want = {0, 0, 0, -2, 240};
        for (int what = 0; what <= 4; what++) Check.due("hanging(" + what + ")", x.hanging(what), want[what]);
        Check.same("nothing changes", Check.seen(x), seen);
        String things = "";
        for (int t = 0; t <= 5; t++) {
            DeadMonday y = Check.house("room a;" + things + "dead d 0 1 0 0;");
            for (int what = 0; what <= 3; what++) Check.due("hanging(" + what + ") of " + t, y.hanging(what), what < t ? 0 : -2);
            Check.due("liking of " + t, y.hanging(4), 50 * t);
            things += "thing t" + (char) ('a' + t) + " a 0 0;";
        }
    }

    @Says(promise = 22, value = "NONE for another what, no ROOMS.")
    static void noSuchHanging() {
        DeadMonday x = Check.house(NowTest.HALL);
        Check.due("hanging(5)", x.hanging(5), -1);
        for (int what : FAR) Check.due("hanging(" + what + ")", x.hanging(what), -1);
        for (int what = 0; what <= 5; what++) {
            Check.due("of a new object", new DeadMonday().hanging(what), -1);
            Check.due("no rooms", Check.house("dead d 0 0 0 0;").hanging(what), -1);
        }
    }

    // ---- STEER

    @Says("STEER of one of the DEAD and a ROOM: the fewest THINGS not in it (bits, of several the least) to be hung in it now so that this one would SIT there.")
    static void fewestThings() {
        // b has 50 and must be above a's 150: one isn't enough, of several the least bits
        DeadMonday y = Check.house("room a;room b;thing t a 0 0;thing u a 0 0;thing v a 0 0;thing w b 0 0;dead d 0 1 0 0;");
        Check.due("two", y.steer(0, 1), 3);
        // t 2, u 2, v 60, w 60: t and v make 62 of 62 in b, which isn't more; t, u, v would do, but v, w are fewer
        DeadMonday x = Check.house("room a;room b;thing t a 0 9;thing u a 0 9;thing v a 0 0;thing w a 0 0;dead d 0 1 0 0;law like 20-age*2+(age=0)*40;");
        Check.due("v and w", x.steer(0, 1), 12);
        DeadMonday w = Check.house("room a;room b;thing t a 0 1;thing u a 0 1;thing v a 0 9;dead d 0 1 0 0;law like age*10;");
        Check.due("v alone", w.steer(0, 1), 4);
        // a tie is enough for a room ahead, not for one behind
        DeadMonday z = Check.house("room a;room b;thing t b 0 0;thing u b 0 0;dead d 0 1 0 0;");
        Check.due("a tie is enough for a", z.steer(0, 0), 1);
        z.hang(0, 0);
        z.hang(1, 0);
        Check.due("not for b", z.steer(0, 1), 3);
        // THINGS of all other ROOMS, roped ones too
        DeadMonday v = Check.house("room a;room b;room c;thing t b 0 0;thing u b 0 0;thing q a 0 0;thing w c 0 0;dead d 0 1 0 0;");
        v.rope(1, true);
        Check.due("out of a roped one", v.steer(0, 2), 1);
        // all eight of them
        String eight = "room a;room b;";
        for (char c = 'a'; c <= 'h'; c++) eight += "thing t" + c + " a 0 0;";
        Check.due("five of eight", Check.house(eight + "dead d 0 1 0 0;").steer(0, 1), 31);
        // b is warm by 1: each is liked 1 there, 20 in a
        DeadMonday all = Check.house(eight + "dead d 0 1 0 0;law like 20-warm*19;law bear 0;");
        all.rope(0, true);
        all.go(1);
        all.rope(0, false);
        Check.due("all of them", all.steer(0, 1), 255);
        // by how warm it would be there
        DeadMonday q = Check.house("room a;room b;thing t a 0 0;thing u b 0 1;dead d 0 1 0 0;law like 20-warm*6;");
        q.go(1);
        // a is warm now: both are liked 20 in b, 14 in a
        Check.due("where it would be", q.sits(0) * 10 + q.steer(0, 0), 12);
    }

    @Says(promise = 23, value = "STEER (bits; 0: it would);")
    static void steer() {
        DeadMonday x = Check.house(NowTest.HALL);
        String seen = Check.seen(x);
        Check.due("it would", x.steer(0, 0), 0);
        Check.due("den", x.steer(0, 1), 1);
        Check.due("loft", x.steer(0, 2), 1);
        // bo: bust 20, rug 65, urn 35
        Check.due("bo to the den by the rug", x.steer(1, 1), 2);
        Check.due("bo to the loft by the rug", x.steer(1, 2), 2);
        Check.same("nothing changes", Check.seen(x), seen);
        x.rope(0, true);
        Check.due("it would, as that is roped", x.steer(1, 1), 0);
        Check.due("without things", Check.house("room a;room b;dead d 0 0 0 0;").steer(0, 0), 0);
    }

    @Says(promise = 23, value = "-2: by none (it is ROPED, too);")
    static void steeredByNone() {
        Check.due("by none", Check.house("room a;room b;thing t a 0 0;dead d 0 1 0 0;law like 0;").steer(0, 1), -2);
        Check.due("without things", Check.house("room a;room b;dead d 0 0 0 0;").steer(0, 1), -2);
        DeadMonday x = Check.house(NowTest.HALL);
        x.rope(2, true);
        Check.due("roped", x.steer(1, 2), -2);
        x.rope(0, true);
        Check.due("where it would sit otherwise", x.steer(0, 0), -2);
        x.rope(1, true);
        for (int r = 0; r < 3; r++) Check.due("all roped", x.steer(0, r), -2);
    }

    @Says(promise = 23, value = "NONE: no such ones.")
    static void noSuchSteer() {
        DeadMonday x = Check.house(NowTest.HALL);
        x.rope(0, true);
        Check.due("steer(2, 0)", x.steer(2, 0), -1);
        Check.due("steer(0, 3)", x.steer(0, 3), -1);
        for (int far : FAR) {
            Check.due("steer(" + far + ", 0)", x.steer(far, 0), -1);
            Check.due("steer(0, " + far + ")", x.steer(0, far), -1);
        }
        Check.due("of a new object", new DeadMonday().steer(0, 0), -1);
        Check.due("no rooms", Check.house("dead d 0 0 0 0;").steer(0, 0), -1);
    }

    // ---- SPLIT

    @Says("SPLIT: each FACTION chooses a ROOM: it has LIKING of all its DEAD for it now in sum, less 10 for each THING there, if both choose the same one.")
    static void shares() {
        String rooms = "room a;room b;";
        String rest = "dead d 0 1 0 0;dead e 0 1 1 0;law like 60-age*5;";
        // a's is liked 55, b's 50: together in a each has 45, so they part
        DeadMonday x = Check.house(rooms + "thing t a 0 1;thing u b 0 2;" + rest);
        Check.due("they part", x.rests() * 10000 + x.rest(0) * 100 + x.rest(1), 20110);
        // 60 and 50: together in a each has 50, and no more in b
        DeadMonday y = Check.house(rooms + "thing t a 0 0;thing u b 0 2;" + rest);
        Check.due("less ten for one thing", y.rests(), 3);
        // 59 and 49: the same; 60 and 49: together in a
        Check.due("better together", Check.house(rooms + "thing t a 0 0;thing u b 0 2;dead d 0 1 0 0;dead e 0 1 1 0;law like 60-age*5-(age=2);").rests(), 1);
        // two in a: less twenty
        DeadMonday z = Check.house(rooms + "thing t a 0 8;thing v a 0 8;thing u b 0 8;" + rest);
        Check.due("less ten for each thing", z.rests() * 10000 + z.rest(0) * 100 + z.rest(1), 30000 + 1);
        // of all its DEAD: two of faction 0
        DeadMonday w = Check.house(rooms + "thing t a 0 1;thing u b 0 2;dead d 0 1 0 0;dead f 0 1 0 0;dead e 0 1 1 0;law like 60-age*5;");
        // faction 0 has 110 in a, 100 in b, 100 together in a; faction 1 has 45 together in a, 50 in b
        Check.due("of two", w.rests() * 10000 + w.rest(0) * 100 + w.rest(1), 20110);
        // now: by what is hung
        w.hang(0, 1);
        Check.due("both in b", w.rests() * 100 + w.rest(0), 111);
    }

    @Says("A REST: neither would have more in another one.")
    static void rest() {
        // nobody of faction 1: it has nothing, and less than that together
        DeadMonday w = Check.house("room a;room b;thing t a 0 0;dead d 0 1 0 0;");
        Check.due("alone", w.rests() * 100 + w.rest(0), 101);
        DeadMonday v = Check.house("room a;room b;thing t a 0 0;dead d 0 1 1 0;");
        Check.due("the other way", v.rests() * 100 + v.rest(0), 110);
        // as much isn't more
        Check.due("all alike", Check.house("room a;room b;room c;").rests(), 9);
        // each has its own
        DeadMonday x = Check.house("room a;room b;thing t a 0 0;thing u b 1 0;dead d 0 1 0 0;dead e 0 0 1 0;law like (kind=fond)*50;");
        Check.due("each its own", x.rests() * 100 + x.rest(0), 110);
    }

    @Says("RESTS: by FACTION 0's, then FACTION 1's (ROPED ones too).")
    static void inTheirOrder() {
        DeadMonday y = Check.house("room a;room b;");
        int[] all = {0, 1, 10, 11};
        for (int k = 0; k < 4; k++) Check.due("rest(" + k + ")", y.rest(k), all[k]);
        y.rope(0, true);
        y.rope(1, true);
        Check.due("roped ones too", y.rests(), 4);
        for (int k = 0; k < 4; k++) Check.due("rest(" + k + ")", y.rest(k), all[k]);
        DeadMonday z = Check.house("room a;room b;room c;room d;room e;room f;");
        for (int k = 0; k < 36; k++) Check.due("of six rooms", z.rest(k), k / 6 * 10 + k % 6);
    }

    @Says(promise = 24, value = {"How many RESTS SPLIT has;", "NONE: no ROOMS."})
    static void rests() {
        Check.due("one", Check.house(NowTest.HALL).rests(), 1);
        Check.due("of one room", Check.house("room a;").rests(), 1);
        Check.due("of six empty rooms", Check.house("room a;room b;room c;room d;room e;room f;").rests(), 36);
        Check.due("of a new object", new DeadMonday().rests(), -1);
        Check.due("no rooms", Check.house("dead d 0 0 0 0;").rests(), -1);
        // who can't rest: one would be alone, the other one would not, of things liked alike
        DeadMonday x = Check.house("room a;room b;thing t a 0 0;thing u b 0 0;dead d 0 0 0 0;dead e 0 0 1 0;law like 5;");
        Check.due("two, apart", x.rests(), 2);
    }

    @Says(promise = 25, value = "The k-th: ten times FACTION 0's ROOM and FACTION 1's;")
    static void kthRest() {
        DeadMonday x = Check.house("room a;room b;room c;room d;room e;room f;thing t f 0 0;thing u e 1 0;dead d 0 0 0 0;dead e 0 1 1 0;law like (kind=fond)*50;");
        Check.due("f and e", x.rest(0), 54);
        Check.due("one", x.rests(), 1);
        x.ahead(3, 1, 0);
        x.hang(1, 0);
        Check.due("f and a", x.rest(0), 50);
        DeadMonday full = Check.house(Check.FULL + "law like (age=9 and taste<7)*50+(age=8 and taste=7)*50;");
        Check.due("b and d", full.rest(0), 13);
        Check.due("from 0 on", Check.house("room a;").rest(0), 0);
    }

    @Says(promise = 25, value = "-2: there are no so many;")
    static void noSoMany() {
        DeadMonday x = Check.house("room a;room b;");
        Check.due("rest(3)", x.rest(3), 11);
        for (int k : new int[] {4, 5, 36, 37, Integer.MAX_VALUE}) Check.due("rest(" + k + ")", x.rest(k), -2);
        DeadMonday y = Check.house("room a;room b;room c;room d;room e;room f;");
        Check.due("rest(35)", y.rest(35), 55);
        Check.due("rest(36)", y.rest(36), -2);
    }

    @Says(promise = 25, value = "NONE likewise, k is below 0.")
    static void noSuchRest() {
        DeadMonday x = Check.house("room a;room b;");
        for (int k : new int[] {-1, -2, Integer.MIN_VALUE}) {
            Check.due("rest(" + k + ")", x.rest(k), -1);
            Check.due("of a new object", new DeadMonday().rest(k), -1);
        }
        for (int k : new int[] {0, 1, Integer.MAX_VALUE}) Check.due("no rooms", Check.house("dead d 0 0 0 0;").rest(k), -1);
    }

    // ---- WAY

    @Says("WAY: the fewest DOORS from a ROOM to another one.")
    static void fewestDoors() {
        DeadMonday x = Check.house("room a;room b;room c;room d;room e;room f;door a c;door c b;door b d;door d e;door a b;");
        int[][] want = {{0, 1, 1, 2, 3, -2}, {1, 0, 1, 1, 2, -2}, {1, 1, 0, 2, 3, -2}, {2, 1, 2, 0, 1, -2},
            {3, 2, 3, 1, 0, -2}, {-2, -2, -2, -2, -2, 0}};
        for (int a = 0; a < 6; a++) for (int b = 0; b < 6; b++) Check.due("way(" + a + ", " + b + ")", x.way(a, b), want[a][b]);
    }

    @Says(promise = 26, value = "WAY;")
    static void way() {
        DeadMonday y = Check.house("room a;room b;room c;room d;room e;room f;door a b;door b c;door c d;door d e;door e f;");
        for (int a = 0; a < 6; a++) for (int b = 0; b < 6; b++) Check.due("way(" + a + ", " + b + ")", y.way(a, b), Math.abs(a - b));
        y.rope(2, true);
        Check.due("ropes don't count", y.way(5, 0), 5);
    }

    @Says(promise = 26, value = "-2: there is none;")
    static void noWay() {
        DeadMonday x = Check.house("room a;room b;room c;room d;door a b;door c d;");
        Check.due("to the other two", x.way(0, 2) + x.way(0, 3) + x.way(1, 2) + x.way(3, 1), -8);
        Check.due("without doors", Check.house("room a;room b;").way(0, 1), -2);
        Check.due("to itself there is", Check.house("room a;room b;").way(1, 1), 0);
    }

    @Says(promise = 26, value = "NONE: no such ones.")
    static void noSuchWay() {
        DeadMonday x = Check.house(NowTest.HALL);
        Check.due("way(0, 3)", x.way(0, 3), -1);
        Check.due("way(3, 0)", x.way(3, 0), -1);
        Check.due("way(3, 3)", x.way(3, 3), -1);
        for (int far : FAR) {
            Check.due("way(0, " + far + ")", x.way(0, far), -1);
            Check.due("way(" + far + ", 0)", x.way(far, 0), -1);
            Check.due("way(" + far + ", " + far + ")", x.way(far, far), -1);
        }
        Check.due("of a new object", new DeadMonday().way(0, 0), -1);
    }

    // ---- LIKELY

    private static void fraction(DeadMonday x, int dead, int n, int k, long above, long below) {
        Check.due("likely(" + dead + ", " + n + ", " + k + ") above", x.likely(dead, n, k, 0), above);
        Check.due("likely(" + dead + ", " + n + ", " + k + ") below", x.likely(dead, n, k, 1), below);
    }

    @Says("LIKELY: one COMES just k times on n MONDAYS 0 .. 8, if each time GAUGE is one of 0 .. 99, alike likely (as without a law): as a fraction.")
    static void asAFraction() {
        DeadMonday x = Check.house("dead d 0 0 0 40;dead e 0 0 0 0;dead f 0 0 0 100;dead g 0 0 0 99;dead h 0 0 0 1;law come 0;glass 0;");
        // 60 of the 100 are fair
        fraction(x, 0, 1, 1, 3, 5);
        fraction(x, 0, 1, 0, 2, 5);
        fraction(x, 0, 2, 0, 4, 25);
        fraction(x, 0, 2, 1, 12, 25);
        fraction(x, 0, 2, 2, 9, 25);
        // of 0 .. 99 all are fair, none is, one is, all but one are
        for (int n = 0; n <= 8; n++) {
            fraction(x, 1, n, n, 1, 1);
            fraction(x, 2, n, 0, 1, 1);
            if (n > 0) fraction(x, 1, n, n - 1, 0, 1);
            if (n > 0) fraction(x, 2, n, 1, 0, 1);
        }
        fraction(x, 3, 1, 1, 1, 100);
        fraction(x, 4, 1, 0, 1, 100);
        fraction(x, 3, 8, 8, 1, 10000000000000000L);
        // 99 to the 8, of 100 to the 8
        fraction(x, 3, 8, 0, 9227446944279201L, 10000000000000000L);
        fraction(x, 4, 8, 8, 9227446944279201L, 10000000000000000L);
    }

    @Says(promise = 27, value = "LIKELY (n 0 .. 8, k 0 .. n) in least terms, what 0: the number above, 1: the one below.")
    static void likely() {
        DeadMonday x = Check.house("dead d 0 0 0 50;dead e 0 0 0 99;");
        // a coin thrown n times
        long[][] throwsOf = {{1}, {1, 1}, {1, 2, 1}, {1, 3, 3, 1}, {1, 4, 6, 4, 1}, {1, 5, 10, 10, 5, 1}, {1, 6, 15, 20, 15, 6, 1},
            {1, 7, 21, 35, 35, 21, 7, 1}, {1, 8, 28, 56, 70, 56, 28, 8, 1}};
        for (int n = 0; n <= 8; n++) {
            for (int k = 0; k <= n; k++) {
                long two = Math.min(Long.lowestOneBit(throwsOf[n][k]), 1L << n);
                fraction(x, 0, n, k, throwsOf[n][k] / two, (1L << n) / two);
            }
        }
        // 8 times 99 by 100 to the 8: both by 8
        fraction(x, 1, 8, 7, 99, 1250000000000000L);
        x.go(3);
        fraction(x, 0, 8, 4, 35, 128);
    }

    @Says(promise = 27, value = "NONE: no such ones.")
    static void noSuchLikely() {
        DeadMonday x = Check.house("dead d 0 0 0 50;");
        for (int what = 0; what <= 1; what++) {
            Check.due("no such dead", x.likely(1, 1, 1, what), -1);
            Check.due("n 9", x.likely(0, 9, 1, what), -1);
            Check.due("k above n", x.likely(0, 2, 3, what), -1);
            Check.due("k above 0", x.likely(0, 0, 1, what), -1);
            for (int far : FAR) {
                Check.due("dead " + far, x.likely(far, 1, 1, what), -1);
                Check.due("n " + far, x.likely(0, far, 0, what), -1);
                Check.due("k " + far, x.likely(0, 2, far, what), -1);
            }
        }
        Check.due("what 2", x.likely(0, 1, 1, 2), -1);
        for (int what : FAR) Check.due("what " + what, x.likely(0, 1, 1, what), -1);
        Check.due("of a new object", new DeadMonday().likely(0, 0, 0, 0), -1);
    }

    // ---- SHUNNED, BEST LOVED

    @Says("SHUNNED: THINGS (bits) that each of the DEAD LIKES below 30.")
    static void likedByNone() {
        String four = "room a;thing t a 0 0;thing u a 0 1;thing v a 0 2;thing w a 0 3;dead d 0 0 0 0;dead e 1 0 0 100;law like ";
        Check.due("29, 30", Check.house(four + "28+age;").shunned(), 3);
        Check.due("each of them", Check.house(four + "29+(age=taste);").shunned(), 12);
        Check.due("all", Check.house(four + "29;").shunned(), 15);
        Check.due("none", Check.house(four + "30;").shunned(), 0);
        DeadMonday y = Check.house("room a;thing t a 0 9;thing u a 0 5;thing v a 0 4;thing w a 0 0;dead d 0 1 0 0;dead e 1 1 0 0;");
        // t 5 and 10, u 25 and 30, v 30 and 35, w 50 and 45
        Check.due("without a law", y.shunned(), 1);
    }

    @Says(promise = 29, value = "SHUNNED (bits).")
    static void shunned() {
        Check.due("none", Check.house(NowTest.HALL).shunned(), 0);
        Check.due("of a new object", new DeadMonday().shunned(), 0);
        Check.due("what nobody likes, if there is nobody", Check.house("room a;thing t a 0 9;thing u a 0 9;").shunned(), 3);
        Check.due("though there is no other one to like it", Check.house("room a;thing t a 0 0;").shunned(), 1);
        Check.due("no things", Check.house("room a;dead d 0 0 0 0;").shunned(), 0);
        Check.due("of all that there may be", Check.house(Check.FULL + "law like 29+(age=6 and taste=7);").shunned(), 127);
        String eight = "room a;";
        for (char c = 'a'; c <= 'h'; c++) eight += "thing t" + c + " a 0 " + (c == 'h' ? 9 : 0) + ";";
        Check.due("the eighth", Check.house(eight + "dead d 0 1 0 0;").shunned(), 128);
        DeadMonday x = Check.house("room a;room b;thing t a 0 0;thing u b 0 0;dead d 0 0 0 0;law like 30-warm;law bear 0;");
        x.go(1);
        Check.due("as it is now", x.shunned(), 1);
    }

    @Says("BEST LOVED: the THING with most LIKING of all in sum, the first of several.")
    static void mostLiking() {
        DeadMonday x = Check.house("room a;thing t a 0 9;thing u a 0 5;thing v a 0 4;thing w a 0 0;dead d 0 1 0 0;dead e 1 1 0 0;");
        Check.due("w", x.loved(0) * 1000 + x.loved(1), 3095);
        DeadMonday y = Check.house("room a;thing t a 0 9;thing u a 0 4;thing v a 0 4;dead d 4 1 0 0;");
        Check.due("the first of several", y.loved(0) * 1000 + y.loved(1), 1050);
        // the best of one isn't the best of all
        DeadMonday z = Check.house("room a;thing t a 0 0;thing u a 1 0;dead d 0 0 0 0;dead e 0 2 0 0;dead f 0 2 0 0;"
            + "law like (kind=0 and fond=0)*90+(kind=1 and fond=2)*50;");
        Check.due("in sum", z.loved(0) * 1000 + z.loved(1), 1100);
        Check.due("all 0", Check.house("room a;thing t a 0 0;thing u a 1 0;dead d 0 0 0 0;law like 0;").loved(0), 0);
    }

    @Says(promise = 30, value = "BEST LOVED, what 0: the THING, 1: LIKING in sum.")
    static void loved() {
        DeadMonday x = Check.house(NowTest.HALL);
        Check.due("the bust", x.loved(0), 0);
        Check.due("by", x.loved(1), 90);
        DeadMonday nobody = Check.house("room a;thing t a 0 9;thing u a 0 9;");
        Check.due("by nobody", nobody.loved(0) * 10 + nobody.loved(1), 0);
        DeadMonday y = Check.house("room a;thing t a 0 9;thing u a 0 9;dead a 0 0 0 0;dead b 0 0 0 0;dead c 0 0 0 0;dead d 0 0 0 0;"
            + "dead e 0 0 0 0;dead f 0 0 0 0;law like 99;");
        Check.due("six times 99", y.loved(1), 594);
        DeadMonday z = Check.house("room a;thing t a 0 9;dead d 0 1 0 0;");
        Check.due("the only one, though hardly", z.loved(0) * 10 + z.loved(1), 5);
        DeadMonday full = Check.house(Check.FULL + "law like 10+(age=6 and taste=7);");
        Check.due("the last of eight by the last of six", full.loved(0) * 100 + full.loved(1), 761);
    }

    @Says(promise = 30, value = "NONE for another what, no THINGS.")
    static void noSuchLoved() {
        DeadMonday x = Check.house(NowTest.HALL);
        Check.due("loved(2)", x.loved(2), -1);
        for (int what : FAR) Check.due("loved(" + what + ")", x.loved(what), -1);
        for (int what = 0; what <= 1; what++) {
            Check.due("of a new object", new DeadMonday().loved(what), -1);
            Check.due("no things", Check.house("room a;dead d 0 0 0 0;").loved(what), -1);
        }
    }

    public static void main(String[] args) throws ReflectiveOperationException {
        Check.run(PlanTest.class);
    }
}
