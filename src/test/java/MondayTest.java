/** Promises 16 to 21, 28, 35, 36: Mondays that go by, ahead, by chance and otherwise. */
public final class MondayTest {
    // d can't bear t, which is the only thing: it goes to and fro each Monday on which d comes
    private static final String TO_AND_FRO = "room a;room b;door a b;thing t a 0 9;dead d 0 1 0 50;";

    private static void go() {
        DeadMonday x = Check.house(NowTest.HALL);
        Check.due("go(0)", x.go(0), 0);
        Check.due("go(-1)", x.go(-1), -1);
        Check.due("go(100)", x.go(100), -1);
        Check.due("none went by", x.count(6), 0);
        Check.due("go(99)", x.go(99), 99);
        DeadMonday y = new DeadMonday();
        for (int k = 1; k <= 99; k++) y.go(99);
        Check.due("go(98)", y.go(98), 9899);
        Check.due("behind 9900", y.go(2), -1);
        Check.due("still there", y.count(6), 9899);
        Check.due("9900", y.go(1), 9900);
        Check.due("no more", y.go(1), -1);
        Check.due("none is fine", y.go(0), 9900);
    }

    private static void oneMonday() {
        // by numbers: what the first one moves, the second one finds elsewhere
        DeadMonday x = Check.house("room a;room b;room c;door c a;door b a;thing t c 0 9;thing u b 3 0;"
            + "dead d 9 0 0 0;dead e 0 1 0 0;law like 99-age*11+warm-taste;law bear 25;");
        // d: t 0 (99-99+0-9 < 0), u 90: sits in b, likes u; e: t 0, u 99: b too
        Check.due("sits", x.sits(0) * 10 + x.sits(1), 11);
        x.hang(1, 2);
        // now both are in c: d sits in c, likes t least (0 + 1 - 9 below 0), takes it to a (first by numbers)
        x.go(1);
        Check.due("t", x.thing(0, 0) * 10 + x.thing(0, 3), 1);
        Check.due("u stays", x.thing(1, 0) * 10 + x.thing(1, 3), 20);
        Check.due("warm", x.room(2, 0), 2);
        Check.due("came", x.dead(0, 4) + x.dead(1, 4), 2);
        // the first of several that are liked least
        DeadMonday y = Check.house("room a;room b;door a b;thing t a 0 5;thing u a 1 5;dead d 0 5 0 0;");
        y.go(1);
        Check.due("the first of several", y.thing(0, 0) * 10 + y.thing(1, 0), 10);
        // the first room by numbers, roped too
        DeadMonday z = Check.house("room a;room b;room c;door b c;door b a;thing t b 0 9;dead d 0 1 0 0;");
        z.rope(0, true);
        z.rope(2, true);
        z.go(1);
        Check.due("into the roped first one", z.thing(0, 0), 0);
    }

    private static void bearing() {
        String one = "room a;thing t a 2 4;dead d 1 0 0 0;";
        // liking 35
        Check.due("bears 35 without a law", Check.house(one).ahead(1, 2, 0), 0);
        Check.due("30 is borne", Check.house("room a;thing t a 2 5;dead d 1 0 0 0;").ahead(1, 2, 0), 0);
        Check.due("25 is not", Check.house("room a;thing t a 2 6;dead d 1 0 0 0;").ahead(1, 2, 0), 1);
        Check.due("bear 35", Check.house(one + "law bear 35;").ahead(1, 2, 0), 0);
        Check.due("bear 36", Check.house(one + "law bear 36;").ahead(1, 2, 0), 1);
        Check.due("bear with an error", Check.house(one + "law bear 99/0;").ahead(1, 2, 0), 0);
        Check.due("bear of kind, age", Check.house(one + "law bear (kind=2 and age=4 and taste=1 and fond=0)*36;").ahead(1, 2, 0), 1);
        Check.due("behind being warmer", Check.house(one + "law bear 35+warm;").ahead(1, 2, 0), 1);
        Check.due("liking behind being warmer", Check.house(one + "law like 29+warm;").ahead(1, 2, 0), 0);
        Check.due("liking behind being warmer", Check.house(one + "law like 30-warm;").ahead(1, 2, 0), 1);
        // 0 and 99 are the ends of liking
        Check.due("bears 0", Check.house(one + "law like 0-5;law bear 0;").ahead(1, 2, 0), 0);
        Check.due("100 is more than all", Check.house(one + "law like 500;law bear 200;").ahead(1, 2, 0), 1);
    }

    private static void coming() {
        DeadMonday x = Check.house(NowTest.HALL);
        Check.due("comes", x.comes(), 1);
        x.go(1);
        Check.due("comes on the next", x.comes(), 3);
        Check.due("gauge is fair", Check.house("dead d 0 0 0 50;dead e 0 0 0 51;").comes(), 1);
        Check.due("come of a law", Check.house("dead d 3 0 0 0;dead e 4 0 0 0;law come taste-3;").comes(), 2);
        Check.due("below 0 isn't 0", Check.house("dead d 3 0 0 0;law come 0-1;").comes(), 1);
        Check.due("with an error", Check.house("dead d 3 0 0 50;dead e 3 0 0 51;law come 1/0;").comes(), 1);
        Check.due("nobody", new DeadMonday().comes(), 0);
        DeadMonday y = Check.house("room a;dead d 3 0 0 0;law come monday=2 and warm=0 and age=0 and kind=0;");
        y.go(2);
        Check.due("on monday 2", y.comes(), 1);
        y.go(2);
        Check.due("came once", y.count(9), 1);
    }

    private static void sitting() {
        DeadMonday x = Check.house(NowTest.HALL);
        Check.due("ann", x.sits(0), 0);
        Check.due("bo", x.sits(1), 0);
        Check.due("sits(2)", x.sits(2), -1);
        Check.due("sits(-1)", x.sits(-1), -1);
        for (int r = 0; r < 3; r++) x.rope(r, true);
        Check.due("nowhere", x.sits(0), -2);
        Check.due("go", x.go(2), 2);
        Check.due("nobody came", x.count(9) + x.room(0, 0), 0);
        Check.due("no rooms", Check.house("dead d 0 0 0 0;").sits(0), -1);
        Check.due("the first of several", Check.house("room a;room b;dead d 0 0 0 0;").sits(0), 0);
        DeadMonday y = Check.house("room a;room b;thing t a 0 0;thing u b 0 0;dead d 0 1 0 0;");
        Check.due("the first of several", y.sits(0), 0);
        y.rope(0, true);
        Check.due("that isn't roped", y.sits(0), 1);
    }

    private static void ahead() {
        DeadMonday x = Check.house(TO_AND_FRO + "glass 50;glass 49;");
        for (int n = 0; n <= 60; n++) {
            int went = (n + 1) / 2;
            Check.due("where", x.ahead(n, 0, 0), went % 2);
            Check.due("moved", x.ahead(n, 1, 9), went);
            Check.due("turned", x.ahead(n, 2, -3), 0);
        }
        x.go(3);
        Check.due("more", x.ahead(4, 1, 0), 2);
        Check.due("nothing went by", x.count(6) * 10 + x.count(7), 32);
        int[][] wrong = {{-1, 0, 0}, {61, 0, 0}, {0, -1, 0}, {0, 3, 0}, {0, 0, 1}, {0, 0, -1}, {61, 1, 0}};
        for (int[] w : wrong) Check.due("ahead", x.ahead(w[0], w[1], w[2]), -1);
        Check.due("turned ahead", Check.house("room a;thing t a 0 9;dead d 0 1 0 0;").ahead(7, 2, 0), 7);
    }

    private static void quiet() {
        Check.due("never", Check.house(TO_AND_FRO).quiet(), -2);
        Check.due("not on this one", new DeadMonday().quiet(), 0);
        Check.due("on the second", Check.house(TO_AND_FRO + "glass 50;glass 0;").quiet(), 1);
        Check.due("a law", Check.house(TO_AND_FRO + "law come monday<5;").quiet(), 5);
        Check.due("99", Check.house(TO_AND_FRO + "law come monday<99;").quiet(), 99);
        Check.due("100 is too far", Check.house(TO_AND_FRO + "law come monday<100;").quiet(), -2);
        Check.due("turned counts", Check.house("room a;thing t a 0 9;dead d 0 1 0 0;law come monday<3;").quiet(), 3);
        DeadMonday x = Check.house(TO_AND_FRO + "law come monday<>7;");
        x.go(4);
        Check.due("from now", x.quiet(), 3);
    }

    private static void leastMoved() {
        DeadMonday x = Check.house(NowTest.HALL);
        Check.due("the rug", x.leastMoved(1, 3, 0), 1);
        Check.due("not at all", x.leastMoved(1, 3, 1), 0);
        DeadMonday y = Check.house("room a;room b;room c;door a b;thing t a 0 9;dead d 0 1 0 0;law come monday<3;");
        // in a and b it is moved three times, in c turned three times
        Check.due("the first of several", y.leastMoved(0, 60, 0), 0);
        Check.due("moved and turned", y.leastMoved(0, 60, 1), 3);
        Check.due("by n", y.leastMoved(0, 2, 1), 2);
        Check.due("by one", y.leastMoved(0, 1, 1), 1);
        y.rope(1, true);
        y.rope(2, true);
        // once in b it is out of sight
        Check.due("out of sight", y.leastMoved(0, 60, 0) * 10 + y.leastMoved(0, 60, 1), 10);
        Check.due("it stays", y.thing(0, 0), 0);
        int[][] wrong = {{1, 1, 0}, {-1, 1, 0}, {0, 0, 0}, {0, 61, 0}, {0, 1, 2}, {0, 1, -1}};
        for (int[] w : wrong) Check.due("leastMoved", y.leastMoved(w[0], w[1], w[2]), -1);
    }

    private static void tickets() {
        DeadMonday x = Check.house(NowTest.HALL);
        Check.due("tickets(1)", x.tickets(1), 1);
        Check.due("tickets(2)", x.tickets(2), 2);
        x.go(1);
        Check.due("on this one", x.tickets(1), 2);
        for (int r = 0; r < 3; r++) x.rope(r, true);
        Check.due("who can sit nowhere, too", x.tickets(9), 2);
        Check.due("tickets(0)", x.tickets(0), -1);
        Check.due("tickets(100)", x.tickets(100), -1);
        DeadMonday y = Check.house("dead d 0 0 0 0;dead e 0 0 0 0;dead f 1 0 0 0;law come monday=98 or monday=3 and taste;");
        Check.due("tickets(3)", y.tickets(3), 0);
        Check.due("tickets(4)", y.tickets(4), 1);
        Check.due("tickets(98)", y.tickets(98), 1);
        Check.due("tickets(99)", y.tickets(99), 3);
        Check.due("nothing went by", y.count(6), 0);
    }

    /** How often t is in b behind n Mondays, if it moves when the number modulo 100 is 50 at least. */
    private static int drawn(int seed, int n) {
        long last = seed;
        int there = 0;
        for (int k = 0; k < 10; k++) {
            boolean inB = false;
            for (int m = 0; m < n; m++) {
                last = (last * 1103515245L + 12345L) % 2147483648L;
                if (last / 65536L % 100L >= 50) inB = !inB;
            }
            if (inB) there++;
        }
        return there;
    }

    private static void chance() {
        DeadMonday x = Check.house(TO_AND_FRO + "glass 0;seed 9;");
        int[] seeds = {0, 1, 5, 99999, 123456789, Integer.MAX_VALUE};
        for (int seed : seeds) {
            for (int n = 1; n <= 60; n += n < 5 ? 1 : 11) {
                Check.due("chance(" + seed + ", " + n + ", 0, 1)", x.chance(seed, n, 0, 1), drawn(seed, n));
                Check.due("chance(" + seed + ", " + n + ", 0, 0)", x.chance(seed, n, 0, 0), 10 - drawn(seed, n));
            }
        }
        Check.due("nothing went by", x.count(6) + x.thing(0, 0), 0);
        int[][] wrong = {{-1, 1, 0, 0}, {0, 0, 0, 0}, {0, 61, 0, 0}, {0, 1, 1, 0}, {0, 1, -1, 0}, {0, 1, 0, 2}, {0, 1, 0, -1}};
        for (int[] w : wrong) Check.due("chance", x.chance(w[0], w[1], w[2], w[3]), -1);
        DeadMonday y = Check.house(TO_AND_FRO + "law come monday=3;");
        y.go(2);
        Check.due("mondays from now", y.chance(1, 1, 0, 1) * 100 + y.chance(1, 2, 0, 1), 10);
    }

    private static void tried() {
        DeadMonday x = Check.house(TO_AND_FRO + "thing u b 1 0;dead e 0 1 0 99;glass 60;");
        // u draws d to b, where it likes t (once there) least: but t stays in a
        Check.due("as it goes", x.tried(0, 0, 10), 0);
        Check.due("without thing 1", x.tried(5, 1, 10), 10);
        Check.due("without thing 0", x.tried(5, 0, 10), 0);
        x.rope(1, true);
        // d sits in a, takes t to b, sits on in a
        Check.due("roped", x.tried(0, 0, 10), 1);
        Check.due("no ropes", x.tried(1, 0, 10), 0);
        Check.due("without dead 0", x.tried(2, 0, 10), 0);
        Check.due("without dead 1", x.tried(2, 1, 10), 1);
        Check.due("all bear all", x.tried(4, 0, 10), 0);
        Check.due("n 0", x.tried(0, 0, 0), 0);
        DeadMonday y = Check.house(TO_AND_FRO + "dead e 0 1 0 99;glass 10;");
        Check.due("nobody comes", y.tried(0, 0, 60), 0);
        Check.due("all come", y.tried(3, 0, 60), 120);
        DeadMonday z = Check.house("room a;thing t a 0 9;dead d 0 1 0 0;");
        Check.due("turned, too", z.tried(0, 0, 5), 5);
        z.go(2);
        Check.due("from now", z.tried(0, 0, 5), 5);
        int[][] wrong = {{-1, 0, 1}, {6, 0, 1}, {0, 0, -1}, {0, 0, 61}, {0, 1, 1}, {1, 1, 1}, {3, -1, 1}, {4, 1, 1},
            {2, 1, 1}, {2, -1, 1}, {5, 1, 1}, {5, -1, 1}};
        for (int[] w : wrong) Check.due("tried", z.tried(w[0], w[1], w[2]), -1);
    }

    public static void main(String[] args) {
        go();
        oneMonday();
        bearing();
        coming();
        sitting();
        ahead();
        quiet();
        leastMoved();
        tickets();
        chance();
        tried();
        Check.end("MondayTest");
    }
}
