import java.math.BigInteger;

/** Mondays that go by, ahead, by chance and otherwise: Terms of ==== 2 and ==== 3, promises 16 to 21, 28, 35, 36. */
public final class MondayTest {
    // d can't bear t, which is the only thing: it goes to and fro each Monday on which d comes
    private static final String TO_AND_FRO = "room a;room b;door a b;thing t a 0 9;dead d 0 1 0 50;";
    // d likes t 35, and there is no door
    private static final String ALONE = "room a;thing t a 2 4;dead d 1 0 0 0;";
    private static final int[] FAR = NowTest.FAR;

    // ---- a MONDAY

    @Says("A MONDAY: (1) the GAUGE: glass of this MONDAY.")
    static void gaugeOfThisMonday() {
        DeadMonday x = Check.house("room a;dead d 0 0 0 50;glass 49;glass 50;glass 0;glass 99;");
        int[] came = {0, 0, 1, 1, 2, 2, 3, 3, 4};
        for (int m = 0; m < came.length; m++) {
            Check.due("came ahead of monday " + m, x.dead(0, 4), came[m]);
            x.go(1);
        }
        Check.due("of each one of many", Check.house("room a;dead d 0 0 0 99;glass 0;glass 1;glass 99;").go(7), 7);
        DeadMonday y = Check.house("room a;dead d 0 0 0 99;glass 0;glass 1;glass 99;");
        y.go(7);
        Check.due("came twice", y.dead(0, 4), 2);
        DeadMonday z = Check.house("room a;thing t a 0 0;dead d 0 0 0 0;glass 40;glass 20;law like gauge;");
        Check.due("liked by the glass", z.ahead(1, 2, 0) * 10 + z.ahead(2, 2, 0), 1);
    }

    @Says("E of come isn't 0")
    static void comesByLaw() {
        String two = "dead d 3 0 0 100;dead e 4 0 0 0;law come ";
        Check.due("0 and 1", Check.house(two + "taste-3;").comes(), 2);
        Check.due("0 and 0", Check.house(two + "0;").comes(), 0);
        Check.due("below 0", Check.house(two + "taste-4;").comes(), 1);
        Check.due("far beyond", Check.house(two + "1000*1000*1000*1000;").comes(), 3);
        Check.due("beyond an int, whose lower half is 0", Check.house(two + "256*256*256*256;").comes(), 3);
        Check.due("far below", Check.house(two + "0-1000*1000*1000*1000;").comes(), 3);
        DeadMonday x = Check.house("room a;dead d 3 0 0 0;law come monday=2;");
        x.go(5);
        Check.due("came once", x.count(9), 1);
    }

    @Says("(GAUGE is FAIR at least, without, with an ERROR):")
    static void comesByTheGlass() {
        for (String law : new String[] {"", "law come 1/0;", "law come 1000*1000*1000*1001;"}) {
            Check.due("at least", Check.house("glass 50;dead d 0 0 0 49;dead e 0 0 0 50;dead f 0 0 0 51;" + law).comes(), 3);
            Check.due("of the least glass", Check.house("glass 0;dead d 0 0 0 0;dead e 0 0 0 1;" + law).comes(), 1);
            Check.due("of the most", Check.house("glass 99;dead d 0 0 0 99;dead e 0 0 0 100;" + law).comes(), 1);
        }
        Check.due("an error of one alone", Check.house("glass 50;dead d 0 0 0 50;dead e 0 0 0 51;dead f 1 0 0 100;law come 1/taste;").comes(), 5);
    }

    @Says("(2) by numbers each of the DEAD who COMES:")
    static void byNumbers() {
        // d can't bear t and takes it to b, so that e, who likes it, sits there
        String rest = "law like (taste=1)*20+(taste=2)*60;";
        DeadMonday x = Check.house("room a;room b;door a b;thing t a 0 0;dead d 1 0 0 0;dead e 2 0 0 0;" + rest);
        x.go(1);
        Check.due("d first", x.room(0, 0) * 10 + x.room(1, 0), 11);
        DeadMonday y = Check.house("room a;room b;door a b;thing t a 0 0;dead e 2 0 0 0;dead d 1 0 0 0;" + rest);
        y.go(1);
        Check.due("e first", y.room(0, 0) * 10 + y.room(1, 0), 20);
        Check.due("all six", sixVisits(), 6);
    }

    private static int sixVisits() {
        DeadMonday x = Check.house("room a;dead a 0 0 0 0;dead b 0 0 0 0;dead c 0 0 0 0;dead d 0 0 0 0;dead e 0 0 0 0;dead f 0 0 0 50;");
        x.go(1);
        return x.count(9);
    }

    @Says("it SITS, by what is so by then:")
    static void byWhatIsSoByThen() {
        // a is warm by d, so e likes u in b better by then
        DeadMonday x = Check.house("room a;room b;thing t a 0 0;thing u b 0 0;dead d 0 0 0 0;dead e 0 0 0 0;dead f 0 0 0 0;law like 50-warm;");
        x.go(1);
        Check.due("in turns", x.room(0, 0) * 10 + x.room(1, 0), 21);
        x.go(1);
        Check.due("and on", x.room(0, 0) * 10 + x.room(1, 0), 33);
    }

    @Says("that ROOM is WARMER by 1, it CAME once more")
    static void warmerByOne() {
        DeadMonday x = Check.house("room a;room b;thing t b 0 0;dead d 0 0 0 0;dead e 0 0 0 60;");
        for (int m = 1; m <= 5; m++) {
            x.go(1);
            Check.due("warm", x.room(0, 0) * 100 + x.room(1, 0), m);
            Check.due("came", x.dead(0, 4) * 100 + x.dead(1, 4), 100 * m);
        }
        // an empty room is warm by one who sits there, too
        DeadMonday y = Check.house("room a;dead d 0 0 0 0;");
        y.go(3);
        Check.due("warm", y.room(0, 0) * 10 + y.dead(0, 4), 33);
        Check.due("nothing to move", y.count(7) + y.count(8), 0);
    }

    @Says("(one who can SIT nowhere does nothing);")
    static void nowhereToSit() {
        DeadMonday x = Check.house(TO_AND_FRO + "dead e 0 0 0 0;");
        x.rope(0, true);
        x.rope(1, true);
        Check.due("go", x.go(3), 3);
        Check.due("came", x.count(9) + x.dead(0, 4) + x.dead(1, 4), 0);
        Check.due("warm", x.room(0, 0) + x.room(1, 0), 0);
        Check.due("moved, turned", x.count(7) + x.count(8) + x.thing(0, 0), 0);
        Check.due("but they come", x.comes(), 3);
        DeadMonday y = Check.house("dead d 0 0 0 0;");
        Check.due("no rooms", y.go(3), 3);
        Check.due("came", y.count(9), 0);
    }

    @Says("the THING there that it LIKES least then, the first of several,")
    static void leastLiked() {
        String rooms = "room a;room b;door a b;";
        DeadMonday x = Check.house(rooms + "thing t a 0 1;thing u a 1 5;thing v a 0 5;thing w a 0 5;thing q b 0 9;dead d 0 1 0 0;law like 25-age-kind*5;");
        // t 24, u 15, v 20, w 20; q 16 in b
        x.go(1);
        Check.due("u", x.room(1, 3), 18);
        x.go(1);
        Check.due("then v ahead of w", x.room(1, 3), 18 + 4);
        DeadMonday y = Check.house(rooms + "thing t a 0 5;thing u a 1 5;dead d 0 5 0 0;");
        y.go(1);
        Check.due("the first of two", y.room(1, 3), 1);
        DeadMonday z = Check.house(rooms + "thing t a 0 0;thing u a 0 9;dead d 0 1 0 0;");
        z.go(1);
        Check.due("the last one", z.room(1, 3), 2);
        // none of another room, even if it is liked less
        DeadMonday w = Check.house("room a;room b;thing t a 0 0;thing u b 0 9;dead d 0 1 0 0;");
        w.go(5);
        Check.due("none there", w.count(7) + w.count(8), 0);
        // only one of two that can't be borne
        DeadMonday v = Check.house("room a;thing t a 0 9;thing u a 0 9;dead d 0 1 0 0;");
        v.go(1);
        Check.due("one alone", v.thing(0, 4) * 10 + v.thing(1, 4), 10);
        // then: behind being warmer t is liked less, ahead of it u
        DeadMonday q = Check.house("room a;thing t a 0 9;thing u a 0 1;dead d 0 1 0 0;law like 20+age-warm*age*2;");
        q.go(1);
        Check.due("t by then", q.thing(0, 4) * 10 + q.thing(1, 4), 10);
    }

    @Says("if LIKING is below E of bear (0 .. 100;")
    static void belowWhatOneBears() {
        Check.due("35 of 34", Check.house(ALONE + "law bear 34;").ahead(1, 2, 0), 0);
        Check.due("35 of 35", Check.house(ALONE + "law bear 35;").ahead(1, 2, 0), 0);
        Check.due("35 of 36", Check.house(ALONE + "law bear 36;").ahead(1, 2, 0), 1);
        String none = ALONE + "law like 0;law bear ";
        Check.due("0 of 0", Check.house(none + "0;").ahead(1, 2, 0), 0);
        Check.due("0 of less", Check.house(none + "0-1;").ahead(1, 2, 0), 0);
        Check.due("0 of far less", Check.house(none + "0-1000*1000*1000*1000;").ahead(1, 2, 0), 0);
        Check.due("0 of 1", Check.house(none + "1;").ahead(1, 2, 0), 1);
        String all = ALONE + "law like 99;law bear ";
        Check.due("99 of 99", Check.house(all + "99;").ahead(1, 2, 0), 0);
        Check.due("99 of 100", Check.house(all + "100;").ahead(1, 2, 0), 1);
        Check.due("99 of more", Check.house(all + "9999;").ahead(1, 2, 0), 1);
        Check.due("99 of far more", Check.house(all + "1000*1000*1000*1000;").ahead(1, 2, 0), 1);
        Check.due("99 of what comes round to 0", Check.house(all + "256*256*256*256;").ahead(1, 2, 0), 1);
        Check.due("E of like is held to 99 first", Check.house(ALONE + "law like 500;law bear 200;").ahead(1, 2, 0), 1);
        Check.due("and to 0", Check.house(ALONE + "law like 0-5;law bear 0-1;").ahead(1, 2, 0), 0);
    }

    @Says("30 without, with an ERROR),")
    static void bearsThirty() {
        for (String law : new String[] {"", "law bear 99/0;", "law bear 1000*1000*1000*1001;"}) {
            Check.due("30 is borne", Check.house("room a;thing t a 2 5;dead d 1 0 0 0;" + law).ahead(1, 2, 0), 0);
            Check.due("29 isn't", Check.house("room a;thing t a 2 5;dead d 1 0 0 0;law like 29;" + law).ahead(1, 2, 0), 1);
            Check.due("25 isn't", Check.house("room a;thing t a 2 6;dead d 1 0 0 0;" + law).ahead(1, 2, 0), 1);
        }
    }

    @Says({"is taken through a DOOR to the first ROOM by numbers (ROPED ones too): MOVED once more;"})
    static void throughADoor() {
        String rooms = "room a;room b;room c;room d;";
        String rest = "dead d 0 1 0 0;";
        DeadMonday x = Check.house(rooms + "door c d;door c b;thing t c 0 9;" + rest);
        x.go(1);
        Check.due("the first by numbers", x.thing(0, 0) * 10 + x.thing(0, 3), 11);
        DeadMonday y = Check.house(rooms + "door a d;door c a;thing t a 0 9;" + rest);
        y.go(1);
        Check.due("though told later", y.thing(0, 0), 2);
        DeadMonday z = Check.house(rooms + "door d a;thing t d 0 9;" + rest);
        z.go(1);
        Check.due("from the last to the first", z.thing(0, 0), 0);
        z.go(1);
        Check.due("and back", z.thing(0, 0) * 10 + z.thing(0, 3), 32);
        DeadMonday w = Check.house(rooms + "door b c;door b a;thing t b 0 9;" + rest);
        w.rope(0, true);
        w.go(1);
        Check.due("roped, too", w.thing(0, 0), 0);
        w.go(9);
        Check.due("it stays where nobody sits", w.thing(0, 0) * 10 + w.thing(0, 3), 1);
        Check.due("never turned", x.count(8) + y.count(8) + z.count(8) + w.count(8), 0);
    }

    @Says("without a DOOR it is TURNED once more.")
    static void turned() {
        DeadMonday x = Check.house("room a;room b;room c;door a b;thing t c 0 9;dead d 0 1 0 0;dead e 0 1 0 0;");
        x.go(3);
        Check.due("turned", x.thing(0, 4), 6);
        Check.due("not moved", x.thing(0, 0) * 10 + x.thing(0, 3), 20);
        Check.due("in all", x.count(7) * 10 + x.count(8), 6);
    }

    @Says("It is the next MONDAY.")
    static void theNextMonday() {
        DeadMonday x = Check.house(TO_AND_FRO);
        for (int m = 1; m <= 5; m++) {
            Check.due("go(1)", x.go(1), m);
            Check.due("the monday", x.count(6), m);
        }
    }

    @Says("(of bear that least LIKED one, of come 0);")
    static void whatTheNamesAreOf() {
        Check.due("kind, age", Check.house(ALONE + "law bear (kind=2 and age=4 and taste=1 and fond=0)*36;").ahead(1, 2, 0), 1);
        // u is liked least: what is borne is by u alone
        String two = "room a;thing t a 1 1;thing u a 2 9;thing v a 3 2;dead d 1 0 0 0;law bear ";
        Check.due("of the least liked", Check.house(two + "(kind=2 and age=9)*100;").ahead(1, 2, 0), 1);
        Check.due("of no other", Check.house(two + "(kind<>2 or age<>9)*100;").ahead(1, 2, 0), 0);
        Check.due("of come", Check.house(two + "0;law come age or kind;").comes(), 0);
        Check.due("of come 0", Check.house(two + "0;law come age=0 and kind=0;").comes(), 1);
    }

    @Says("warm: how WARM the ROOM is in which the THING is by now (of come 0; of bear behind being WARMER);")
    static void whatIsWarm() {
        Check.due("of bear behind being warmer", Check.house(ALONE + "law bear 35+warm;").ahead(1, 2, 0), 1);
        Check.due("by 1 alone", Check.house(ALONE + "law bear 34+warm;").ahead(1, 2, 0), 0);
        Check.due("liking by then", Check.house(ALONE + "law like 29+warm;").ahead(1, 2, 0), 0);
        Check.due("liking by then", Check.house(ALONE + "law like 30-warm;").ahead(1, 2, 0), 1);
        DeadMonday x = Check.house("room a;room b;thing t a 0 0;thing u b 0 0;dead d 0 0 0 0;law bear 0;law come warm=0;");
        x.go(3);
        Check.due("of come 0", x.comes(), 1);
        Check.due("it came each time", x.room(0, 0), 3);
        DeadMonday y = Check.house("room a;room b;thing t a 0 0;thing u b 0 0;dead d 0 0 0 0;law like 40-warm*10;law bear 0;");
        y.go(1);
        Check.due("each by its own room", y.liking(0, 0) * 100 + y.liking(0, 1), 3040);
        y.hang(0, 1);
        Check.due("where it is by now", y.liking(0, 0), 40);
    }

    // ---- promise 16

    @Says(promise = 16, value = "So many MONDAYS (0 .. 99) go by: which one it is;")
    static void going() {
        DeadMonday x = Check.house(NowTest.HALL);
        String seen = Check.seen(x);
        Check.due("go(0)", x.go(0), 0);
        Check.same("nothing changes", Check.seen(x), seen);
        Check.due("go(99)", x.go(99), 99);
        Check.due("ann came", x.dead(0, 4), 99);
        Check.due("go(1)", x.go(1), 100);
        DeadMonday y = Check.house(NowTest.HALL);
        for (int k = 0; k < 100; k++) y.go(1);
        Check.same("one by one", Check.seen(y), Check.seen(x));
    }

    @Says(promise = 16, value = "NONE, and none does: no such number, behind 9900.")
    static void notGoing() {
        DeadMonday x = Check.house(NowTest.HALL);
        x.go(1);
        x.rope(1, true);
        String seen = Check.seen(x);
        for (int n : new int[] {-1, -2, 100, 101, 9900, Integer.MIN_VALUE, Integer.MAX_VALUE}) {
            Check.due("go(" + n + ")", x.go(n), -1);
            Check.same("none does", Check.seen(x), seen);
        }
        DeadMonday y = Check.house("room a;dead d 0 0 0 0;");
        for (int k = 1; k <= 99; k++) y.go(99);
        Check.due("go(98)", y.go(98), 9899);
        Check.due("behind 9900", y.go(2), -1);
        Check.due("far behind", y.go(99), -1);
        Check.due("none does", y.count(6) * 10000 + y.dead(0, 4), 98999899);
        Check.due("9900", y.go(1), 9900);
        Check.due("behind it", y.go(1), -1);
        Check.due("none goes by: not behind it", y.go(0), 9900);
        Check.due("ahead all the same", y.ahead(60, 1, 0) + y.quiet(), 0);
        Check.due("tickets, too", y.tickets(99), 1);
        y.keep();
        Check.due("the image", y.back(), 9900);
    }

    // ---- AHEAD

    @Says("AHEAD for n MONDAYS: where a THING is then, how many are MOVED, TURNED more in all.")
    static void moreInAll() {
        DeadMonday x = Check.house(TO_AND_FRO + "glass 50;glass 49;");
        x.go(3);
        Check.due("moved twice by now", x.count(7), 2);
        Check.due("more", x.ahead(4, 1, 0), 2);
        Check.due("then", x.ahead(4, 0, 0), 0);
        Check.due("nothing went by", x.count(6) * 10 + x.count(7), 32);
        DeadMonday y = Check.house("room a;room b;room c;door a b;thing t c 0 9;thing u a 0 0;dead d 0 1 0 0;dead e 9 0 1 0;law like 0;");
        y.rope(1, true);
        // u goes to b, where nobody sits; then both sit in a, where nothing is
        Check.due("moved", y.ahead(5, 1, 0), 1);
        Check.due("turned", y.ahead(5, 2, 0), 0);
        y.rope(0, true);
        Check.due("turned by two", y.ahead(5, 2, 0) * 10 + y.ahead(5, 1, 0), 100);
    }

    @Says(promise = 17, value = "AHEAD (n 0 .. 60), what 0 the ROOM of a THING, 1 MOVED, 2 TURNED (the THING isn't looked at).")
    static void ahead() {
        DeadMonday x = Check.house(TO_AND_FRO + "glass 50;glass 49;");
        String seen = Check.seen(x);
        for (int n = 0; n <= 60; n++) {
            int went = (n + 1) / 2;
            Check.due("where", x.ahead(n, 0, 0), went % 2);
            Check.due("moved", x.ahead(n, 1, 9), went);
            Check.due("turned", x.ahead(n, 2, -3), 0);
        }
        for (int t : FAR) Check.due("no thing is looked at", x.ahead(2, 1, t) * 10 + x.ahead(2, 2, t), 10);
        Check.same("nothing changes", Check.seen(x), seen);
        Check.due("turned", Check.house("room a;thing t a 0 9;dead d 0 1 0 0;").ahead(60, 2, 0), 60);
        Check.due("of a new object", new DeadMonday().ahead(60, 1, 0) + new DeadMonday().ahead(0, 2, 0), 0);
    }

    @Says(promise = 17, value = "NONE: no such ones.")
    static void noSuchAhead() {
        DeadMonday x = Check.house(TO_AND_FRO);
        for (int what = 0; what <= 2; what++) {
            for (int n : new int[] {-1, -2, 61, 62, 99, Integer.MIN_VALUE, Integer.MAX_VALUE}) Check.due("ahead(" + n + ")", x.ahead(n, what, 0), -1);
        }
        Check.due("ahead(0, 3, 0)", x.ahead(0, 3, 0), -1);
        Check.due("ahead(0, 0, 1)", x.ahead(0, 0, 1), -1);
        for (int far : FAR) {
            Check.due("ahead(0, " + far + ", 0)", x.ahead(0, far, 0), -1);
            Check.due("ahead(0, 0, " + far + ")", x.ahead(0, 0, far), -1);
        }
        Check.due("of a new object", new DeadMonday().ahead(0, 0, 0), -1);
    }

    // ---- who comes, where one sits

    @Says(promise = 18, value = "The DEAD (bits) who COME on this MONDAY.")
    static void comes() {
        DeadMonday x = Check.house(NowTest.HALL);
        Check.due("comes", x.comes(), 1);
        x.go(1);
        Check.due("comes on the next", x.comes(), 3);
        Check.due("nobody", new DeadMonday().comes(), 0);
        Check.due("all six", Check.house("dead a 0 0 0 0;dead b 0 0 0 0;dead c 0 0 0 0;dead d 0 0 0 0;dead e 0 0 0 0;dead f 0 0 0 0;").comes(), 63);
        Check.due("the sixth", Check.house("dead a 0 0 0 99;dead b 0 0 0 99;dead c 0 0 0 99;dead d 0 0 0 99;dead e 0 0 0 99;dead f 0 0 0 0;").comes(), 32);
    }

    @Says(promise = 19, value = {"Where a DEAD would SIT now (COMING or not);", "-2: nowhere;"})
    static void sits() {
        DeadMonday x = Check.house(NowTest.HALL);
        Check.due("ann", x.sits(0), 0);
        Check.due("bo, who doesn't come", x.sits(1) * 10 + x.comes(), 1);
        x.hang(1, 2);
        Check.due("bo in the loft", x.sits(1), 2);
        for (int r = 0; r < 3; r++) {
            Check.due("somewhere yet", x.sits(0) >= 0, true);
            x.rope(r, true);
        }
        Check.due("nowhere", x.sits(0) + x.sits(1), -4);
    }

    @Says(promise = 19, value = "NONE: no such DEAD, no ROOMS.")
    static void sitsNot() {
        DeadMonday x = Check.house(NowTest.HALL);
        Check.due("sits(2)", x.sits(2), -1);
        for (int d : FAR) Check.due("sits(" + d + ")", x.sits(d), -1);
        for (int r = 0; r < 3; r++) x.rope(r, true);
        Check.due("no such one, all roped", x.sits(2), -1);
        Check.due("no rooms", Check.house("dead d 0 0 0 0;").sits(0), -1);
        Check.due("of a new object", new DeadMonday().sits(0), -1);
    }

    // ---- QUIET

    @Says("QUIET: in how many MONDAYS, 99 at most, first nothing is MOVED nor TURNED on the next one (0: not on this one).")
    static void quietFirst() {
        Check.due("0", Check.house(TO_AND_FRO + "law come monday>0;").quiet(), 0);
        Check.due("1", Check.house(TO_AND_FRO + "law come monday<>1;").quiet(), 1);
        Check.due("the first of them", Check.house(TO_AND_FRO + "law come monday<>5 and monday<>7;").quiet(), 5);
        Check.due("98", Check.house(TO_AND_FRO + "law come monday<98;").quiet(), 98);
        Check.due("99", Check.house(TO_AND_FRO + "law come monday<99;").quiet(), 99);
        Check.due("100 is too far", Check.house(TO_AND_FRO + "law come monday<100;").quiet(), -2);
        Check.due("turned counts", Check.house("room a;thing t a 0 9;dead d 0 1 0 0;law come monday<3;").quiet(), 3);
        Check.due("by the glass", Check.house(TO_AND_FRO + "glass 50;glass 50;glass 49;").quiet(), 2);
    }

    @Says(promise = 20, value = {"QUIET;", "-2: not by then."})
    static void quiet() {
        Check.due("never", Check.house(TO_AND_FRO).quiet(), -2);
        Check.due("of a new object", new DeadMonday().quiet(), 0);
        DeadMonday x = Check.house(TO_AND_FRO + "law come monday<>7;");
        x.go(4);
        String seen = Check.seen(x);
        Check.due("from now", x.quiet(), 3);
        x.rope(0, true);
        x.rope(1, true);
        Check.due("all roped", x.quiet(), 0);
        x.undo();
        x.undo();
        Check.same("nothing changes", Check.seen(x), seen);
        Check.due("visits without moving", Check.house("room a;dead d 0 0 0 0;").quiet(), 0);
    }

    // ---- LEAST MOVED

    @Says("LEAST MOVED of a THING for n MONDAYS: the ROOM in which it should be now so that all are MOVED and TURNED least in these, the first of several.")
    static void leastOfAll() {
        DeadMonday y = Check.house("room a;room b;room c;door a b;thing t c 0 9;dead d 0 1 0 0;law come monday<3;");
        // in a and b it is moved three times, in c turned three times
        Check.due("the first of several", y.leastMoved(0, 60, 0), 0);
        Check.due("moved and turned", y.leastMoved(0, 60, 1), 3);
        y.rope(1, true);
        // from a to b, where it is out of sight: once; in b at first: never
        Check.due("out of sight", y.leastMoved(0, 60, 0) * 10 + y.leastMoved(0, 60, 1), 10);
        y.rope(0, true);
        Check.due("both out of sight: the first", y.leastMoved(0, 60, 0) * 10 + y.leastMoved(0, 60, 1), 0);
        y.rope(2, true);
        Check.due("all", y.leastMoved(0, 60, 0) * 10 + y.leastMoved(0, 60, 1), 0);
        // u, not t, is what is moved: t draws d, who can't bear u in a
        DeadMonday z = Check.house("room a;room b;thing t a 1 0;thing u a 0 9;dead d 0 1 0 0;");
        Check.due("all that is moved and turned", z.leastMoved(0, 7, 0) * 10 + z.leastMoved(0, 7, 1), 10);
        DeadMonday w = Check.house("room a;room b;room c;thing t a 0 9;dead d 0 1 0 0;");
        w.rope(2, true);
        Check.due("the last one, which is roped", w.leastMoved(0, 4, 0) * 10 + w.leastMoved(0, 4, 1), 20);
        // as of now: what was moved ahead doesn't count
        w.go(9);
        Check.due("from now", w.leastMoved(0, 4, 0) * 10 + w.leastMoved(0, 4, 1), 20);
    }

    @Says(promise = 21, value = "LEAST MOVED (n 1 .. 60), what 0: the ROOM, 1: how many.")
    static void leastMoved() {
        DeadMonday x = Check.house(NowTest.HALL);
        String seen = Check.seen(x);
        Check.due("the rug", x.leastMoved(1, 3, 0), 1);
        Check.due("not at all", x.leastMoved(1, 3, 1), 0);
        Check.same("nothing changes", Check.seen(x), seen);
        DeadMonday y = Check.house("room a;thing t a 0 9;dead d 0 1 0 0;");
        for (int n = 1; n <= 60; n++) Check.due("for " + n, y.leastMoved(0, n, 1), n);
        Check.due("the only room", y.leastMoved(0, 1, 0) + y.leastMoved(0, 60, 0), 0);
    }

    @Says(promise = 21, value = "NONE: no such ones.")
    static void noSuchLeastMoved() {
        DeadMonday x = Check.house(TO_AND_FRO);
        for (int what = 0; what <= 1; what++) {
            Check.due("no such thing", x.leastMoved(1, 1, what), -1);
            for (int t : FAR) Check.due("leastMoved(" + t + ")", x.leastMoved(t, 1, what), -1);
            for (int n : new int[] {0, -1, 61, 62, Integer.MIN_VALUE, Integer.MAX_VALUE}) Check.due("for " + n, x.leastMoved(0, n, what), -1);
        }
        Check.due("what 2", x.leastMoved(0, 1, 2), -1);
        for (int what : FAR) Check.due("what " + what, x.leastMoved(0, 1, what), -1);
        Check.due("of a new object", new DeadMonday().leastMoved(0, 1, 0), -1);
    }

    // ---- TICKETS

    @Says("TICKETS for n MONDAYS as it goes: the most who COME on one of these (who can SIT nowhere, too).")
    static void mostOfOneMonday() {
        DeadMonday x = Check.house(NowTest.HALL);
        for (int r = 0; r < 3; r++) x.rope(r, true);
        Check.due("who can sit nowhere, too", x.tickets(9), 2);
        Check.due("no rooms at all", Check.house("dead d 0 0 0 0;dead e 0 0 0 0;").tickets(1), 2);
        Check.due("not in sum", Check.house("room a;dead d 0 0 0 60;dead e 0 0 0 0;glass 10;").tickets(50), 1);
        // the most comes first, then less
        DeadMonday y = Check.house("dead d 0 0 0 60;dead e 0 0 0 0;glass 60;glass 10;");
        Check.due("of the first one", y.tickets(2), 2);
        y.go(1);
        Check.due("from now", y.tickets(1), 1);
        Check.due("the next one", y.tickets(2), 2);
    }

    @Says(promise = 28, value = "TICKETS (n 1 .. 99);")
    static void tickets() {
        DeadMonday x = Check.house(NowTest.HALL);
        Check.due("tickets(1)", x.tickets(1), 1);
        Check.due("tickets(2)", x.tickets(2), 2);
        DeadMonday y = Check.house("dead d 0 0 0 0;dead e 0 0 0 0;dead f 1 0 0 0;law come monday=98 or monday=3 and taste;");
        String seen = Check.seen(y);
        int[][] want = {{1, 0}, {3, 0}, {4, 1}, {98, 1}, {99, 3}};
        for (int[] w : want) Check.due("tickets(" + w[0] + ")", y.tickets(w[0]), w[1]);
        Check.same("nothing changes", Check.seen(y), seen);
        Check.due("of a new object", new DeadMonday().tickets(99), 0);
    }

    @Says(promise = 28, value = "NONE: no such n.")
    static void noSuchTickets() {
        DeadMonday x = Check.house(NowTest.HALL);
        for (int n : new int[] {0, -1, 100, 101, Integer.MIN_VALUE, Integer.MAX_VALUE}) Check.due("tickets(" + n + ")", x.tickets(n), -1);
    }

    // ---- by chance

    /** So many GAUGES from a seed on. */
    private static int[] drawn(int seed, int n) {
        BigInteger last = BigInteger.valueOf(seed);
        int[] gauges = new int[n];
        for (int k = 0; k < n; k++) {
            last = last.multiply(BigInteger.valueOf(1103515245)).add(BigInteger.valueOf(12345)).mod(BigInteger.TWO.pow(31));
            gauges[k] = last.divide(BigInteger.valueOf(65536)).mod(BigInteger.valueOf(100)).intValueExact();
        }
        return gauges;
    }

    @Says("MONDAYS by chance: GAUGE is a number modulo 100, one for each.")
    static void gaugeByChance() {
        // of C's rand with the seed 1: 16838 5758 10113 17515 31051 5627 23010 7419 16212 4086
        int[] gauges = {38, 58, 13, 15, 51, 27, 10, 19, 12, 86};
        for (int fair = 0; fair <= 100; fair++) {
            int there = 0;
            for (int gauge : gauges) if (gauge >= fair) there++;
            DeadMonday x = Check.house("room a;room b;door a b;thing t a 0 9;dead d 0 1 0 " + fair + ";glass 0;");
            Check.due("fair " + fair, x.chance(1, 1, 0, 1), there);
        }
        for (int gauge : gauges) {
            DeadMonday x = Check.house(TO_AND_FRO + "glass 0;law come gauge=" + gauge + ";");
            Check.due("by a law of " + gauge, x.chance(1, 1, 0, 1), 1);
        }
        // all of the DEAD come by the same one
        DeadMonday y = Check.house("room a;room b;door a b;thing t a 0 9;thing u a 0 9;dead d 0 1 0 50;dead e 0 1 0 50;");
        Check.due("t", y.chance(1, 1, 0, 1), y.chance(1, 1, 1, 1));
    }

    @Says("Numbers are the last one (at first the seed) times 1103515245 and 12345, without what is above 31 bits, by 65536.")
    static void numbersByChance() {
        DeadMonday x = Check.house(TO_AND_FRO + "glass 0;seed 9;");
        for (int seed : new int[] {0, 1, 2, 5, 99999, 123456789, 1 << 30, Integer.MAX_VALUE - 1, Integer.MAX_VALUE}) {
            for (int n = 1; n <= 60; n += n < 5 ? 1 : 11) {
                int[] gauges = drawn(seed, 10 * n);
                int there = 0;
                for (int k = 0; k < 10; k++) {
                    int moved = 0;
                    for (int m = 0; m < n; m++) if (gauges[k * n + m] >= 50) moved++;
                    there += moved % 2;
                }
                Check.due("chance(" + seed + ", " + n + ", 0, 1)", x.chance(seed, n, 0, 1), there);
                Check.due("chance(" + seed + ", " + n + ", 0, 0)", x.chance(seed, n, 0, 0), 10 - there);
            }
        }
    }

    @Says(promise = 35, value = {"In how many of ten times drawn (numbers from a seed 0 .. 2147483647 on, one behind another; n 1 .. 60 MONDAYS from now)",
        "a THING is in a ROOM then;"})
    static void chance() {
        DeadMonday y = Check.house(TO_AND_FRO + "law come monday=3;");
        y.go(2);
        String seen = Check.seen(y);
        Check.due("mondays from now", y.chance(1, 1, 0, 1) * 100 + y.chance(1, 2, 0, 1), 10);
        Check.due("the seeds' ends", y.chance(0, 2, 0, 1) + y.chance(Integer.MAX_VALUE, 2, 0, 1), 20);
        Check.due("sixty", y.chance(7, 60, 0, 1) * 100 + y.chance(7, 60, 0, 0), 1000);
        Check.same("nothing changes", Check.seen(y), seen);
        DeadMonday z = Check.house(TO_AND_FRO + "glass 3;glass 4;law like gauge+warm;law bear gauge*2;law come gauge;");
        seen = Check.seen(z) + z.comes() + z.ahead(5, 1, 0) + z.sits(0) + z.liking(0, 0);
        Check.due("by some gauge", z.chance(7, 60, 0, 1) >= 0, true);
        Check.same("nor by the gauge", Check.seen(z) + z.comes() + z.ahead(5, 1, 0) + z.sits(0) + z.liking(0, 0), seen);
        z.chance(7, 60, 0, 1);
        Check.due("liking", z.liking(0, 0), 3);
        z.chance(7, 60, 0, 1);
        Check.due("law", z.law(2, 0, 0), 3);
        // each of the ten begins with what is so now
        DeadMonday x = Check.house(TO_AND_FRO + "law come 1;");
        Check.due("one", x.chance(3, 1, 0, 1), 10);
        Check.due("two", x.chance(3, 2, 0, 0), 10);
        x.rope(0, true);
        x.rope(1, true);
        Check.due("all roped", x.chance(3, 1, 0, 0), 10);
    }

    @Says(promise = 35, value = "NONE: no such ones.")
    static void noSuchChance() {
        DeadMonday x = Check.house(TO_AND_FRO);
        for (int seed : new int[] {-1, -2, Integer.MIN_VALUE}) Check.due("seed " + seed, x.chance(seed, 1, 0, 0), -1);
        for (int n : new int[] {0, -1, 61, 62, Integer.MIN_VALUE, Integer.MAX_VALUE}) Check.due("n " + n, x.chance(0, n, 0, 0), -1);
        Check.due("no such thing", x.chance(0, 1, 1, 0), -1);
        Check.due("no such room", x.chance(0, 1, 0, 2), -1);
        for (int far : FAR) {
            Check.due("thing " + far, x.chance(0, 1, far, 0), -1);
            Check.due("room " + far, x.chance(0, 1, 0, far), -1);
        }
        Check.due("of a new object", new DeadMonday().chance(0, 1, 0, 0), -1);
    }

    // ---- TRIED

    @Says({"TRIED for n MONDAYS: how many are MOVED and TURNED in all: 0 as it goes, 1 no ROPES, 2 without DEAD i, 3 all COME,",
        "4 all bear all, 5 without THING i."})
    static void otherwise() {
        DeadMonday x = Check.house(TO_AND_FRO + "thing u b 1 0;dead e 0 1 0 99;glass 60;");
        // u draws d to b, so that t stays in a
        Check.due("as it goes", x.tried(0, 0, 10), 0);
        Check.due("without thing 1", x.tried(5, 1, 10), 10);
        Check.due("without thing 0", x.tried(5, 0, 10), 0);
        x.rope(1, true);
        // d sits in a, takes t to b, sits on in a
        Check.due("roped", x.tried(0, 0, 10), 1);
        Check.due("no ropes", x.tried(1, 0, 10), 0);
        Check.due("without dead 0", x.tried(2, 0, 10), 0);
        Check.due("without dead 1", x.tried(2, 1, 10), 1);
        Check.due("all bear all", x.tried(4, 0, 10), 0);
        DeadMonday y = Check.house(TO_AND_FRO + "dead e 0 1 0 99;glass 10;law come 0;");
        Check.due("nobody comes", y.tried(0, 0, 60), 0);
        Check.due("all come", y.tried(3, 0, 60), 120);
        DeadMonday z = Check.house("room a;thing t a 0 9;dead d 0 1 0 0;dead e 0 1 0 0;");
        Check.due("turned, too", z.tried(0, 0, 5), 10);
        Check.due("without one", z.tried(2, 0, 5) * 10 + z.tried(2, 1, 5), 55);
        Check.due("all bear all", z.tried(4, 0, 60), 0);
        Check.due("without the thing", z.tried(5, 0, 60), 0);
        Check.due("moved and turned", Check.house("room a;room b;room c;door a b;thing t a 0 9;thing u c 1 8;dead d 0 0 0 0;dead e 0 1 0 0;law like kind=fond;")
            .tried(0, 0, 3), 6);
        // all that is tried are as they were
        Check.due("as it goes", z.tried(0, 0, 5), 10);
        Check.due("as it goes", x.tried(0, 0, 10), 1);
        Check.due("nobody comes", y.tried(0, 0, 60) + y.comes(), 0);
    }

    @Says(promise = 36, value = "TRIED (n 0 .. 60);")
    static void tried() {
        DeadMonday z = Check.house("room a;thing t a 0 9;dead d 0 1 0 0;");
        z.go(2);
        z.rope(0, true);
        String seen = Check.seen(z);
        for (int n = 0; n <= 60; n++) Check.due("for " + n, z.tried(1, 0, n), n);
        for (int what = 0; what <= 5; what++) Check.due("for none", z.tried(what, 0, 0), 0);
        Check.same("nothing changes", Check.seen(z), seen);
    }

    @Says(promise = 36, value = "NONE: no such ones (i 0 of all but 2, 5).")
    static void noSuchTried() {
        DeadMonday x = Check.house(TO_AND_FRO + "thing u a 0 0;");
        for (int what = 0; what <= 5; what++) {
            for (int n : new int[] {-1, -2, 61, 62, Integer.MIN_VALUE, Integer.MAX_VALUE}) Check.due("n " + n, x.tried(what, 0, n), -1);
            for (int i : FAR) Check.due("tried(" + what + ", " + i + ")", x.tried(what, i, 1), -1);
            Check.due("tried(" + what + ", 1)", x.tried(what, 1, 1) >= 0, what == 5);
            Check.due("tried(" + what + ", 2)", x.tried(what, 2, 1), -1);
            Check.due("tried(" + what + ", 0)", x.tried(what, 0, 1) >= 0, true);
        }
        Check.due("what 6", x.tried(6, 0, 1), -1);
        for (int what : FAR) Check.due("what " + what, x.tried(what, 0, 1), -1);
        for (int what = 0; what <= 5; what++) Check.due("of a new object", new DeadMonday().tried(what, 0, 1), what == 2 || what == 5 ? -1 : 0);
    }

    public static void main(String[] args) throws ReflectiveOperationException {
        Check.run(MondayTest.class);
    }
}
