/** NOTES, what strikes them, what is known, tastes: Terms of ==== 3, promises 31 to 34. */
public final class NoteTest {
    // by a taste 0 alone d can't bear t, which goes to and fro then; e never comes
    private static final String TO_AND_FRO = "room a;room b;door a b;thing t a 0 5;dead d 9 1 0 0;dead e 5 1 0 100;";
    private static final int ALL = 1023;
    private static final int[] FAR = NowTest.FAR;

    // ---- NOTES

    @Says("NOTES, at most 24, numbered from 0 on:")
    static void numbered() {
        DeadMonday x = Check.house(NowTest.HALL);
        for (int k = 0; k < 24; k++) {
            Check.due("a note", k % 3 == 2 ? x.out(k - 1) : x.note(k + 1, k % 3, k % 3, k % 2 == 0), k);
            Check.due("so many", x.count(10), k + 1);
        }
        Check.due("a 25th", x.note(1, 0, 0, true), -1);
        Check.due("a 25th that strikes", x.out(0), -1);
        Check.due("no more", x.count(10), 24);
        Check.tell(x, NowTest.HALL);
        Check.due("from 0 on again", x.note(1, 0, 0, true), 0);
    }

    @Says("behind so many MONDAYS 1 .. 30")
    static void behindMondays() {
        // it is in b behind an odd number of Mondays
        for (int n = 1; n <= 30; n++) {
            DeadMonday x = Check.house(TO_AND_FRO);
            x.note(n, 0, n % 2, true);
            Check.due("behind " + n, x.tastes(0), n % 2 == 1 ? 1 : ALL);
            DeadMonday y = Check.house(TO_AND_FRO);
            y.note(n, 0, 1 - n % 2, true);
            Check.due("not behind " + n, y.tastes(0), n % 2 == 1 ? ALL - 1 : 0);
        }
        // some that are told out of their order
        DeadMonday z = Check.house(TO_AND_FRO);
        z.note(30, 0, 0, true);
        z.note(1, 0, 1, true);
        z.note(29, 0, 1, true);
        Check.due("all of them", z.tastes(0), 1);
        z.note(2, 0, 1, true);
        Check.due("one that isn't so", z.tastes(0), 0);
    }

    @Says("(as it goes from the TEXT on, nothing ROPED, hung)")
    static void fromTheTextOn() {
        DeadMonday x = Check.house(TO_AND_FRO);
        x.note(1, 0, 1, true);
        x.rope(0, true);
        x.hang(0, 1);
        Check.due("roped, hung", x.tastes(0), 1);
        x.go(7);
        Check.due("on another monday", x.tastes(0), 1);
        x.rope(1, true);
        Check.due("all roped", x.tastes(0), 1);
        x.note(30, 0, 0, true);
        Check.due("behind 30 from the text on", x.tastes(0), 1);
        // nothing is warm, and the glass is that of monday 0 on
        DeadMonday y = Check.house("room a;room b;door a b;thing t a 0 5;dead d 9 1 0 50;glass 50;glass 0;law like 29+taste-warm;");
        y.go(1);
        y.note(1, 0, 1, true);
        Check.due("29 + taste - 1 is below 30", y.tastes(0), 3);
    }

    @Says("a THING was in a ROOM, or not.")
    static void orNot() {
        DeadMonday x = Check.house(TO_AND_FRO);
        x.note(1, 0, 1, false);
        Check.due("not in b", x.tastes(0), ALL - 1);
        DeadMonday y = Check.house(TO_AND_FRO);
        y.note(1, 0, 0, false);
        Check.due("not in a", y.tastes(0), 1);
        y.note(1, 0, 1, true);
        Check.due("but in b", y.tastes(0), 1);
        y.note(1, 0, 0, true);
        Check.due("and in a: never", y.tastes(0), 0);
    }

    @Says("A note may strike one ahead of it (STRUCK).")
    static void striking() {
        DeadMonday x = Check.house(TO_AND_FRO);
        x.note(1, 0, 1, true);
        x.note(2, 0, 1, true);
        Check.due("both never", x.tastes(0), 0);
        x.out(1);
        Check.due("the first one alone", x.tastes(0), 1);
        x.out(1);
        Check.due("struck twice", x.tastes(0), 1);
        x.out(0);
        Check.due("none", x.tastes(0), ALL);
        x.note(1, 0, 1, true);
        Check.due("one behind what strikes", x.tastes(0), 1);
    }

    @Says("KNOWN by n (all at first): the first n that aren't STRUCK by one of these")
    static void theFirstOnes() {
        DeadMonday x = Check.house(TO_AND_FRO);
        Check.due("without notes", x.tastes(0), ALL);
        x.note(1, 0, 1, true);
        Check.due("all at first", x.tastes(0), 1);
        x.note(1, 0, 1, false);
        x.out(0);
        // 0: in b, 1: not in b, 2 strikes 0
        int[] want = {ALL, 1, 0, ALL - 1};
        for (int n = 0; n <= 3; n++) {
            x.known(n);
            Check.due("by " + n, x.tastes(0), want[n]);
        }
    }

    @Says("(what strikes may be STRUCK: then it doesn't count; asked from the last one on).")
    static void strikingWhatStrikes() {
        DeadMonday x = Check.house(TO_AND_FRO);
        x.note(1, 0, 1, true);
        // each of them strikes the one ahead of it
        for (int k = 1; k < 24; k++) {
            Check.due("out(" + (k - 1) + ")", x.out(k - 1), k);
            Check.due("struck by " + k, x.tastes(0), k % 2 == 1 ? ALL : 1);
        }
        for (int n = 1; n <= 24; n++) {
            x.known(n);
            Check.due("by " + n, x.tastes(0), n % 2 == 0 ? ALL : 1);
        }
        // of two that strike one is struck: the other one counts
        DeadMonday y = Check.house(TO_AND_FRO);
        y.note(1, 0, 1, true);
        y.out(0);
        y.out(0);
        y.out(1);
        Check.due("by the other one", y.tastes(0), ALL);
        y.out(2);
        Check.due("by none", y.tastes(0), 1);
        y.out(3);
        Check.due("by the first again", y.tastes(0), ALL);
    }

    @Says("TASTES of one of the DEAD: 0 .. 9 (bits) that it may have, in place of its own, by which all KNOWN ones are so.")
    static void inPlaceOfItsOwn() {
        // each taste alone, the ends too: t is moved by it alone
        for (int taste = 0; taste <= 9; taste++) {
            for (int own : new int[] {0, 4, 9}) {
                DeadMonday x = Check.house("room a;room b;door a b;thing t a 0 5;dead d " + own + " 1 0 0;law like 50;law bear 51*(taste=" + taste + ");");
                x.note(1, 0, 1, true);
                Check.due("taste " + taste, x.tastes(0), 1 << taste);
                Check.due("its own stays", x.dead(0, 0), own);
                DeadMonday y = Check.house("room a;room b;door a b;thing t a 0 5;dead d " + own + " 1 0 0;law like 0;law come taste=" + taste + ";");
                y.note(1, 0, 1, true);
                Check.due("comes by it", y.tastes(0), 1 << taste);
            }
        }
        // without laws: AGE is too far from it
        DeadMonday z = Check.house("room a;room b;door a b;thing t a 0 9;dead d 9 1 0 0;");
        z.note(1, 0, 1, true);
        Check.due("far from nine", z.tastes(0), 31);
        // the others have their own
        DeadMonday w = Check.house("room a;room b;door a b;thing t a 0 9;dead d 9 1 0 100;dead e 0 1 0 0;");
        w.note(1, 0, 1, true);
        Check.due("d, who never comes", w.tastes(0), ALL);
        Check.due("e", w.tastes(1), 31);
        DeadMonday q = Check.house("room a;room b;door a b;thing t a 0 5;dead d 9 1 0 0;law like 0;law come taste=monday+4;");
        q.note(3, 0, 1, true);
        Check.due("by when it comes", q.tastes(0), 7 << 4);
    }

    @Says("in place of its own, by which all KNOWN ones are so.")
    static void eachTasteByItself() {
        // moved twice by a taste 1, 2, never by a later one (and once by 0, which likes nothing, so that it sits on in a):
        // what one taste likes says nothing of the next one
        for (String by : new String[] {"gauge", "monday"}) {
            DeadMonday x = Check.house("room a;room b;door a b;thing t a 0 5;dead d 9 1 0 0;glass 49;glass 50;law like taste*10+" + by + "*0;");
            x.note(2, 0, 0, true);
            Check.due("by " + by, x.tastes(0), ALL - 1);
        }
        // a taste 0 sits in a by t, another one in b by u, which it takes to a
        DeadMonday y = Check.house("room a;room b;door a b;thing t a 0 0;thing u b 1 0;dead d 9 1 0 0;law like (kind=0 and taste=0)*50+(kind=1)*20+warm*0;");
        y.note(1, 0, 0, true);
        Check.due("t is never moved", y.tastes(0), ALL);
        y.note(1, 1, 0, true);
        Check.due("u is by all but taste 0", y.tastes(0), ALL - 1);
    }

    @Says("a THING was in a ROOM, or not.")
    static void eachThing() {
        DeadMonday x = Check.house(Check.FULL);
        for (int t = 0; t < 8; t++) {
            int at = x.ahead(20, 0, t);
            for (int r = 0; r < 6; r++) {
                DeadMonday y = Check.house(Check.FULL);
                y.note(20, t, r, true);
                Check.due("its own taste fits", (y.tastes(1) >> 9 & 1) == 1, r == at);
                DeadMonday z = Check.house(Check.FULL);
                z.note(20, t, r, false);
                Check.due("or not", (z.tastes(1) >> 9 & 1) == 1, r != at);
                Check.due("one or the other", y.tastes(1) + z.tastes(1), ALL);
            }
        }
    }

    // ---- promises 31 to 34

    @Says(promise = 31, value = "A NOTE: its number;")
    static void note() {
        DeadMonday x = Check.house(NowTest.HALL);
        Check.due("the least", x.note(1, 0, 0, true), 0);
        Check.due("the most", x.note(30, 2, 2, false), 1);
        Check.due("the same again", x.note(30, 2, 2, false), 2);
        x.go(50);
        Check.due("whichever monday it is", x.note(30, 2, 2, false), 3);
    }

    @Says(promise = 31, value = "NONE: no such ones, or there are 24.")
    static void noSuchNote() {
        DeadMonday x = Check.house(NowTest.HALL);
        String seen = Check.seen(x);
        for (boolean is : new boolean[] {true, false}) {
            for (int n : new int[] {0, -1, 31, 32, 60, Integer.MIN_VALUE, Integer.MAX_VALUE}) Check.due("mondays " + n, x.note(n, 0, 0, is), -1);
            Check.due("no such thing", x.note(1, 3, 0, is), -1);
            Check.due("no such room", x.note(1, 0, 3, is), -1);
            for (int far : FAR) {
                Check.due("thing " + far, x.note(1, far, 0, is), -1);
                Check.due("room " + far, x.note(1, 0, far, is), -1);
            }
            Check.due("of a new object", new DeadMonday().note(1, 0, 0, is), -1);
        }
        Check.same("nothing changes", Check.seen(x), seen);
        for (int k = 0; k < 24; k++) Check.due("note " + k, x.note(1, 0, 0, true), k);
        seen = Check.seen(x);
        Check.due("there are 24", x.note(1, 0, 0, true), -1);
        Check.due("there are 24", x.note(1, 1, 1, false), -1);
        Check.same("nothing changes", Check.seen(x), seen);
    }

    @Says(promise = 32, value = "A note that strikes a NOTE: its number;")
    static void out() {
        DeadMonday x = Check.house(NowTest.HALL);
        x.note(1, 0, 0, true);
        x.note(1, 0, 0, true);
        Check.due("the first one", x.out(0), 2);
        Check.due("the second one", x.out(1), 3);
        Check.due("one that strikes", x.out(3), 4);
        Check.due("one that is struck", x.out(0), 5);
        Check.due("so many", x.count(10), 6);
        // one that isn't KNOWN, too
        x.known(0);
        Check.due("one that isn't known", x.out(5), 6);
    }

    @Says(promise = 32, value = "NONE: no such NOTE, or there are 24.")
    static void noSuchOut() {
        DeadMonday x = Check.house(NowTest.HALL);
        Check.due("no notes", x.out(0), -1);
        x.note(1, 0, 0, true);
        String seen = Check.seen(x);
        Check.due("itself", x.out(1), -1);
        for (int far : FAR) Check.due("out(" + far + ")", x.out(far), -1);
        Check.same("nothing changes", Check.seen(x), seen);
        for (int k = 1; k < 24; k++) Check.due("out", x.out(0), k);
        seen = Check.seen(x);
        for (int k = 0; k <= 24; k++) Check.due("there are 24", x.out(k), -1);
        Check.same("nothing changes", Check.seen(x), seen);
        Check.due("of a new object", new DeadMonday().out(0), -1);
    }

    @Says(promise = 33, value = "KNOWN by n from now on (-1: by all, also those to come): true;")
    static void known() {
        DeadMonday x = Check.house(TO_AND_FRO);
        Check.due("known(0)", x.known(0), true);
        x.note(1, 0, 1, true);
        Check.due("by none from now on", x.tastes(0), ALL);
        Check.due("by none", x.count(11), 0);
        Check.due("known(1)", x.known(1), true);
        Check.due("by the first one", x.tastes(0), 1);
        x.note(1, 0, 1, false);
        Check.due("by the first one yet", x.tastes(0) * 10 + x.count(11), 11);
        Check.due("known(2)", x.known(2), true);
        Check.due("by both", x.tastes(0), 0);
        x.out(1);
        Check.due("what strikes isn't known", x.tastes(0), 0);
        Check.due("known(-1)", x.known(-1), true);
        Check.due("by all", x.tastes(0) * 10 + x.count(11), 13);
        x.out(0);
        Check.due("also those to come", x.tastes(0), ALL);
        Check.due("by all four", x.count(11), 4);
        Check.due("of a new object", new DeadMonday().known(-1), true);
        Check.due("of a new object", new DeadMonday().known(0), true);
        DeadMonday y = Check.house(TO_AND_FRO);
        for (int k = 0; k < 24; k++) y.note(1, 0, 0, true);
        Check.due("known(24)", y.known(24), true);
        Check.due("by 24", y.count(11), 24);
    }

    @Says(promise = 33, value = "false: no such n.")
    static void noSuchKnown() {
        DeadMonday x = Check.house(TO_AND_FRO);
        Check.due("without notes", x.known(1), false);
        x.note(1, 0, 1, true);
        x.note(1, 0, 1, false);
        x.known(1);
        for (int n : new int[] {3, 24, 25, -2, -3, Integer.MIN_VALUE, Integer.MAX_VALUE}) {
            Check.due("known(" + n + ")", x.known(n), false);
            Check.due("as it was", x.count(11) * 10 + x.tastes(0), 11);
        }
        Check.due("of a new object", new DeadMonday().known(1), false);
    }

    @Says(promise = 34, value = {"TASTES (bits);", "NONE: no such DEAD."})
    static void tastes() {
        DeadMonday x = Check.house(TO_AND_FRO);
        String seen = Check.seen(x);
        Check.due("without notes", x.tastes(0) + x.tastes(1), 2 * ALL);
        Check.same("nothing changes", Check.seen(x), seen);
        x.note(1, 0, 1, true);
        Check.due("taste 0", x.tastes(0), 1);
        Check.due("e never comes", x.tastes(1), 0);
        Check.due("no such dead", x.tastes(2), -1);
        for (int d : FAR) Check.due("tastes(" + d + ")", x.tastes(d), -1);
        Check.due("of a new object", new DeadMonday().tastes(0), -1);
        Check.due("no rooms", Check.house("dead d 0 0 0 0;").tastes(0), ALL);
    }

    public static void main(String[] args) throws ReflectiveOperationException {
        Check.run(NoteTest.class);
    }
}
