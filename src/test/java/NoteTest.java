/** Promises 31 to 34: NOTES, what strikes them, what is known, tastes. */
public final class NoteTest {
    private static void notes() {
        DeadMonday x = Check.house(NowTest.HALL);
        int[][] wrong = {{0, 0, 0}, {31, 0, 0}, {1, 3, 0}, {1, -1, 0}, {1, 0, 3}, {1, 0, -1}};
        for (int[] w : wrong) Check.due("note", x.note(w[0], w[1], w[2], true), -1);
        Check.due("out(0)", x.out(0), -1);
        Check.due("note 0", x.note(1, 0, 0, true), 0);
        Check.due("note 1", x.note(30, 2, 2, false), 1);
        Check.due("out(2)", x.out(2), -1);
        Check.due("out(-1)", x.out(-1), -1);
        Check.due("out(1)", x.out(1), 2);
        Check.due("out(2)", x.out(2), 3);
        Check.due("out of one struck", x.out(1), 4);
        for (int k = 5; k < 23; k++) Check.due("note", x.note(1, 0, 0, true), k);
        Check.due("the last one", x.out(7), 23);
        Check.due("a 25th", x.note(1, 0, 0, true), -1);
        Check.due("a 25th", x.out(0), -1);
        Check.due("notes", x.count(10), 24);
        x.go(5);
        x.keep();
        x.back();
        Check.due("notes stay", x.count(10), 24);
    }

    private static void known() {
        DeadMonday x = Check.house(NowTest.HALL);
        Check.due("known(0)", x.known(0), true);
        Check.due("known(1)", x.known(1), false);
        Check.due("known(-2)", x.known(-2), false);
        Check.due("known(-1)", x.known(-1), true);
        x.note(1, 1, 1, true);
        x.note(1, 1, 1, false);
        Check.due("all, those to come too", x.tastes(0), 0);
        Check.due("known(2)", x.known(2), true);
        Check.due("known(3)", x.known(3), false);
        Check.due("as it was", x.count(11), 2);
        x.known(1);
        Check.due("by the first one", x.tastes(0), 31);
        x.out(0);
        Check.due("what strikes isn't known", x.tastes(0), 31);
        x.known(3);
        Check.due("the second one is left", x.tastes(0), 1023 - 31);
        x.out(1);
        Check.due("not known yet", x.tastes(0), 1023 - 31);
        x.known(-1);
        Check.due("both are struck", x.tastes(0), 1023);
        Check.due("strike what strikes", x.out(2), 4);
        Check.due("the first one is back", x.tastes(0), 31);
        Check.due("strike that", x.out(4), 5);
        Check.due("both are struck again", x.tastes(0), 1023);
        x.known(4);
        Check.due("by the first four", x.tastes(0), 1023);
        x.known(5);
        Check.due("by the first five", x.tastes(0), 31);
        x.known(0);
        Check.due("by none", x.tastes(0), 1023);
    }

    private static void tastes() {
        DeadMonday x = Check.house("room a;room b;door a b;thing t a 0 5;dead d 9 1 0 0;dead e 5 1 0 100;");
        // liking is 30 at least for a taste 1 .. 9: it is moved once by a taste 0 alone, and again by it
        x.note(1, 0, 1, true);
        Check.due("taste 0", x.tastes(0), 1);
        Check.due("e never comes", x.tastes(1), 0);
        x.note(2, 0, 0, true);
        Check.due("and back", x.tastes(0), 1);
        x.note(30, 0, 0, true);
        Check.due("for long", x.tastes(0), 1);
        x.note(29, 0, 0, false);
        Check.due("and not", x.tastes(0), 1);
        x.rope(0, true);
        x.hang(0, 1);
        x.go(7);
        Check.due("from the text on", x.tastes(0), 1);
        Check.due("tastes(2)", x.tastes(2), -1);
        Check.due("tastes(-1)", x.tastes(-1), -1);
        Check.due("its own stays", x.dead(0, 0), 9);
        Check.due("nothing went by", x.count(6), 7);
        DeadMonday y = Check.house("room a;room b;door a b;thing t a 0 5;dead d 9 1 0 0;law like 50;law bear 49+(taste=3)+(taste=7)*2;");
        y.note(1, 0, 1, true);
        Check.due("by a law", y.tastes(0), 1 << 7);
        DeadMonday z = Check.house("room a;room b;door a b;thing t a 0 5;dead d 9 1 0 0;law like 0;law come taste=monday+4;");
        z.note(3, 0, 1, true);
        Check.due("by when it comes", z.tastes(0), 7 << 4);
    }

    public static void main(String[] args) {
        notes();
        known();
        tastes();
        Check.end("NoteTest");
    }
}
