/** Promises 13 to 15 and 37 to 39: hanging, ropes, dusting, what can be undone, images. */
public final class TuesdayTest {
    private static void hang() {
        DeadMonday x = Check.house(NowTest.HALL);
        Check.due("hang(1, 2)", x.hang(1, 2), true);
        Check.due("where it is", x.thing(1, 0), 2);
        Check.due("never moved", x.thing(1, 3) + x.count(7), 0);
        Check.due("there already", x.hang(1, 2), false);
        Check.due("no such thing", x.hang(3, 0), false);
        Check.due("no such thing", x.hang(-1, 0), false);
        Check.due("no such room", x.hang(0, 3), false);
        Check.due("no such room", x.hang(0, -1), false);
        Check.due("one to undo", x.count(12), 1);
        x.rope(0, true);
        Check.due("into a roped room", x.hang(1, 0), true);
    }

    private static void rope() {
        DeadMonday x = Check.house(NowTest.HALL);
        Check.due("it isn't roped", x.rope(0, false), false);
        Check.due("rope", x.rope(0, true), true);
        Check.due("it is so", x.rope(0, true), false);
        Check.due("ann elsewhere", x.sits(0), 1);
        Check.due("no more", x.rope(0, false), true);
        Check.due("ann there", x.sits(0), 0);
        Check.due("no such room", x.rope(3, true), false);
        Check.due("no such room", x.rope(-1, true), false);
        Check.due("no such room", x.rope(32, true), false);
        Check.due("two to undo", x.count(12), 2);
    }

    private static void dust() {
        DeadMonday x = Check.house(NowTest.HALL);
        Check.due("not warm", x.dust(0), false);
        x.go(3);
        Check.due("warm", x.room(0, 0), 3);
        Check.due("dust", x.dust(0), true);
        Check.due("no more", x.room(0, 0), 0);
        Check.due("again", x.dust(0), false);
        Check.due("no such room", x.dust(3), false);
        Check.due("no such room", x.dust(-1), false);
        Check.due("undo", x.undo(), 0);
        Check.due("warm again", x.room(0, 0), 3);
        Check.due("came all the same", x.count(9), 4);
    }

    private static void undo() {
        DeadMonday x = Check.house(NowTest.HALL);
        Check.due("nothing", x.undo(), -1);
        x.hang(0, 1);
        x.hang(0, 2);
        x.rope(2, true);
        x.hang(0, 2);
        Check.due("three", x.count(12), 3);
        Check.due("the rope", x.undo(), 2);
        Check.due("no rope", x.room(2, 1), 0);
        Check.due("the latest", x.undo(), 1);
        Check.due("den", x.thing(0, 0), 1);
        Check.due("the first", x.undo(), 0);
        Check.due("hall", x.thing(0, 0), 0);
        Check.due("nothing", x.undo(), -1);
        x.hang(0, 1);
        Check.due("no monday", x.go(0), 0);
        Check.due("a wrong number", x.go(100), -1);
        Check.due("still one", x.count(12), 1);
        x.go(1);
        Check.due("a monday went by", x.undo(), -1);
        Check.due("hung still", x.thing(0, 0), 1);
    }

    private static void twenty() {
        DeadMonday x = Check.house(NowTest.HALL);
        for (int k = 1; k <= 25; k++) {
            x.hang(0, k % 3);
            Check.due("to undo", x.count(12), Math.min(k, 20));
        }
        for (int k = 19; k >= 0; k--) {
            Check.due("undo", x.undo(), k);
            Check.due("as it was", x.thing(0, 0), (k + 5) % 3);
        }
        Check.due("no more than twenty", x.undo(), -1);
        DeadMonday y = Check.house(NowTest.HALL);
        for (int k = 0; k < 21; k++) y.rope(1, k % 2 == 0);
        for (int k = 0; k < 20; k++) y.undo();
        Check.due("the first rope can't be undone", y.room(1, 1), 1);
        // of 22 in turn the first two are lost: the bust's and the rug's first ones
        DeadMonday z = Check.house(NowTest.HALL);
        for (int k = 0; k < 22; k++) z.hang(k % 3, (z.thing(k % 3, 0) + 1) % 3);
        for (int k = 0; k < 20; k++) z.undo();
        Check.due("each its own", z.thing(0, 0) * 100 + z.thing(1, 0) * 10 + z.thing(2, 0), 111);
    }

    private static void images() {
        DeadMonday x = Check.house(NowTest.HALL);
        Check.due("none", x.back(), -1);
        x.go(1);
        x.rope(2, true);
        Check.due("keep", x.keep(), 1);
        Check.due("undo stays", x.count(12), 1);
        x.go(2);
        x.rope(2, false);
        x.hang(0, 2);
        x.dust(0);
        x.note(1, 0, 0, true);
        Check.due("back", x.back(), 1);
        Check.due("monday", x.count(6), 1);
        Check.due("nothing to undo", x.count(12), 0);
        Check.due("nothing to undo", x.undo(), -1);
        Check.due("roped", x.room(2, 1), 1);
        Check.due("bust", x.thing(0, 0), 0);
        Check.due("rug", x.thing(1, 0) * 10 + x.thing(1, 3), 11);
        Check.due("warm", x.room(0, 0), 1);
        Check.due("came", x.dead(0, 4), 1);
        Check.due("notes stay", x.count(10), 1);
        x.go(3);
        Check.due("back again", x.back(), 1);
        x.go(1);
        Check.due("in place of one ahead", x.keep(), 2);
        x.go(5);
        Check.due("back to that", x.back(), 2);
        Check.due("keep of a new object", new DeadMonday().keep(), 0);
    }

    public static void main(String[] args) {
        hang();
        rope();
        dust();
        undo();
        twenty();
        images();
        Check.end("TuesdayTest");
    }
}
