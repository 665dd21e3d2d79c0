/** What the staff do on Tuesdays, what can be undone, images: Terms of ==== 4, promises 13 to 15 and 37 to 39. */
public final class TuesdayTest {
    private static void stays(DeadMonday x, String seen, String call, boolean answer) {
        Check.due(call, answer, false);
        Check.same(call + " changes nothing", Check.seen(x), seen);
    }

    // ---- promises 13 to 15

    @Says(promise = 13, value = "A THING is hung in a ROOM: true;")
    static void hanging() {
        DeadMonday x = Check.house(NowTest.HALL);
        Check.due("hang(1, 2)", x.hang(1, 2), true);
        Check.due("where it is", x.thing(1, 0), 2);
        Check.due("the rooms", x.room(0, 3) * 100 + x.room(1, 3) * 10 + x.room(2, 3), 142);
        Check.due("never moved", x.thing(1, 3) + x.count(7), 0);
        Check.due("the first and the last room", x.hang(2, 0), true);
        Check.due("where it is", x.thing(2, 0), 0);
        x.rope(1, true);
        Check.due("into a roped room without a door to it", x.hang(2, 1), true);
        Check.due("out of it", x.hang(2, 2), true);
        Check.due("to undo", x.count(12), 5);
    }

    @Says(promise = 13, value = "false: no such ones, there already.")
    static void notHung() {
        DeadMonday x = Check.house(NowTest.HALL);
        String seen = Check.seen(x);
        stays(x, seen, "there already", x.hang(1, 0));
        stays(x, seen, "no such thing", x.hang(3, 0));
        stays(x, seen, "no such room", x.hang(0, 3));
        for (int far : NowTest.FAR) {
            stays(x, seen, "hang(" + far + ", 1)", x.hang(far, 1));
            stays(x, seen, "hang(0, " + far + ")", x.hang(0, far));
        }
        x.hang(1, 2);
        stays(x, Check.seen(x), "there by now", x.hang(1, 2));
        Check.due("of a new object", new DeadMonday().hang(0, 0), false);
    }

    @Says(promise = 14, value = "A ROOM is ROPED off from now on, or no more: true;")
    static void roping() {
        DeadMonday x = Check.house(NowTest.HALL);
        Check.due("rope", x.rope(0, true), true);
        Check.due("it is so", x.room(0, 1), 1);
        Check.due("ann elsewhere", x.sits(0), 1);
        x.go(1);
        Check.due("from now on", x.room(0, 1) * 10 + x.room(0, 0), 10);
        Check.due("no more", x.rope(0, false), true);
        Check.due("it is so", x.room(0, 1), 0);
        Check.due("ann there", x.sits(0), 0);
        Check.due("the last room", x.rope(2, true), true);
        Check.due("it alone", x.room(0, 1) * 100 + x.room(1, 1) * 10 + x.room(2, 1), 1);
    }

    @Says(promise = 14, value = "false: no such ROOM, it is so.")
    static void notRoped() {
        DeadMonday x = Check.house(NowTest.HALL);
        String seen = Check.seen(x);
        stays(x, seen, "it isn't roped", x.rope(0, false));
        for (boolean is : new boolean[] {true, false}) {
            stays(x, seen, "no such room", x.rope(3, is));
            for (int far : NowTest.FAR) stays(x, seen, "rope(" + far + ")", x.rope(far, is));
        }
        x.rope(0, true);
        stays(x, Check.seen(x), "it is roped", x.rope(0, true));
        Check.due("of a new object", new DeadMonday().rope(0, true), false);
        Check.due("of a new object", new DeadMonday().rope(0, false), false);
    }

    @Says(promise = 15, value = "A ROOM is dusted: it isn't WARM any more: true;")
    static void dusting() {
        DeadMonday x = Check.house(NowTest.HALL);
        x.go(3);
        Check.due("warm", x.room(0, 0) * 10 + x.room(1, 0), 31);
        Check.due("dust", x.dust(0), true);
        Check.due("it isn't, the other one is", x.room(0, 0) * 10 + x.room(1, 0), 1);
        Check.due("one that is warm by 1", x.dust(1), true);
        Check.due("nor that", x.room(1, 0), 0);
        Check.due("they came all the same", x.count(9), 4);
        x.go(1);
        Check.due("warm again, and again it can be", x.dust(0), true);
    }

    @Says(promise = 15, value = "false: no such ROOM, it isn't WARM.")
    static void notDusted() {
        DeadMonday x = Check.house(NowTest.HALL);
        String seen = Check.seen(x);
        for (int r = 0; r <= 3; r++) stays(x, seen, "dust(" + r + ")", x.dust(r));
        for (int far : NowTest.FAR) stays(x, seen, "dust(" + far + ")", x.dust(far));
        x.go(1);
        x.dust(0);
        stays(x, Check.seen(x), "dusted already", x.dust(0));
        Check.due("of a new object", new DeadMonday().dust(0), false);
    }

    // ---- what can be undone

    @Says({"Hanging, ropes, dusting by call can be undone, the latest first"})
    static void theLatestFirst() {
        DeadMonday x = Check.house(NowTest.HALL);
        x.go(3);
        x.keep();
        String[] seen = new String[6];
        int steps = 0;
        seen[steps++] = Check.seen(x);
        x.hang(0, 1);
        seen[steps++] = Check.seen(x);
        x.dust(0);
        seen[steps++] = Check.seen(x);
        x.rope(2, true);
        seen[steps++] = Check.seen(x);
        x.hang(0, 2);
        seen[steps++] = Check.seen(x);
        x.rope(2, false);
        for (int left = 4; left >= 0; left--) {
            Check.due("undo", x.undo(), left);
            Check.same("as it was", Check.seen(x), seen[left]);
        }
        Check.due("none", x.undo(), -1);
        Check.same("as it was", Check.seen(x), seen[0]);
    }

    @Says("(20 at most),")
    static void twentyAtMost() {
        DeadMonday x = Check.house(NowTest.HALL);
        for (int k = 1; k <= 25; k++) {
            x.hang(0, k % 3);
            Check.due("to undo", x.count(12), Math.min(k, 20));
        }
        for (int k = 19; k >= 0; k--) {
            Check.due("undo", x.undo(), k);
            Check.due("as it was", x.thing(0, 0), (k + 5) % 3);
        }
        Check.due("no more than twenty", x.undo(), -1);
        Check.due("the sixth stays", x.thing(0, 0), 2);
        // just twenty: all of them
        DeadMonday y = Check.house(NowTest.HALL);
        String seen = Check.seen(y);
        for (int k = 0; k < 20; k++) y.rope(1, k % 2 == 0);
        for (int k = 19; k >= 0; k--) Check.due("undo", y.undo(), k);
        Check.same("as at first", Check.seen(y), seen);
        // 21: all but the first one
        for (int k = 0; k < 21; k++) y.rope(1, k % 2 == 0);
        for (int k = 19; k >= 0; k--) Check.due("undo", y.undo(), k);
        Check.due("the first rope can't be undone", y.undo() * 10 + y.room(1, 1), -9);
        // of 22 in turn the first two are lost, which were the bust's and the rug's
        DeadMonday z = Check.house(NowTest.HALL);
        for (int k = 0; k < 22; k++) z.hang(k % 3, (z.thing(k % 3, 0) + 1) % 3);
        for (int k = 0; k < 20; k++) z.undo();
        Check.due("each its own", z.thing(0, 0) * 100 + z.thing(1, 0) * 10 + z.thing(2, 0), 111);
    }

    @Says("(20 at most),")
    static void theLatestTwenty() {
        DeadMonday x = Check.house(Check.FULL);
        x.go(9);
        String[] seen = new String[40];
        int done = 0;
        for (int k = 0; done < 39; k++) {
            seen[done] = Check.seen(x);
            int pick = k * 7 % 11;
            boolean is = pick < 5 ? x.hang(k % 8, (k * k + 3) % 6) : pick < 9 ? x.rope(k * 5 % 6, k % 4 < 2) : done % 9 == 8 ? x.dust(k % 6) : x.hang(7, k % 6);
            if (is) done++;
        }
        Check.due("twenty", x.count(12), 20);
        for (int k = 19; k >= 0; k--) {
            Check.due("undo", x.undo(), k);
            // all but what tells how many can be undone
            String want = seen[done - 20 + k];
            Check.same("as it was", Check.seen(x).replaceFirst("[0-9]+ \\|", "|"), want.replaceFirst("[0-9]+ \\|", "|"));
        }
        Check.due("no more", x.undo(), -1);
    }

    @Says("if no MONDAY went by since.")
    static void noMondayWentBy() {
        DeadMonday x = Check.house(NowTest.HALL);
        x.hang(0, 1);
        Check.due("no monday", x.go(0), 0);
        Check.due("wrong numbers", x.go(100) + x.go(-1), -2);
        Check.due("only asked", x.ahead(5, 1, 0) + x.quiet() + x.tickets(3) >= 0, true);
        Check.due("still one", x.count(12), 1);
        Check.due("a monday", x.go(1), 1);
        Check.due("none", x.count(12), 0);
        Check.due("none", x.undo(), -1);
        Check.due("hung still", x.thing(0, 0), 1);
        x.hang(0, 2);
        Check.due("those since then alone", x.undo(), 0);
        Check.due("hung as it was then", x.thing(0, 0), 1);
    }

    @Says(promise = 37, value = "The latest is undone: how many are left;")
    static void undoing() {
        DeadMonday x = Check.house(NowTest.HALL);
        x.hang(0, 1);
        x.hang(0, 2);
        x.rope(2, true);
        // what was refused can't be undone
        x.hang(0, 2);
        x.rope(2, true);
        x.dust(0);
        Check.due("three", x.count(12), 3);
        Check.due("the rope", x.undo(), 2);
        Check.due("no rope", x.room(2, 1), 0);
        Check.due("the latest hanging", x.undo(), 1);
        Check.due("den", x.thing(0, 0), 1);
        // an undoing isn't one that can be undone
        x.rope(1, true);
        Check.due("the new one", x.undo(), 1);
        Check.due("the first", x.undo(), 0);
        Check.due("hall", x.thing(0, 0), 0);
    }

    @Says(promise = 37, value = "NONE: none.")
    static void nothingToUndo() {
        Check.due("of a new object", new DeadMonday().undo(), -1);
        DeadMonday x = Check.house(NowTest.HALL);
        String seen = Check.seen(x);
        Check.due("none", x.undo(), -1);
        x.note(1, 0, 0, true);
        x.known(0);
        x.keep();
        Check.due("notes and images are none", x.undo(), -1);
        x.rope(0, true);
        Check.due("one", x.undo(), 0);
        Check.due("none again", x.undo(), -1);
        Check.due("notes stay", x.count(10), 1);
        DeadMonday y = Check.house(NowTest.HALL);
        y.undo();
        Check.same("nothing changes", Check.seen(y), seen);
    }

    // ---- images

    @Says("An IMAGE keeps all but NOTES.")
    static void imageKeepsAll() {
        DeadMonday x = Check.house("room a;room b;room c;door a b;thing t a 0 9;thing u c 0 9;dead d 0 1 0 0;dead e 9 1 0 0;law like 20-warm;");
        x.hang(1, 0);
        x.rope(1, true);
        x.go(4);
        String seen = Check.seen(x);
        x.keep();
        x.rope(1, false);
        x.rope(0, true);
        x.go(7);
        x.hang(0, 2);
        x.dust(1);
        x.dust(2);
        x.go(1);
        Check.due("much is otherwise", Check.seen(x).equals(seen), false);
        Check.due("back", x.back(), 4);
        Check.same("all is as it was", Check.seen(x), seen);
        // and the same comes of it
        int then = x.ahead(9, 1, 0) * 1000 + x.ahead(9, 2, 0) * 10 + x.ahead(9, 0, 0);
        x.go(5);
        x.back();
        Check.due("the same comes of it", x.ahead(9, 1, 0) * 1000 + x.ahead(9, 2, 0) * 10 + x.ahead(9, 0, 0), then);
        // NOTES come and stay
        x.note(1, 0, 0, true);
        x.keep();
        x.note(1, 0, 1, true);
        x.out(0);
        x.known(2);
        x.back();
        Check.due("notes", x.count(10), 3);
        Check.due("known", x.count(11), 2);
    }

    @Says(promise = 38, value = "An IMAGE is kept (in place of one ahead): which MONDAY it is.")
    static void keeping() {
        Check.due("of a new object", new DeadMonday().keep(), 0);
        DeadMonday x = Check.house(NowTest.HALL);
        Check.due("at first", x.keep(), 0);
        x.go(3);
        x.rope(1, true);
        Check.due("in place of it", x.keep(), 3);
        Check.due("what can be undone stays", x.count(12), 1);
        x.go(9);
        Check.due("the latest", x.back(), 3);
        Check.due("roped", x.room(1, 1), 1);
        // what comes later doesn't change it
        x.rope(1, false);
        x.back();
        Check.due("roped still", x.room(1, 1), 1);
    }

    @Says(promise = 39, value = "All (but NOTES) is as in the IMAGE (nothing to undo then): which MONDAY it is;")
    static void goingBack() {
        DeadMonday x = Check.house(NowTest.HALL);
        x.go(1);
        x.rope(2, true);
        x.keep();
        x.go(2);
        x.rope(2, false);
        x.hang(0, 2);
        x.dust(0);
        x.note(1, 0, 0, true);
        Check.due("three to undo", x.count(12), 3);
        Check.due("back", x.back(), 1);
        Check.due("monday", x.count(6), 1);
        Check.due("nothing to undo", x.count(12), 0);
        Check.due("nothing to undo", x.undo(), -1);
        Check.due("roped", x.room(2, 1), 1);
        Check.due("bust", x.thing(0, 0), 0);
        Check.due("rug", x.thing(1, 0) * 10 + x.thing(1, 3), 11);
        Check.due("warm", x.room(0, 0), 1);
        Check.due("came", x.dead(0, 4), 1);
        Check.due("notes stay", x.count(10), 1);
        // one that was to undo when it was kept isn't any more
        x.rope(0, true);
        x.keep();
        Check.due("back at once", x.back(), 1);
        Check.due("nothing to undo", x.undo(), -1);
        Check.due("roped", x.room(0, 1), 1);
        x.go(3);
        Check.due("again", x.back(), 1);
        Check.due("and again", x.back(), 1);
        DeadMonday y = Check.house(NowTest.HALL);
        y.keep();
        y.go(99);
        Check.due("to monday 0", y.back(), 0);
        Check.same("as at first", Check.seen(y), Check.seen(Check.house(NowTest.HALL)));
    }

    @Says(promise = 39, value = "NONE: there is none.")
    static void noImage() {
        Check.due("of a new object", new DeadMonday().back(), -1);
        DeadMonday x = Check.house(NowTest.HALL);
        x.go(2);
        x.rope(0, true);
        String seen = Check.seen(x);
        Check.due("none", x.back(), -1);
        Check.same("nothing changes", Check.seen(x), seen);
        x.keep();
        Check.tell(x, NowTest.HALL);
        Check.due("none of another text", x.back(), -1);
    }

    public static void main(String[] args) throws ReflectiveOperationException {
        Check.run(TuesdayTest.class);
    }
}
