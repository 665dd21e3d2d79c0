/** Promises 1 to 5: a new object, the TAPE, TEXTS and their FAULTS, names. */
public final class TextTest {
    private static final String ROOMS = "room a;room b;room c;room d;room e;room f;";

    private static void newObject() {
        DeadMonday x = new DeadMonday();
        for (int what = 0; what <= 12; what++) Check.due("count(" + what + ") of a new object", x.count(what), 0);
        Check.due("fault(0) of a new object", x.fault(0), 0);
        Check.due("fault(1) of a new object", x.fault(1), -1);
        Check.due("fault(2)", x.fault(2), -1);
        Check.due("fault(-1)", x.fault(-1), -1);
        Check.due("text(1) of an empty tape", x.text(1), -2);
        Check.due("text(0) of an empty tape", x.text(0), 0);
        Check.due("NONE", DeadMonday.NONE, -1);
    }

    private static void tape() {
        DeadMonday x = new DeadMonday();
        for (int k = 1; k <= 35; k++) Check.due("feed " + k, x.feed(0x20202020, 0x20202020, 0x20202020, 0x20202020, 0x2020200a), 20 * k);
        Check.due("feed beyond 700", x.feed(0, 0, 0, 0, 0), -1);
        Check.due("feed beyond 700 again", x.feed(0, 0, 0, 0, 0), -1);
        Check.due("text(701)", x.text(701), -2);
        Check.due("text(700)", x.text(700), 0);
        Check.due("the tape is empty then", x.feed(0x726f6f6d, 0x20613b72, 0x6f6f6d20, 0x623b8000, -1), 20);
        Check.due("text(21)", x.text(21), -2);
        Check.due("text(-1)", x.text(-1), -2);
        Check.due("text(MIN)", x.text(Integer.MIN_VALUE), -2);
        Check.due("the tape stays with -2", x.feed(0, 0, 0, 0, 0), 40);
        Check.due("the first n bytes alone", x.text(14), 2);
        Check.due("text(1) of an empty tape", x.text(1), -2);
        Check.due("names by high bytes first", x.named(0, Check.letters("b")), 1);
        Check.feed(x, "room a;  ");
        Check.due("a fault by a byte of 0", x.feed(0, 0, 0, 0, 0), 40);
        Check.due("text(21)", x.text(21), -1);
        Check.due("its place", x.fault(1), 20);
        Check.due("the tape is empty with a fault", x.feed(0, 0, 0, 0, 0), 20);
    }

    private static void beginsAnew() {
        DeadMonday x = Check.house("room a;room b;door a b;thing t a 0 0;dead d 9 1 0 0;law like warm*2;");
        x.go(3);
        x.keep();
        x.note(1, 0, 0, true);
        x.known(0);
        x.rope(0, true);
        int moved = x.count(7);
        Check.due("text with a fault", Check.tell(x, "room a;room a;"), -1);
        Check.due("fault", x.fault(0), 3);
        Check.due("all stays: rooms", x.count(0), 2);
        Check.due("all stays: monday", x.count(6), 3);
        Check.due("all stays: moved", x.count(7), moved);
        Check.due("all stays: notes", x.count(10), 1);
        Check.due("all stays: known", x.count(11), 0);
        Check.due("all stays: undo", x.count(12), 1);
        Check.due("all stays: knots", x.count(5), 3);
        Check.due("all stays: roped", x.room(0, 1), 1);
        Check.due("all stays: law", x.law(0, 0, 0), 2 * x.room(x.thing(0, 0), 0));
        Check.due("-2", x.text(5), -2);
        Check.due("fault of the latest that was not -2", x.fault(0), 3);
        Check.due("a text again", Check.tell(x, "room a;room b;thing t b 0 0;dead d 9 1 0 0;"), 4);
        int[] want = {2, 0, 1, 1, 0, 0, 0, 0, 0, 0, 0, 0, 0};
        for (int what = 0; what <= 12; what++) Check.due("count(" + what + ") behind a text", x.count(what), want[what]);
        Check.due("not roped", x.room(0, 1), 0);
        Check.due("not warm", x.room(0, 0) + x.room(1, 0), 0);
        Check.due("no image", x.back(), -1);
        Check.due("nothing to undo", x.undo(), -1);
        Check.due("no door", x.door(0, 1), 0);
        Check.due("no law", x.law(0, 0, 0), Long.MIN_VALUE);
        Check.due("plain liking", x.liking(0, 0), 5);
        Check.due("fault(0)", x.fault(0), 0);
        Check.due("fault(1)", x.fault(1), -1);
        x.note(1, 0, 0, true);
        Check.due("all known again", x.count(11), 1);
    }

    private static void tokens() {
        Check.good("", 0);
        Check.good(" \n ", 0);
        Check.good("\n room\na ;\n", 1);
        Check.good("room abcdef;", 1);
        Check.good("room a;thing a a5 9;dead a9 5 1 100;", 3);
        Check.good("glass 00000000000000000000099;", 1);
        Check.fault("room", 1, 4);
        Check.fault("room a", 1, 6);
        Check.fault("room a \n ", 1, 9);
        Check.fault("room abcdefg;", 1, 5);
        Check.fault("room room;", 1, 5);
        Check.fault("room monday;", 1, 5);
        Check.fault("room 1;", 1, 5);
        Check.fault("room A;", 1, 5);
        Check.fault("room a1;", 1, 6);
        Check.fault("room a\t;", 1, 6);
        Check.fault("rooms a;", 1, 0);
        Check.fault("like 1;", 1, 0);
        Check.fault(";", 1, 0);
        Check.fault("room a;;", 1, 7);
        Check.fault("room a b;", 1, 7);
        Check.fault("room a;" + (char) 233, 1, 7);
        Check.fault("glass a;", 1, 6);
        Check.fault("glass;", 1, 5);
        Check.fault("glass -1;", 1, 6);
        Check.fault("glass 1 2;", 1, 8);
        Check.fault("room a;door a;", 1, 13);
        Check.fault("room a;door 1 a;", 1, 12);
        Check.fault("room a;door a 1;", 1, 14);
        Check.fault("room a;thing t room 1 1;", 1, 15);
        Check.fault("room a;thing t a 1;", 1, 18);
        Check.fault("room a;dead d 1 1 1;", 1, 19);
    }

    private static void tooMuch() {
        Check.good(ROOMS, 6);
        Check.fault(ROOMS + " room a;", 2, 43);
        Check.fault(ROOMS + "room", 2, 42);
        String doors = ROOMS + "door a b;door a c;door a d;door a e;door a f;door b c;door b d;door b e;door b f;";
        Check.good(doors, 15);
        Check.fault(doors + "door c d;", 2, doors.length());
        String things = "room a;";
        for (char c = 'a'; c <= 'h'; c++) things += "thing " + c + " a 5 9;";
        Check.good(things, 9);
        Check.fault(things + "thing a q 9 99;", 2, things.length());
        String dead = "";
        for (char c = 'a'; c <= 'f'; c++) dead += "dead " + c + " 9 5 1 100;";
        Check.good(dead, 6);
        Check.fault(dead + "dead", 2, dead.length());
        String glass = "";
        for (int k = 0; k < 9; k++) glass += "glass 99;";
        Check.good(glass, 9);
        Check.fault(glass + "glass 1;", 2, 81);
        Check.good("seed 99999;", 1);
        Check.fault("seed 100000;", 2, 5);
        Check.fault("glass 100;", 2, 6);
        Check.fault("glass 18446744073709551616;", 2, 6);
        Check.fault("glass 4294967296;", 2, 6);
        Check.fault("room a;thing t a 6 1;", 2, 17);
        Check.fault("room a;thing t a 5 10;", 2, 19);
        Check.fault("dead d 10 0 0 0;", 2, 7);
        Check.fault("dead d 0 6 0 0;", 2, 9);
        Check.fault("dead d 0 0 2 0;", 2, 11);
        Check.fault("dead d 0 0 0 101;", 2, 13);
        Check.good("law like 9999;", 1);
        Check.fault("law like 10000;", 2, 9);
        Check.good("law like ((((((((1))))))))+(1);", 1);
        Check.fault("law like (((((((((1)))))))));", 2, 17);
        Check.fault("law like 1+(((((((((1)))))))));", 2, 19);
        String sum = "law like 1";
        for (int k = 0; k < 31; k++) sum += "+1";
        Check.good(sum + ";", 1);
        Check.good(sum + ";law come 1;", 2);
        Check.fault(sum + ";law come 1+1;", 2, sum.length() + 11);
        Check.fault(sum + ";law come not 1;", 2, sum.length() + 14);
        Check.fault(sum + "+1;", 2, sum.length() + 1);
        Check.fault(sum + "++;", 1, sum.length() + 1);
        Check.fault(sum + ";law bear (1 and", 2, sum.length() + 13);
        Check.fault(sum + ";law bear (1 1", 1, sum.length() + 13);
        DeadMonday x = Check.house(sum + ";law come 1;");
        Check.due("knots", x.count(5), 64);
    }

    private static void toldTwice() {
        Check.fault("room a;room a;", 3, 12);
        Check.good("room a;thing a a 1 1;dead a 1 1 1 1;", 3);
        Check.fault("room a;thing a a 1 1;thing a b", 3, 27);
        Check.fault("dead a 1 1 1 1;dead a", 3, 20);
        Check.fault("room a;room b;door a b;door a b;", 3, 30);
        Check.fault("room a;room b;door a b;door b a;", 3, 30);
        Check.fault("seed 1;seed x", 3, 7);
        Check.fault("law come 1;law come", 3, 15);
        Check.good("law come 1;law like 1;law bear 1;", 3);
        Check.fault("door a b;", 4, 5);
        Check.fault("room a;door a b;room b;", 4, 14);
        Check.fault("thing t a 1 1;room a;", 4, 8);
        Check.fault("room a;thing a b", 4, 15);
        Check.fault("room a;door a a;", 5, 14);
        Check.fault("door q q;", 4, 5);
        // the first along the text
        Check.fault("room a;door a a;#", 5, 14);
        Check.fault("room a;thing t b 9 #", 4, 15);
    }

    private static void grammar() {
        Check.good("law like age+kind*taste-fond/warm<=gauge and not monday or 2;", 1);
        Check.good("law like not not not 1<2 and not(1)or 2;", 1);
        Check.good("law like (1<2)<(3>4);", 1);
        Check.good("law like 1<2 and 3<4 or 5<6;", 1);
        Check.good("law like 1<>2;law bear 1>=2;law come 1<=2;", 3);
        Check.fault("law like;", 1, 8);
        Check.fault("law like", 1, 8);
        Check.fault("law like 1", 1, 10);
        Check.fault("law like 1<2<3;", 1, 12);
        Check.fault("law like 1<2+4*5=3;", 1, 16);
        Check.fault("law like 1+not 2;", 1, 11);
        Check.fault("law like 1<not 2;", 1, 11);
        Check.fault("law like (1+not 2);", 1, 12);
        Check.fault("law like 1 not 2;", 1, 11);
        Check.fault("law like -1;", 1, 9);
        Check.fault("law like 1 2;", 1, 11);
        Check.fault("law like 1 age;", 1, 11);
        Check.fault("law like 1(2);", 1, 10);
        Check.fault("law like );", 1, 9);
        Check.fault("law like 1);", 1, 10);
        Check.fault("law like (1;", 1, 11);
        Check.fault("law like ();", 1, 10);
        Check.fault("law like 1 or;", 1, 13);
        Check.fault("law like 1< =2;", 1, 12);
        Check.fault("law like 1< >2;", 1, 12);
        Check.fault("law like 1=<2;", 1, 11);
        Check.fault("law like 1><2;", 1, 11);
        Check.fault("law like 1<==2;", 1, 12);
        Check.fault("law like 1==2;", 1, 11);
        Check.fault("law like room;", 1, 9);
        Check.fault("law like a;", 1, 9);
        Check.fault("law room 1;", 1, 4);
        Check.fault("law a 1;", 1, 4);
        Check.fault("law", 1, 3);
    }

    private static void names() {
        DeadMonday x = Check.house("room a;room z;room abcdef;thing a z 1 1;thing az a 1 1;dead abc 0 0 0 0;");
        Check.due("room a", x.named(0, 1 << 25), 0);
        Check.due("room z", x.named(0, 26 << 25), 1);
        Check.due("room abcdef", x.named(0, 1 << 25 | 2 << 20 | 3 << 15 | 4 << 10 | 5 << 5 | 6), 2);
        Check.due("thing a", x.named(1, 1 << 25), 0);
        Check.due("thing az", x.named(1, 1 << 25 | 26 << 20), 1);
        Check.due("dead abc", x.named(2, 1 << 25 | 2 << 20 | 3 << 15), 0);
        Check.due("dead a", x.named(2, 1 << 25), -1);
        Check.due("room az", x.named(0, 1 << 25 | 26 << 20), -1);
        Check.due("letters at the low end", x.named(0, 1), -1);
        Check.due("no letters", x.named(0, 0), -1);
        Check.due("bits above", x.named(0, 1 << 25 | 1 << 30), -1);
        Check.due("below 0", x.named(0, 1 << 25 | 1 << 31), -1);
        Check.due("what 3", x.named(3, 1 << 25), -1);
        Check.due("what -1", x.named(-1, 1 << 25), -1);
    }

    public static void main(String[] args) {
        newObject();
        tape();
        beginsAnew();
        tokens();
        tooMuch();
        toldTwice();
        grammar();
        names();
        Check.end("TextTest");
    }
}
