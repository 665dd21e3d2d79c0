/** The TAPE, TEXTS and their FAULTS, names: the Terms of ==== 1, promises 1 to 5. */
public final class TextTest {
    private static final String ROOMS = "room a;room b;room c;room d;room e;room f;";
    private static final String DOORS = "door a b;door a c;door a d;door a e;door a f;door b c;door b d;door b e;door b f;";
    // texts behind which a W must come
    private static final String[] AHEAD_OF_W = {"room ", "room q;door ", "room q;door q ", "thing ", "room q;thing t ", "dead "};
    private static final String[] REACHING = {"+", "-", "*", "/", "<", "<=", "=", "<>", ">=", ">"};
    private static final String[] JOINING = {" and ", " or "};
    private static final String[] COMPARING = {"<", "<=", "=", "<>", ">=", ">"};

    /** A law like that has so many KNOTS, without its ';'. */
    private static String knots(int n) {
        StringBuilder law = new StringBuilder(n % 2 == 0 ? "law like not 1" : "law like 1");
        for (int k = n % 2 == 0 ? 2 : 1; k < n; k += 2) law.append("+1");
        return law.toString();
    }

    private static String eight(String word, String rest) {
        StringBuilder text = new StringBuilder();
        for (char c = 'a'; c <= 'h'; c++) text.append(word).append(' ').append(c).append(rest);
        return text.toString();
    }

    // ---- LINES and TOKENS

    @Says("A TEXT: { LINE ';' }.")
    static void everyLineEnds() {
        Check.good("", 0);
        Check.good(" \n ", 0);
        Check.good("room a;", 1);
        Check.good("\n room\na ;\n", 1);
        Check.good("room a;room b;", 2);
        Check.faultBehind("", ";", 1);
        Check.faultBehind("room a;", ";", 1);
        Check.faultBehind("room a ", "room b;", 1);
        Check.fault("room a", 1, 6);
        Check.fault("room a;room b", 1, 13);
    }

    @Says("LINE: room W | door W W | thing W W N N | dead W N N N N | glass N | seed N | law RULE E.")
    static void everyLineIsWhole() {
        String ahead = "room a;room b;";
        for (String line : new String[] {"room c", "door a b", "thing t a 0 0", "dead d 0 0 0 0", "glass 0", "seed 0", "law like 0"}) {
            Check.good(ahead + line + ";", 3);
            String told = ahead;
            String other = "";
            for (String token : line.split(" ")) {
                if (!told.equals(ahead)) {
                    other = token.matches("[0-9]+") ? "q" : "7";
                    Check.fault(told, 1, told.length());
                    Check.faultBehind(told, ";", 1);
                    Check.faultBehind(told, other, 1);
                }
                Check.faultBehind(told, "#", 1);
                told += token + " ";
            }
            Check.fault(told, 1, told.length());
            Check.faultBehind(told, "7;", 1);
            Check.faultBehind(told, "q;", 1);
        }
        for (String word : Plain.LANGUAGE.subList(7, 20)) Check.faultBehind("room a;", word + " b;", 1);
        Check.faultBehind("room a;", "b;", 1);
        Check.faultBehind("", "rooms a;", 1);
        Check.faultBehind("", "roo a;", 1);
        Check.faultBehind("", "1;", 1);
    }

    @Says("RULE: like | bear | come.")
    static void threeRules() {
        Check.good("law come 1;law like 1;law bear 1;", 3);
        for (String word : Plain.LANGUAGE) {
            if (!word.equals("like") && !word.equals("bear") && !word.equals("come")) Check.faultBehind("law ", word + " 1;", 1);
        }
        Check.faultBehind("law ", "likes 1;", 1);
        Check.faultBehind("law ", "a 1;", 1);
        Check.fault("law", 1, 3);
    }

    @Says("Words: small letters in a row;")
    static void smallLetters() {
        Check.good("room a;room z;room az;", 3);
        for (char sign : new char[] {'a' - 1, 'z' + 1, 'A', 'Z', 'a' + 128, 'z' + 128, '_'}) {
            Check.faultBehind("room ", sign + ";", 1);
            Check.faultBehind("room a", sign + ";", 1);
        }
        Check.faultBehind("", "rooma;", 1);
        Check.faultBehind("", "Room a;", 1);
        Check.faultBehind("room a ", "b;", 1);
    }

    @Says("W: one of 1 .. 6 letters,")
    static void oneToSixLetters() {
        Check.good("room a;room abcdef;door a abcdef;thing t a 0 0;thing tuvwxy abcdef 0 0;dead d 0 0 0 0;dead defghi 0 0 0 0;", 7);
        for (String ahead : AHEAD_OF_W) {
            Check.faultBehind(ahead, "abcdefg", 1);
            Check.faultBehind(ahead, "abcdefg 0 0 0 0;", 1);
            Check.faultBehind(ahead, "mondayx;", 1);
            Check.faultBehind(ahead, ";", 1);
        }
        // the first six letters alone would be told ahead
        Check.faultBehind("room abcdef;room x;door x ", "abcdefg;", 1);
    }

    @Says("none of those of the language;")
    static void noWordOfTheLanguage() {
        Check.due("words of the language", Plain.LANGUAGE.size(), 20);
        for (String ahead : AHEAD_OF_W) for (String word : Plain.LANGUAGE) Check.faultBehind(ahead, word + ";", 1);
        Check.good("room rooms;room roo;room mon;room days;", 4);
    }

    @Says("N: digits.")
    static void digits() {
        Check.good("glass 0;glass 9;glass 00000000000000000000000000000099;", 3);
        for (char sign : new char[] {'0' - 1, '9' + 1, '-', '+', '.', '0' + 128}) {
            Check.faultBehind("glass ", sign + "1;", 1);
            Check.faultBehind("glass 1", sign + ";", 1);
        }
        Check.faultBehind("glass 1", "a;", 1);
        Check.faultBehind("glass 1 ", "1;", 1);
        // the number of KIND may come right behind the ROOM
        Check.good("room a;thing a a5 9;dead a9 5 1 100;", 3);
    }

    @Says("Blanks 10, 32.")
    static void blanks() {
        for (int sign = 0; sign <= 255; sign++) {
            String text = "room" + (char) sign + "a;";
            boolean letter = sign >= 'a' && sign <= 'z';
            if (sign == 10 || sign == 32) {
                Check.good(text, 1);
            } else {
                Check.fault(text, 1, letter ? 0 : 4);
            }
        }
        Check.faultBehind("room a;", "" + (char) 0, 1);
        Check.faultBehind("room a;", "" + (char) 9, 1);
        Check.faultBehind("room a;", "" + (char) 13, 1);
        Check.faultBehind("room a;", "" + (char) 255, 1);
    }

    // ---- E

    @Says({"E: A { or A }. A: B { and B }.", "S: T { ( + | - ) T }. T: P { ( * | / ) P }."})
    static void bothSidesStand() {
        for (String[] signs : new String[][] {REACHING, JOINING}) {
            for (String sign : signs) {
                Check.good("law like 1" + sign + "2;", 1);
                Check.fault("law like 1" + sign, 1, 10 + sign.length());
                Check.faultBehind("law like 1" + sign, ";", 1);
                Check.faultBehind("law like ", sign.trim() + " 1;", 1);
                Check.faultBehind("law like 1" + sign, "* 1;", 1);
                Check.faultBehind("law like (1" + sign, ");", 1);
            }
        }
        Check.good("law like 1 or 2 or 3 and 4 and 5 or 6;", 1);
        Check.good("law like 1+2-3*4/5*6+7-8;", 1);
        Check.good("law like age+kind*taste-fond/warm<=gauge and not monday or 2;", 1);
    }

    @Says("B: not B | C.")
    static void whereNotStands() {
        Check.good("law like not not not 1<2 and not(1)or not 2;", 1);
        for (String sign : REACHING) {
            Check.faultBehind("law like 1" + sign, "not 2;", 1);
            Check.faultBehind("law like (1" + sign, "not 2);", 1);
            Check.good("law like 1" + sign + "(not 2);", 1);
        }
        for (String sign : JOINING) Check.good("law like 1" + sign + "not 2;", 1);
        Check.faultBehind("law like 1 ", "not 2;", 1);
        Check.faultBehind("law like not", ";", 1);
        Check.fault("law like not", 1, 12);
        Check.faultBehind("law like not ", "and 1;", 1);
    }

    @Says("C: S [ ( < | <= | = | <> | >= | > ) S ].")
    static void oneComparison() {
        for (String one : COMPARING) {
            for (String other : COMPARING) {
                Check.faultBehind("law like 1" + one + "2 ", other + "3;", 1);
                Check.faultBehind("law like 1" + one + "2+4*5 ", other + "3;", 1);
                Check.faultBehind("law like not 1" + one + "(2)", other + "3;", 1);
                Check.good("law like (1" + one + "2)" + other + "3;", 1);
                Check.good("law like 1" + one + "(2" + other + "3);", 1);
                Check.good("law like 1" + one + "2 and 3" + other + "4 or 5" + one + "6;", 1);
            }
        }
    }

    @Says("P: N | NAME | '(' E ')';")
    static void roundBrackets() {
        Check.good("law like (1);", 1);
        Check.good("law like ((1)+(age or 2));", 1);
        Check.faultBehind("law like (", ");", 1);
        Check.faultBehind("law like ", ");", 1);
        Check.faultBehind("law like 1", ");", 1);
        Check.faultBehind("law like (1)", ");", 1);
        Check.faultBehind("law like (1", ";", 1);
        Check.fault("law like (1", 1, 11);
        Check.fault("law like (", 1, 10);
        Check.fault("law like", 1, 8);
        Check.faultBehind("law like", ";", 1);
        Check.faultBehind("law like 1", "(2);", 1);
        Check.faultBehind("law like (1)", "(2);", 1);
        Check.faultBehind("law like (1)", "2;", 1);
        Check.faultBehind("law like 1 ", "2;", 1);
        Check.faultBehind("law like 1 ", "age;", 1);
        Check.faultBehind("law like age ", "kind;", 1);
    }

    @Says("N of E 0 .. 9999.")
    static void numbersOfLaws() {
        DeadMonday x = Check.house("room a;thing t a 0 0;dead d 0 0 0 0;law like 0;law bear 9999;law come 0000000000000009999;");
        Check.due("0", x.law(0, 0, 0), 0);
        Check.due("9999", x.law(1, 0, 0), 9999);
        Check.due("9999 with more digits", x.law(2, 0, 0), 9999);
        Check.faultBehind("law like ", "10000;", 2);
        Check.faultBehind("law like 1+(", "10000);", 2);
        Check.faultBehind("law like ", "4294967296;", 2);
        Check.faultBehind("law like ", "18446744073709551616;", 2);
        Check.faultBehind("law like ", "-1;", 1);
    }

    @Says("NAME: age kind taste fond warm gauge monday.")
    static void sevenNames() {
        for (String word : Plain.LANGUAGE) {
            if (Plain.NAMES.contains(word)) {
                Check.good("law like " + word + ";", 1);
                Check.good("law like (1+" + word + ")*2;", 1);
            } else if (!word.equals("not")) {
                Check.faultBehind("law like ", word + ";", 1);
                Check.faultBehind("law like 1+", word + ";", 1);
            }
        }
        Check.faultBehind("law like ", "a;", 1);
        Check.faultBehind("law like ", "ages;", 1);
        Check.faultBehind("law like ", "mondays;", 1);
    }

    /** The TEXT is what is ahead of a place of the TAPE, which goes on behind it. */
    private static void cut(String tape, int n, int kind, int place) {
        DeadMonday x = new DeadMonday();
        Check.feed(x, tape);
        Check.due("text(" + n + ") of " + tape, x.text(n), -1);
        Check.due("its fault", x.fault(0), kind);
        Check.due("its place", x.fault(1), place);
    }

    @Says("A = (or > behind <) right behind < or > belongs to it.")
    static void signsOfTwo() {
        for (String sign : new String[] {"<=", ">=", "<>"}) {
            Check.good("law like 1" + sign + "2;", 1);
            Check.faultBehind("law like 1" + sign.charAt(0) + " ", sign.charAt(1) + "2;", 1);
            Check.faultBehind("law like 1" + sign.charAt(0) + "\n", sign.charAt(1) + "2;", 1);
            // the second sign is on the TAPE, but not of the TEXT
            cut("law like 1" + sign + "2;", 11, 1, 11);
            Check.due("one knot", Check.house("law like 1" + sign + "2;").count(5), 3);
            for (String more : new String[] {"<", "=", ">"}) Check.faultBehind("law like 1" + sign, more + "2;", 1);
        }
        for (String two : new String[] {"=<", "=>", "==", "><", ">>", "<<"}) Check.faultBehind("law like 1" + two.charAt(0), two.charAt(1) + "2;", 1);
    }

    // ---- how many, how large

    @Says("ROOMS, at most 6.")
    static void sixRooms() {
        Check.good(ROOMS, 6);
        DeadMonday x = Check.house(ROOMS);
        Check.due("count(0)", x.count(0), 6);
        Check.due("the sixth", x.named(0, Check.letters("f")), 5);
        Check.due("it is there", x.room(5, 0), 0);
        Check.faultBehind(ROOMS, "room g;", 2);
    }

    @Says("DOORS, at most 9: of two unlike ROOMS (each two once, both ways).")
    static void nineDoors() {
        Check.good(ROOMS + DOORS, 15);
        DeadMonday x = Check.house(ROOMS + DOORS);
        Check.due("count(1)", x.count(1), 9);
        for (int one = 0; one < 6; one++) {
            for (int other = 0; other < 6; other++) {
                boolean is = one != other && Math.min(one, other) < 2;
                Check.due("door(" + one + ", " + other + ")", x.door(one, other), is ? 1 : 0);
            }
        }
        Check.faultBehind(ROOMS + DOORS, "door c d;", 2);
    }

    @Says("THINGS, at most 8: in a ROOM, KIND 0 .. 5, AGE 0 .. 9.")
    static void eightThings() {
        String things = ROOMS + eight("thing", " f 5 9;");
        Check.good(things, 14);
        DeadMonday x = Check.house(things);
        Check.due("count(2)", x.count(2), 8);
        Check.due("the eighth", x.thing(7, 0) * 100 + x.thing(7, 1) * 10 + x.thing(7, 2), 559);
        Check.faultBehind(things, "thing i a 0 0;", 2);
        DeadMonday y = Check.house("room a;thing t a 0 0;");
        Check.due("all 0", y.thing(0, 0) + y.thing(0, 1) + y.thing(0, 2), 0);
        Check.faultBehind("room a;thing t a ", "6 0;", 2);
        Check.faultBehind("room a;thing t a 0 ", "10;", 2);
        Check.faultBehind("thing t ", "a 0 0;", 4);
    }

    @Says("The DEAD, at most 6: TASTE 0 .. 9, FAVOUR (a KIND) 0 .. 5, FACTION 0, 1, FAIR 0 .. 100.")
    static void sixDead() {
        String six = "dead a 9 5 1 100;dead b 0 0 0 0;dead c 9 5 1 100;dead d 9 5 1 100;dead e 9 5 1 100;dead f 9 5 1 100;";
        Check.good(six, 6);
        DeadMonday x = Check.house(six);
        Check.due("count(3)", x.count(3), 6);
        int[] most = {9, 5, 1, 100};
        for (int what = 0; what < 4; what++) {
            Check.due("the most", x.dead(5, what), most[what]);
            Check.due("the least", x.dead(1, what), 0);
        }
        Check.faultBehind(six, "dead g 0 0 0 0;", 2);
        Check.faultBehind("dead d ", "10 0 0 0;", 2);
        Check.faultBehind("dead d 9 ", "6 0 0;", 2);
        Check.faultBehind("dead d 9 5 ", "2 0;", 2);
        Check.faultBehind("dead d 9 5 1 ", "101;", 2);
    }

    @Says("glass, at most 9: 0 .. 99 of MONDAY 0 on, and again from the first one on (50 without).")
    static void nineGlasses() {
        String nine = "glass 0;glass 11;glass 22;glass 33;glass 44;glass 55;glass 66;glass 77;glass 99;";
        Check.good(nine, 9);
        DeadMonday x = Check.house(nine);
        Check.due("count(4)", x.count(4), 9);
        for (int m = 0; m < 30; m++) Check.due("gauge(" + m + ")", x.gauge(m), m % 9 == 8 ? 99 : m % 9 * 11);
        Check.faultBehind(nine, "glass 0;", 2);
        Check.faultBehind("glass ", "100;", 2);
        DeadMonday one = Check.house("glass 7;");
        Check.due("one for all", one.gauge(0) * 10000 + one.gauge(1) * 100 + one.gauge(9999), 70707);
        DeadMonday none = Check.house("room a;");
        Check.due("50 without", none.gauge(0) + none.gauge(1) + none.gauge(9999), 150);
        // by the GAUGE one comes, too
        DeadMonday two = Check.house("glass 40;glass 60;dead d 0 0 0 50;");
        for (int m = 0; m < 5; m++) {
            Check.due("comes on " + m, two.comes(), m % 2);
            two.go(1);
        }
        Check.due("50 is fair", Check.house("dead d 0 0 0 50;dead e 0 0 0 51;").comes(), 1);
    }

    @Says("seed: 0 .. 99999 (0).")
    static void seeds() {
        Check.good("seed 0;", 1);
        Check.good("seed 99999;", 1);
        Check.faultBehind("seed ", "100000;", 2);
        Check.faultBehind("seed ", "4294967296;", 2);
    }

    @Says("All numbered as they come; ROOMS, THINGS, the DEAD have names of their kind.")
    static void numberedAsTheyCome() {
        DeadMonday x = Check.house("dead z 1 0 0 0;room z;thing z z 1 1;room y;dead y 2 0 0 0;thing y y 2 2;room a;thing a z 3 3;dead a 3 0 0 0;");
        String[] names = {"z", "y", "a"};
        for (int k = 0; k < 3; k++) {
            for (int what = 0; what <= 2; what++) Check.due("named", x.named(what, Check.letters(names[k])), k);
            Check.due("thing " + k, x.thing(k, 2), k + 1);
            Check.due("dead " + k, x.dead(k, 0), k + 1);
        }
        Check.due("rooms of things", x.thing(0, 0) * 100 + x.thing(1, 0) * 10 + x.thing(2, 0), 10);
    }

    // ---- FAULTS

    @Says("FAULTS, the first along the text")
    static void theFirstFault() {
        Check.fault("room a;door a a;#", 5, 14);
        Check.fault("room a;thing t b 9 #", 4, 15);
        Check.fault("room a;room a#", 3, 12);
        Check.fault("glass 100#", 2, 6);
        Check.fault("glass #100;door a a;", 1, 6);
        Check.fault("seed 1;seed 100000;", 3, 7);
        Check.fault("law like 1;law like 10000;", 3, 15);
        Check.fault("law like (((((((((10000;", 2, 17);
        Check.fault("dead d 0 6 2 101;", 2, 9);
    }

    @Says("FAULTS, the first along the text")
    static void theFirstOfManyTokens() {
        for (String token : new String[] {";", "(", ")", "=", "+", "#", "<", "1 ", "a ", "1", "a", "\n"}) {
            String many = token.repeat(700 / token.length());
            if (token.equals("\n")) Check.good(many, 0);
            else Check.fault(many, 1, 0);
        }
        String law = "law like ";
        Check.fault(law + "(".repeat(691), 2, 17);
        Check.fault(law + "1+".repeat(345), 2, 9 + 64);
        Check.fault(law + "not ".repeat(172), 2, 9 + 64 * 4);
        Check.fault(law + "1".repeat(691), 2, 9);
        Check.fault(law + "0".repeat(691), 1, 700);
        Check.good(law + "0".repeat(690) + ";", 1);
        Check.fault("room " + "a".repeat(695), 1, 5);
        // the most signs of E that wait for what is behind them
        Check.good(law + "((((((((" + "not ".repeat(63) + "1))))))));", 1);
        Check.due("63 times not", Check.house("room a;thing t a 0 0;dead d 0 0 0 0;" + law + "((((((((" + "not ".repeat(63) + "1))))))));").law(0, 0, 0), 0);
        Check.due("62 times", Check.house("room a;thing t a 0 0;dead d 0 0 0 0;" + law + "not ".repeat(62) + "7;").law(0, 0, 0), 1);
        String deep = "1+(2*(3-(4/(5+(6*(7-(8+(9))))))))";
        Check.due("eight open", Check.house("room a;thing t a 0 0;dead d 0 0 0 0;" + law + deep + ";").law(0, 0, 0), 7);
    }

    @Says("(of one place the least), with its place:")
    static void theLeastOfOnePlace() {
        // the 65th KNOT, but it can't stand there
        Check.faultBehind(knots(63) + "+", "+1;", 1);
        Check.faultBehind(knots(64) + " ", "1;", 1);
        Check.faultBehind(knots(64) + " ", "age;", 1);
        Check.faultBehind(knots(64) + " ", "not 1;", 1);
        Check.faultBehind(knots(63) + "+", "not 1;", 1);
        Check.faultBehind(knots(62) + "<1 ", "<1;", 1);
        // a ninth '(', but it can't stand there
        Check.faultBehind("law like ((((((((1", "(1;", 1);
        // a number beyond all, but none can stand there
        Check.faultBehind("room ", "99999999999;", 1);
        Check.faultBehind("law like 1 ", "10000;", 1);
        Check.faultBehind("law ", "10000;", 1);
        // more than six letters, and no ROOM of it
        Check.faultBehind("room a;door a ", "abcdefg;", 1);
        // a word of the language can't have been told
        Check.faultBehind("door ", "room a;", 1);
    }

    @Says("1 a TOKEN that is none (a word of more than 6 letters that is none of the language, too) or can't stand there")
    static void noToken() {
        for (String sign : new String[] {"#", "A", ",", ":", "[", "\"", "" + (char) 0, "" + (char) 127, "" + (char) 128, "" + (char) 255}) {
            Check.faultBehind("", sign, 1);
            Check.faultBehind("room ", sign + ";", 1);
            Check.faultBehind("room a", sign + ";", 1);
            Check.faultBehind("room a;", sign, 1);
            Check.faultBehind("law like 1", sign + ";", 1);
            Check.faultBehind("law like ", sign + ";", 1);
        }
        Check.faultBehind("", "abcdefg;", 1);
        Check.faultBehind("room ", "abcdefg;", 1);
        Check.faultBehind("room ", "abcdefghijklmnopqrstuvwxyzabcdefghijklmnopqrstuvwxyz;", 1);
        Check.faultBehind("law ", "likeany 1;", 1);
        Check.faultBehind("law like ", "mondays;", 1);
    }

    @Says("(the length, if more must come).")
    static void moreMustCome() {
        Check.fault("room", 1, 4);
        Check.fault("room ", 1, 5);
        Check.fault("room a \n ", 1, 9);
        Check.fault("law like (1<", 1, 12);
        // what is behind it on the TAPE doesn't count
        cut("room ab;", 6, 1, 6);
        cut("room ab;", 7, 1, 7);
        cut("glass 12;", 7, 1, 7);
        cut("room a;room b;", 9, 1, 7);
        cut("room a;room b;", 11, 1, 11);
        String whole = "room a;room b;door a b;thing t a 0 0;law like (12<=34)<>(not age);";
        for (int n = 0; n <= whole.length(); n++) {
            DeadMonday alone = new DeadMonday();
            DeadMonday more = Check.house(whole);
            int got = Check.tell(alone, whole.substring(0, n));
            Check.due("the first " + n, got >= 0, n == 0 || whole.charAt(n - 1) == ';');
            Check.feed(more, whole);
            Check.due("with the rest behind it", more.text(n), got);
            Check.due("its place", more.fault(0) * 1000 + more.fault(1), alone.fault(0) * 1000 + alone.fault(1));
        }
        StringBuilder full = new StringBuilder("room a");
        while (full.length() < 700) full.append(' ');
        Check.fault(full.toString(), 1, 700);
        Check.good(full.substring(0, 699) + ";", 1);
    }

    @Says("2 too much (at it): a number beyond what is said,")
    static void numbersBeyond() {
        String[] ahead = {"room a;thing t a ", "room a;thing t a 0 ", "dead d ", "dead d 0 ", "dead d 0 0 ", "dead d 0 0 0 ", "glass ", "seed ", "law like "};
        int[] most = {5, 9, 9, 5, 1, 100, 99, 99999, 9999};
        for (int k = 0; k < most.length; k++) {
            for (String beyond : new String[] {"" + (most[k] + 1), "000" + (most[k] + 1), "999999", "1000000", "1000001", "2147483648", "4294967296",
                "4294967297", "18446744073709551616", "18446744073709551617", "99999999999999999999999999999999"}) {
                Check.faultBehind(ahead[k], beyond, 2);
            }
            Check.faultBehind(ahead[k] + most[k], "#", 1);
            Check.faultBehind(ahead[k] + "0000000000" + most[k], "#", 1);
        }
    }

    @Says("a seventh room and so on (at the word of the LINE),")
    static void oneTooMany() {
        String[] full = {ROOMS, ROOMS + DOORS, "room a;" + eight("thing", " a 0 0;"), eight("dead", " 0 0 0 0;").substring(0, 6 * 15),
            "glass 0;".repeat(9)};
        String[] word = {"room", "door", "thing", "dead", "glass"};
        for (int k = 0; k < word.length; k++) {
            Check.faultBehind(full[k] + " \n", word[k], 2);
            // it is at the word, whatever is wrong behind it
            Check.faultBehind(full[k], word[k] + " a a 9999;", 2);
            Check.faultBehind(full[k], word[k] + " #", 2);
            // and no other LINE is too much by it
            for (int other = 0; other < word.length; other++) {
                if (other != k && full[k].indexOf(word[other]) < 0) Check.fault(full[k] + word[other], 1, full[k].length() + word[other].length());
            }
        }
    }

    @Says("a ninth '(' open,")
    static void nineOpen() {
        Check.good("law like ((((((((1))))))));", 1);
        Check.faultBehind("law like ((((((((", "(1)))))))));", 2);
        Check.faultBehind("law like 1 and not ((((((((", "(", 2);
        // one that is closed isn't open any more
        Check.good("law like ((((((((1)+(2))))))))*(3);", 1);
        Check.faultBehind("law like ((((((((1)+(", "(2))))))))));", 2);
        // each law begins with none
        Check.good("law like ((((((((1))))))));law bear ((((((((1))))))));law come (1);", 3);
        Check.faultBehind("law like (1);law bear ((((((((", "(1)))))))));", 2);
    }

    @Says("a 65th KNOT of all E (N, NAMES, signs, not, and, or: one each).")
    static void knotsOfAll() {
        Check.good(knots(64) + ";", 1);
        Check.due("64", Check.house(knots(64) + ";").count(5), 64);
        Check.faultBehind(knots(64), "+1;", 2);
        Check.faultBehind(knots(64) + ";law bear ", "1;", 2);
        Check.faultBehind(knots(64) + ";law bear ", "10000;", 2);
        // each sort of them as the 65th
        for (String sign : REACHING) Check.faultBehind(knots(63) + ";law bear 1", sign + "1;", 2);
        for (String sign : JOINING) Check.faultBehind(knots(63) + ";law bear 1 ", sign.trim() + " 1;", 2);
        for (String name : Plain.NAMES) Check.faultBehind(knots(63) + "+", name + ";", 2);
        Check.faultBehind(knots(63) + "+", "1;", 2);
        Check.faultBehind(knots(63) + ";law bear not ", "not 1;", 2);
        // and as the 64th
        for (String sign : REACHING) Check.good(knots(61) + ";law bear 1" + sign + "1;", 2);
        for (String sign : JOINING) Check.good(knots(61) + ";law bear 1" + sign + "1;", 2);
        for (String name : Plain.NAMES) Check.good(knots(62) + "*" + name + ";", 1);
        Check.good(knots(62) + ";law bear not 1;", 2);
        // '(' and ')' are none
        Check.good(knots(62) + "+((((1))));", 1);
        Check.due("brackets", Check.house("law like ((1)+(2));").count(5), 3);
        // of all three laws
        String three = knots(21) + ";law bear not 1;law come ";
        Check.due("three laws", Check.house(three + "age=1;").count(5), 26);
        Check.faultBehind(knots(61) + ";law bear 1;law come 1+", "1;", 2);
        // those of another TEXT don't count
        DeadMonday x = Check.house(knots(64) + ";");
        Check.due("a text with 64 again", Check.tell(x, knots(64) + ";"), 1);
        Check.due("with a fault behind 64", Check.tell(x, knots(64) + "+"), -1);
        Check.due("and again", Check.tell(x, knots(64) + ";"), 1);
        Check.due("64 again", x.count(5), 64);
    }

    @Says("3 told already: a name of its kind (at W),")
    static void namesToldTwice() {
        Check.faultBehind("room a;room ", "a;", 3);
        Check.faultBehind("room abcdef;room abcdeg;room ", "abcdef;", 3);
        Check.faultBehind("room a;thing t a 0 0;thing ", "t a 0 0;", 3);
        Check.faultBehind("room a;thing t a 0 0;thing ", "t #", 3);
        Check.faultBehind("dead d 0 0 0 0;dead e 0 0 0 0;dead ", "d #", 3);
        Check.faultBehind("room a;room b;room c;room d;room e;room ", "e;", 3);
        // of another kind it may be told
        Check.good("room a;thing a a 1 1;dead a 1 1 1 1;", 3);
        // and when it only begins alike
        Check.good("room a;room aa;room aaaaaa;room aaaaab;room b;", 5);
    }

    @Says("a DOOR of the same two (at the second W),")
    static void doorsToldTwice() {
        Check.faultBehind("room a;room b;door a b;door a ", "b;", 3);
        Check.faultBehind("room a;room b;door a b;door b ", "a;", 3);
        Check.faultBehind("room a;room b;room c;door c b;door a b;door b ", "c #", 3);
        Check.good("room a;room b;room c;door a b;door b c;door c a;", 6);
    }

    @Says("seed (at the word),")
    static void seedToldTwice() {
        Check.faultBehind("seed 1;", "seed 2;", 3);
        Check.faultBehind("seed 0;", "seed", 3);
        Check.faultBehind("seed 0; ", "seed 100000;", 3);
    }

    @Says("a law of its RULE (at RULE).")
    static void lawsToldTwice() {
        for (String rule : new String[] {"like", "bear", "come"}) {
            Check.faultBehind("law " + rule + " 1;law ", rule + " 1;", 3);
            Check.faultBehind("law " + rule + " 1;law ", rule, 3);
            Check.faultBehind("law like 1;law bear 1;law come 1;law ", rule + " #", 3);
        }
    }

    @Says("4 a ROOM that isn't told ahead (at W).")
    static void roomsNotTold() {
        Check.faultBehind("door ", "a b;", 4);
        Check.faultBehind("door ", "q q;", 4);
        Check.faultBehind("room a;door ", "b a;", 4);
        Check.faultBehind("room a;door a ", "b;room b;", 4);
        Check.faultBehind("thing t ", "a 1 1;room a;", 4);
        Check.faultBehind("room ab;thing t ", "a 1 1;", 4);
        Check.faultBehind("room a;thing b a 0 0;dead c 0 0 0 0;thing d ", "b 0 0;", 4);
        Check.faultBehind("room a;thing b a 0 0;dead c 0 0 0 0;door a ", "c;", 4);
        // a ROOM of an earlier TEXT isn't told in this one
        DeadMonday x = Check.house("room a;room b;");
        Check.due("a text again", Check.tell(x, "room b;door b a;"), -1);
        Check.due("its fault", x.fault(0) * 100 + x.fault(1), 414);
    }

    @Says("5 a DOOR from a ROOM to itself (at the second W).")
    static void doorToItself() {
        Check.faultBehind("room a;door a ", "a;", 5);
        Check.faultBehind(ROOMS + "door f ", "f #", 5);
    }

    // ---- promises 1 to 5

    @Says(promise = 1, value = "A TEXT without LINES; an empty TAPE.")
    static void newObject() {
        DeadMonday x = new DeadMonday();
        for (int what = 0; what <= 12; what++) Check.due("count(" + what + ")", x.count(what), 0);
        Check.due("text(1) of an empty tape", x.text(1), -2);
        Check.due("fault(0)", x.fault(0), 0);
        Check.due("fault(1)", x.fault(1), -1);
        Check.due("gauge", x.gauge(0), 50);
        Check.due("named", x.named(0, 0) + x.named(1, 0) + x.named(2, 0), -3);
        DeadMonday y = new DeadMonday();
        Check.due("text(0)", y.text(0), 0);
        Check.same("as without lines", Check.seen(x), Check.seen(y));
        Check.due("the first bytes", x.feed(0, 0, 0, 0, 0), 20);
        Check.due("NONE", DeadMonday.NONE, -1);
    }

    private static int feedBlanks(DeadMonday x) {
        return x.feed(0x20202020, 0x20202020, 0x20202020, 0x20202020, 0x2020200a);
    }

    @Says(promise = 2, value = "Twenty bytes come behind the TAPE, four of each number, the highest first: how many it has;")
    static void feeding() {
        DeadMonday x = new DeadMonday();
        // "room a;room b;" and bytes of 128, 0, 255
        Check.due("twenty", x.feed(0x726f6f6d, 0x20613b72, 0x6f6f6d20, 0x623b8000, -1), 20);
        Check.due("forty", x.feed(0x20202020, 0, Integer.MIN_VALUE, Integer.MAX_VALUE, 0x3b3b3b3b), 40);
        Check.due("text(14)", x.text(14), 2);
        Check.due("b", x.named(0, Check.letters("b")), 1);
        // each of the twenty in its place: a fault at it
        for (int place = 0; place < 20; place++) {
            DeadMonday y = new DeadMonday();
            StringBuilder twenty = new StringBuilder(" ".repeat(20));
            twenty.setCharAt(place, (char) 255);
            Check.feed(y, twenty.toString());
            Check.due("text(20)", y.text(20), -1);
            Check.due("its place", y.fault(1), place);
        }
    }

    @Says(promise = 2, value = "NONE, and none come, if it would have more than 700.")
    static void fullTape() {
        DeadMonday x = new DeadMonday();
        for (int k = 1; k <= 35; k++) Check.due("feed " + k, feedBlanks(x), 20 * k);
        Check.due("beyond 700", x.feed(-1, -1, -1, -1, -1), -1);
        Check.due("beyond 700 again", x.feed(0, 0, 0, 0, 0), -1);
        Check.due("text(701)", x.text(701), -2);
        Check.due("still full", feedBlanks(x), -1);
        Check.due("none came: blanks alone", x.text(700), 0);
        Check.due("from the first on", feedBlanks(x), 20);
    }

    @Says(promise = 3, value = "The TAPE's first n bytes (it is empty then) are the TEXT")
    static void firstBytes() {
        DeadMonday x = new DeadMonday();
        Check.feed(x, "room a;room b;room c;");
        Check.due("fourteen", x.text(14), 2);
        Check.due("it is empty then", x.text(1), -2);
        Check.due("from the first on", feedBlanks(x), 20);
        Check.due("all of it", x.text(20), 0);
        Check.feed(x, "room a;#");
        Check.due("none of it", x.text(0), 0);
        Check.due("no rooms", x.count(0), 0);
        Check.due("it is empty then, too", feedBlanks(x), 20);
    }

    @Says(promise = 3, value = "(MONDAY 0, nothing ROPED nor WARM, no NOTES, all KNOWN, no IMAGE, nothing to undo then): how many LINES;")
    static void allBeginsAnew() {
        String text = "room a;room b;door a b;thing t a 0 0;dead d 9 1 0 0;law like warm*2;";
        DeadMonday x = Check.house(text);
        x.go(3);
        x.keep();
        x.note(1, 0, 0, true);
        x.known(0);
        x.rope(0, true);
        x.dust(0);
        Check.due("the same text again", Check.tell(x, text), 6);
        Check.same("as of a new object", Check.seen(x), Check.seen(Check.house(text)));
        Check.due("monday", x.count(6), 0);
        Check.due("roped", x.room(0, 1) + x.room(1, 1), 0);
        Check.due("warm", x.room(0, 0) + x.room(1, 0), 0);
        Check.due("notes", x.count(10), 0);
        Check.due("no image", x.back(), -1);
        Check.due("nothing to undo", x.undo(), -1);
        x.note(1, 0, 0, true);
        Check.due("all known, those to come too", x.count(11), 1);
        // what the text ahead told is gone with it
        Check.due("another text", Check.tell(x, "room a;room b;thing t b 0 0;dead d 9 1 0 0;"), 4);
        int[] want = {2, 0, 1, 1, 0, 0, 0, 0, 0, 0, 0, 0, 0};
        for (int what = 0; what <= 12; what++) Check.due("count(" + what + ")", x.count(what), want[what]);
        Check.due("no door", x.door(0, 1), 0);
        Check.due("no law", x.law(0, 0, 0), Long.MIN_VALUE);
        Check.due("plain liking", x.liking(0, 0), 5);
        Check.due("a text without lines", Check.tell(x, " "), 0);
        Check.due("no rooms", x.count(0) + x.count(2) + x.count(3), 0);
    }

    @Says(promise = 3, value = "NONE with a FAULT, all stays;")
    static void allStays() {
        DeadMonday x = Check.house("room a;room b;door a b;thing t a 0 0;dead d 9 1 0 0;glass 70;law like warm*2;");
        x.go(2);
        x.keep();
        x.go(1);
        x.note(1, 0, 0, true);
        x.note(2, 0, 1, true);
        x.known(1);
        x.rope(0, true);
        String seen = Check.seen(x);
        String told = "room c;room d;room e;thing q c 5 9;dead q 1 5 1 99;dead r 1 5 1 99;glass 1;seed 7;law like 1;law come 0;law bear 1+1;";
        String[] wrong = {"room c;door c c;", told + "room c;", told + "law like 1;", told + "door c q;", told + "#", told + "room"};
        for (String text : wrong) {
            Check.due("text of " + text, Check.tell(x, text), -1);
            Check.same("all stays", Check.seen(x), seen);
            Check.due("named a", x.named(0, Check.letters("a")), 0);
            Check.due("named c", x.named(0, Check.letters("c")), -1);
            Check.due("but the tape is empty", x.text(1), -2);
        }
        Check.due("what can be undone", x.undo(), 0);
        Check.due("the image", x.back(), 2);
    }

    @Says(promise = 3, value = "-2, and the TAPE stays: there are not so many, n is below 0.")
    static void tapeStays() {
        DeadMonday x = Check.house("room q;");
        String seen = Check.seen(x);
        Check.feed(x, "room a;room b;");
        for (int n : new int[] {21, 700, 701, Integer.MAX_VALUE, -1, -2, Integer.MIN_VALUE}) Check.due("text(" + n + ")", x.text(n), -2);
        Check.same("all stays", Check.seen(x), seen);
        Check.due("the tape stays", feedBlanks(x), 40);
        Check.due("text(41)", x.text(41), -2);
        Check.due("all that there are", x.text(40), 2);
        Check.due("a", x.named(0, Check.letters("a")), 0);
        Check.due("text(1) of an empty one", x.text(1), -2);
        Check.due("text(-1) of an empty one", x.text(-1), -2);
    }

    @Says(promise = 4, value = "Of the latest text() that was not -2, what 0: its FAULT (0), 1: its place (NONE without).")
    static void latestFault() {
        DeadMonday x = new DeadMonday();
        Check.due("none yet", x.fault(0), 0);
        Check.due("no place yet", x.fault(1), -1);
        Check.due("-2", x.text(1), -2);
        Check.due("still none", x.fault(0) * 10 + x.fault(1), -1);
        Check.due("a fault", Check.tell(x, "room a;room a;"), -1);
        Check.due("told already", x.fault(0) * 100 + x.fault(1), 312);
        Check.due("-2", x.text(1), -2);
        Check.due("-2", x.text(-1), -2);
        Check.due("told already", x.fault(0) * 100 + x.fault(1), 312);
        Check.due("a fault at 0", Check.tell(x, "#"), -1);
        Check.due("a token that is none", x.fault(0) * 100 + x.fault(1), 100);
        Check.due("a text", Check.tell(x, "room a;"), 1);
        Check.due("none", x.fault(0), 0);
        Check.due("no place", x.fault(1), -1);
        Check.due("a fault", Check.tell(x, "room"), -1);
        Check.due("more must come", x.fault(0) * 100 + x.fault(1), 104);
        Check.due("no bytes", x.text(0), 0);
        Check.due("none", x.fault(0) * 10 + x.fault(1), -1);
    }

    @Says(promise = 4, value = "NONE for another what.")
    static void noSuchFault() {
        DeadMonday x = new DeadMonday();
        Check.tell(x, "room a;room a;");
        for (int what : new int[] {-1, 2, 3, Integer.MIN_VALUE, Integer.MAX_VALUE}) Check.due("fault(" + what + ")", x.fault(what), -1);
    }

    private static final String NAMED = "room a;room z;room abcdef;thing a z 1 1;thing az a 1 1;dead abc 0 0 0 0;dead zzzzzz 0 0 0 0;";

    @Says(promise = 5, value = {"The number of a ROOM (what 0), THING (1), DEAD (2) by its letters, 5 bits each",
        "(a is 1; the first one highest of six, 0 behind the last one);"})
    static void names() {
        DeadMonday x = Check.house(NAMED);
        Check.due("room a", x.named(0, 1 << 25), 0);
        Check.due("room z", x.named(0, 26 << 25), 1);
        Check.due("room abcdef", x.named(0, 1 << 25 | 2 << 20 | 3 << 15 | 4 << 10 | 5 << 5 | 6), 2);
        Check.due("thing a", x.named(1, 1 << 25), 0);
        Check.due("thing az", x.named(1, 1 << 25 | 26 << 20), 1);
        Check.due("dead abc", x.named(2, 1 << 25 | 2 << 20 | 3 << 15), 0);
        int z = 26;
        Check.due("dead zzzzzz", x.named(2, z << 25 | z << 20 | z << 15 | z << 10 | z << 5 | z), 1);
    }

    @Says(promise = 5, value = "NONE: there is none such.")
    static void noSuchName() {
        DeadMonday x = Check.house(NAMED);
        Check.due("dead a", x.named(2, 1 << 25), -1);
        Check.due("room az", x.named(0, 1 << 25 | 26 << 20), -1);
        Check.due("room abcde", x.named(0, 1 << 25 | 2 << 20 | 3 << 15 | 4 << 10 | 5 << 5), -1);
        Check.due("letters at the low end", x.named(0, 1), -1);
        Check.due("a gap", x.named(0, 1 << 25 | 1), -1);
        Check.due("bits above", x.named(0, 1 << 25 | 1 << 30), -1);
        Check.due("below 0", x.named(0, 1 << 25 | 1 << 31), -1);
        for (int what : new int[] {-1, 3, 4, Integer.MIN_VALUE, Integer.MAX_VALUE}) Check.due("what " + what, x.named(what, 1 << 25), -1);
        for (int what = 0; what <= 2; what++) {
            Check.due("no letters", x.named(what, 0), -1);
            Check.due("-1", x.named(what, -1), -1);
            Check.due("of a new object", new DeadMonday().named(what, 1 << 25), -1);
        }
        // a name of an earlier TEXT
        Check.tell(x, "room q;");
        Check.due("room z", x.named(0, 26 << 25), -1);
        Check.due("thing a", x.named(1, 1 << 25), -1);
    }

    public static void main(String[] args) throws ReflectiveOperationException {
        Check.run(TextTest.class);
    }
}
