import java.util.Arrays;
import java.util.NoSuchElementException;

/** A house that is free on Mondays to the dead; README.md says how it is used. */
public final class DeadMonday {
    public static final int NONE = -1;

    // the other answer that is no number of anything: nowhere, by none, not so many
    private static final int NOT_SO = -2;
    // values of a law stay far above it, so it can stand for an ERROR among them
    private static final long ERROR = Long.MIN_VALUE;

    private static final int MOST_BYTES = 700;
    private static final int MOST_ROOMS = 6;
    private static final int MOST_DOORS = 9;
    private static final int MOST_THINGS = 8;
    private static final int MOST_DEAD = 6;
    private static final int MOST_GLASSES = 9;
    private static final int MOST_KNOTS = 64;
    private static final int MOST_OPEN = 8;
    private static final int MOST_NOTES = 24;
    private static final int MOST_UNDONE = 20;
    private static final int LAST_MONDAY = 9900;
    private static final int LAST_GAUGE = 9999;

    // sorts of TOKENS: the first twenty are the words of the language, in the order of Tokens.WORDS
    private static final int ROOM = 0;
    private static final int DOOR = 1;
    private static final int THING = 2;
    private static final int DEAD = 3;
    private static final int GLASS = 4;
    private static final int SEED = 5;
    private static final int LAW = 6;
    private static final int LIKE = 7;
    private static final int COME = 9;
    private static final int OR = 10;
    private static final int AND = 11;
    private static final int NOT = 12;
    private static final int AGE = 13;
    private static final int MONDAY = 19;
    private static final int WORD = 20;
    private static final int NUMBER = 21;
    private static final int END = 22;
    private static final int BAD = 23;
    private static final int SEMICOLON = 24;
    private static final int OPEN = 25;
    private static final int CLOSE = 26;
    private static final int LESS = 27;
    private static final int AT_MOST = 28;
    private static final int SAME = 29;
    private static final int UNLIKE = 30;
    private static final int AT_LEAST = 31;
    private static final int MORE = 32;
    private static final int PLUS = 33;
    private static final int MINUS = 34;
    private static final int TIMES = 35;
    private static final int OVER = 36;

    private static final int LAW_LIKE = 0;
    private static final int LAW_BEAR = 1;
    private static final int LAW_COME = 2;

    // NAMES in the order of their words
    private static final int NAMES = 7;
    private static final int NAME_WARM = 4;
    private static final int NAME_GAUGE = 5;
    private static final int NAME_MONDAY = 6;

    private final int[] tape = new int[MOST_BYTES];
    private int taped = 0;
    private House house = new House();
    private final Reader reader = new Reader();
    private final Stand stand = new Stand();
    private final Stand image = new Stand();
    private boolean imaged = false;
    // Mondays that are only asked about go by on this one
    private final Stand trial = new Stand();
    private final Course course = new Course();
    private final Notes notes = new Notes();
    private final Strokes strokes = new Strokes();
    private final Hanger hanger = new Hanger();
    private final Split split = new Split();

    public DeadMonday() {
    }

    // ---- the TAPE and the TEXT

    public int feed(int a, int b, int c, int d, int e) {
        if (taped + 20 > MOST_BYTES) return NONE;
        putFour(a);
        putFour(b);
        putFour(c);
        putFour(d);
        putFour(e);
        return taped;
    }

    private void putFour(int four) {
        for (int shift = 24; shift >= 0; shift -= 8) {
            if (taped >= 0 && taped < tape.length) {
                tape[taped] = (four >>> shift) & 255;
                taped++;
            }
        }
    }

    public int text(int n) {
        if (n < 0 || n > taped) return NOT_SO;
        taped = 0;
        if (!reader.read(tape, n)) return NONE;
        house = reader.trade(house);
        stand.enter(house);
        notes.clear();
        strokes.clear();
        imaged = false;
        course.forget();
        return house.lines;
    }

    public int fault(int what) {
        if (what == 0) return reader.fault;
        return what == 1 ? reader.place : NONE;
    }

    public int named(int what, int letters) {
        switch (what) {
            case 0: return house.find(ROOM, letters);
            case 1: return house.find(THING, letters);
            case 2: return house.find(DEAD, letters);
            default: return NONE;
        }
    }

    // ---- what is so now

    public int thing(int thing, int what) throws IndexOutOfBoundsException, NoSuchElementException {
        if (!house.has(THING, thing)) throw new IndexOutOfBoundsException("no such thing");
        switch (what) {
            case 0: return stand.at[thing];
            case 1: return house.kind[thing];
            case 2: return house.age[thing];
            case 3: return stand.moved[thing];
            case 4: return stand.turned[thing];
            default: throw new NoSuchElementException("no such what");
        }
    }

    public int room(int room, int what) {
        if (!house.has(ROOM, room)) return NONE;
        switch (what) {
            case 0: return stand.warm[room];
            case 1: return stand.isRoped(room) ? 1 : 0;
            case 2: return Integer.bitCount(stand.thingsIn(room));
            case 3: return stand.thingsIn(room);
            default: return NONE;
        }
    }

    public int dead(int dead, int what) {
        if (!house.has(DEAD, dead)) return NONE;
        switch (what) {
            case 0: return house.taste[dead];
            case 1: return house.favour[dead];
            case 2: return house.faction[dead];
            case 3: return house.fair[dead];
            case 4: return stand.came[dead];
            default: return NONE;
        }
    }

    public int door(int one, int other) {
        if (!house.has(ROOM, one) || !house.has(ROOM, other)) return NONE;
        return house.leads(one, other) ? 1 : 0;
    }

    public int gauge(int monday) {
        return monday < 0 || monday > LAST_GAUGE ? NONE : house.glassOf(monday);
    }

    public int liking(int dead, int thing) {
        if (!house.has(DEAD, dead) || !house.has(THING, thing)) return NONE;
        course.begin(house, stand);
        return course.likes(dead, thing, stand.at[thing]);
    }

    public long law(int what, int dead, int thing) {
        if (what < LAW_LIKE || what > LAW_COME || !house.has(DEAD, dead)) return ERROR;
        if (what != LAW_COME && !house.has(THING, thing)) return ERROR;
        course.begin(house, stand);
        return what == LAW_COME ? course.value(what, dead, NONE, NONE)
            : course.value(what, dead, thing, stand.at[thing]);
    }

    public int count(int what) {
        switch (what) {
            case 0: return house.told(ROOM);
            case 1: return house.told(DOOR);
            case 2: return house.told(THING);
            case 3: return house.told(DEAD);
            case 4: return house.told(GLASS);
            case 5: return house.knots;
            case 6: return stand.monday;
            case 7: return sum(stand.moved);
            case 8: return sum(stand.turned);
            case 9: return sum(stand.came);
            case 10: return notes.size;
            case 11: return notes.knownBy();
            case 12: return strokes.size;
            default: return NONE;
        }
    }

    private static int sum(int[] numbers) {
        int sum = 0;
        for (int number : numbers) sum += number;
        return sum;
    }

    // ---- what the staff do on Tuesdays

    public boolean hang(int thing, int room) {
        if (!house.has(THING, thing) || !house.has(ROOM, room)) return false;
        if (stand.at[thing] == room) return false;
        strokes.add(Strokes.HUNG, thing, stand.at[thing]);
        stand.at[thing] = room;
        return true;
    }

    public boolean rope(int room, boolean is) {
        if (!house.has(ROOM, room) || stand.isRoped(room) == is) return false;
        strokes.add(Strokes.ROPED, room, is ? 0 : 1);
        stand.setRoped(room, is);
        return true;
    }

    public boolean dust(int room) {
        if (!house.has(ROOM, room) || stand.warm[room] == 0) return false;
        strokes.add(Strokes.DUSTED, room, stand.warm[room]);
        stand.warm[room] = 0;
        return true;
    }

    public int undo() {
        if (strokes.size == 0) return NONE;
        strokes.takeBack(stand);
        return strokes.size;
    }

    public int keep() {
        image.copy(stand);
        imaged = true;
        return stand.monday;
    }

    public int back() {
        if (!imaged) return NONE;
        stand.copy(image);
        strokes.clear();
        return stand.monday;
    }

    // ---- Mondays, and what comes of them

    public int go(int n) {
        if (n < 0 || n > 99 || stand.monday + n > LAST_MONDAY) return NONE;
        course.begin(house, stand);
        course.pass(n);
        if (n > 0) strokes.clear();
        return stand.monday;
    }

    private void tryFromNow() {
        trial.copy(stand);
        course.begin(house, trial);
    }

    public int ahead(int n, int what, int thing) {
        if (n < 0 || n > 60 || what < 0 || what > 2) return NONE;
        if (what == 0 && !house.has(THING, thing)) return NONE;
        tryFromNow();
        course.pass(n);
        if (what == 0) return trial.at[thing];
        return what == 1 ? course.moves : course.turns;
    }

    public int comes() {
        course.begin(house, stand);
        return course.comers();
    }

    public int sits(int dead) {
        if (!house.has(DEAD, dead) || house.told(ROOM) == 0) return NONE;
        course.begin(house, stand);
        int room = course.seat(dead);
        return room < 0 ? NOT_SO : room;
    }

    public int quiet() {
        tryFromNow();
        for (int k = 0; k <= 99; k++) {
            int before = course.moves + course.turns;
            course.pass(1);
            if (course.moves + course.turns == before) return k;
        }
        return NOT_SO;
    }

    public int leastMoved(int thing, int n, int what) {
        if (!house.has(THING, thing) || n < 1 || n > 60 || what < 0 || what > 1) return NONE;
        int best = NONE;
        int least = 0;
        for (int room = 0; room < house.told(ROOM); room++) {
            tryFromNow();
            trial.at[thing] = room;
            course.pass(n);
            int all = course.moves + course.turns;
            if (best == NONE || all < least) {
                best = room;
                least = all;
            }
        }
        return what == 0 ? best : least;
    }

    public int tickets(int n) {
        if (n < 1 || n > 99) return NONE;
        tryFromNow();
        int most = 0;
        for (int k = 0; k < n; k++) {
            course.look();
            most = Math.max(most, Integer.bitCount(course.comers()));
            trial.monday++;
        }
        return most;
    }

    public int chance(int seed, int n, int thing, int room) {
        if (seed < 0 || n < 1 || n > 60) return NONE;
        if (!house.has(THING, thing) || !house.has(ROOM, room)) return NONE;
        int there = 0;
        long number = seed;
        for (int k = 0; k < 10; k++) {
            tryFromNow();
            course.drawFrom(number);
            course.pass(n);
            number = course.number;
            if (trial.at[thing] == room) there++;
        }
        return there;
    }

    public int tried(int what, int i, int n) {
        if (what < 0 || what > 5 || n < 0 || n > 60) return NONE;
        boolean such = what == 2 ? house.has(DEAD, i) : what == 5 ? house.has(THING, i) : i == 0;
        if (!such) return NONE;
        // who bears all moves nothing
        if (what == 4) return 0;
        tryFromNow();
        if (what == 1) trial.roped = 0;
        if (what == 2) course.absent = i;
        if (what == 3) course.everyone = true;
        if (what == 5) trial.at[i] = NONE;
        course.pass(n);
        return course.moves + course.turns;
    }

    // ---- what could be hung, chosen, walked, hoped for

    public int hanging(int what) {
        if (what < 0 || what > Hanger.FREE || house.told(ROOM) == 0) return NONE;
        if (what < Hanger.FREE && !house.has(THING, what)) return NOT_SO;
        course.begin(house, stand);
        hanger.work(house, stand, course);
        return what == Hanger.FREE ? hanger.most : hanger.best[what];
    }

    public int steer(int dead, int room) {
        if (!house.has(DEAD, dead) || !house.has(ROOM, room)) return NONE;
        if (stand.isRoped(room)) return NOT_SO;
        int there = stand.thingsIn(room);
        int best = NOT_SO;
        int fewest = MOST_THINGS + 1;
        for (int bits = 0; bits < 1 << house.told(THING); bits++) {
            if ((bits & there) != 0 || Integer.bitCount(bits) >= fewest) continue;
            tryFromNow();
            trial.hangAll(bits, room);
            if (course.seat(dead) == room) {
                best = bits;
                fewest = Integer.bitCount(bits);
            }
        }
        return best;
    }

    public int rests() {
        if (house.told(ROOM) == 0) return NONE;
        course.begin(house, stand);
        split.work(house, stand, course);
        return split.size;
    }

    public int rest(int k) {
        if (house.told(ROOM) == 0 || k < 0) return NONE;
        course.begin(house, stand);
        split.work(house, stand, course);
        return k < split.size ? split.found[k] : NOT_SO;
    }

    public int way(int one, int other) {
        if (!house.has(ROOM, one) || !house.has(ROOM, other)) return NONE;
        int reached = 1 << one;
        for (int doors = 0; doors < MOST_ROOMS; doors++) {
            if ((reached & 1 << other) != 0) return doors;
            reached |= house.nextTo(reached);
        }
        return NOT_SO;
    }

    public long likely(int dead, int n, int k, int what) {
        if (!house.has(DEAD, dead) || n < 0 || n > 8 || k < 0 || k > n) return NONE;
        if (what < 0 || what > 1) return NONE;
        long above = 1;
        long below = 1;
        // of the hundred GAUGES these are FAIR for this one
        long fair = 100 - house.fair[dead];
        for (int m = 0; m < n; m++) {
            above *= m < k ? fair : 100 - fair;
            below *= 100;
        }
        above *= ways(n, k);
        long shared = greatestShared(above, below);
        if (shared <= 0) return NONE;
        return what == 0 ? above / shared : below / shared;
    }

    private static long ways(int n, int k) {
        long ways = 1;
        for (int m = 1; m <= k; m++) ways = ways * (n - k + m) / m;
        return ways;
    }

    private static long greatestShared(long one, long other) {
        long large = other;
        long small = one;
        for (int k = 0; k < 1000 && small != 0; k++) {
            long left = large % small;
            large = small;
            small = left;
        }
        return large;
    }

    public int shunned() {
        course.begin(house, stand);
        int bits = 0;
        for (int t = 0; t < house.told(THING); t++) {
            boolean liked = false;
            for (int d = 0; d < house.told(DEAD); d++) {
                if (course.likes(d, t, stand.at[t]) >= 30) liked = true;
            }
            if (!liked) bits |= 1 << t;
        }
        return bits;
    }

    public int loved(int what) {
        if (what < 0 || what > 1 || house.told(THING) == 0) return NONE;
        course.begin(house, stand);
        int best = NONE;
        int most = 0;
        for (int t = 0; t < house.told(THING); t++) {
            int all = 0;
            for (int d = 0; d < house.told(DEAD); d++) all += course.likes(d, t, stand.at[t]);
            if (best == NONE || all > most) {
                best = t;
                most = all;
            }
        }
        return what == 0 ? best : most;
    }

    // ---- NOTES, and what taste one had by them

    public int note(int mondays, int thing, int room, boolean is) {
        if (mondays < 1 || mondays > Notes.FARTHEST) return NONE;
        if (!house.has(THING, thing) || !house.has(ROOM, room)) return NONE;
        return notes.add(mondays, thing, room, is);
    }

    public int out(int note) {
        return note < 0 || note >= notes.size ? NONE : notes.addStrike(note);
    }

    public boolean known(int n) {
        if (n < -1 || n > notes.size) return false;
        notes.knownFirst = n;
        return true;
    }

    public int tastes(int dead) {
        if (!house.has(DEAD, dead)) return NONE;
        notes.strike();
        int bits = 0;
        for (int taste = 0; taste <= 9; taste++) {
            trial.enter(house);
            course.begin(house, trial);
            course.oddDead = dead;
            course.oddTaste = taste;
            if (notes.holdOn(course, trial)) bits |= 1 << taste;
        }
        return bits;
    }

    /** The TOKENS of a TEXT: cut all at once, then looked at one by one. */
    private static final class Tokens {
        // each word of the language, filled up to six places
        static final String WORDS = "room  door  thing dead  glass seed  law   like  bear  come  or    and   not   age   kind  taste fond  warm  gauge monday";
        static final int LONGEST = 6;
        // beyond every number that a TEXT may tell
        static final int TOO_LARGE = 1000000;

        // the TOKEN that is looked at
        int sort = END;
        int place = 0;
        // of a word its letters, of a number what it is
        int value = 0;
        private final int[] language = new int[WORD];
        private final int[] sorts = new int[MOST_BYTES + 1];
        private final int[] places = new int[MOST_BYTES + 1];
        private final int[] values = new int[MOST_BYTES + 1];
        private int index = 0;
        // what is being cut
        private final int[] bytes = new int[MOST_BYTES];
        private int end = 0;
        private int at = 0;

        Tokens() {
            for (int w = 0; w < language.length; w++) {
                int letters = 0;
                for (int k = w * LONGEST; k < (w + 1) * LONGEST && k < WORDS.length(); k++) {
                    letters = letters * 32 + (WORDS.charAt(k) & 31);
                }
                language[w] = letters;
            }
        }

        void cut(int[] tape, int n) {
            end = Math.max(0, Math.min(n, Math.min(tape.length, bytes.length)));
            System.arraycopy(tape, 0, bytes, 0, end);
            at = 0;
            sort = BAD;
            for (int k = 0; k < sorts.length && sort != END; k++) {
                cutOne();
                sorts[k] = sort;
                places[k] = place;
                values[k] = value;
            }
            index = -1;
            next();
        }

        void next() {
            if (index >= sorts.length - 1) return;
            index++;
            sort = sorts[index];
            place = places[index];
            value = values[index];
        }

        private void cutOne() {
            while (at < end && (signAt(at) == 10 || signAt(at) == 32)) at++;
            place = at;
            value = 0;
            int sign = signAt(at);
            if (at >= end) {
                sort = END;
            } else if (isLetter(sign)) {
                cutWord();
            } else if (isDigit(sign)) {
                cutNumber();
            } else {
                cutSign(sign);
            }
        }

        /** 0, which is no sign of any TOKEN, behind the end. */
        private int signAt(int k) {
            return k >= 0 && k < end && k < bytes.length ? bytes[k] : 0;
        }

        private static boolean isLetter(int sign) {
            return sign >= 'a' && sign <= 'z';
        }

        private static boolean isDigit(int sign) {
            return sign >= '0' && sign <= '9';
        }

        private void cutWord() {
            while (at < end && isLetter(signAt(at))) {
                if (at - place < LONGEST) value = value * 32 + (signAt(at) & 31);
                at++;
            }
            int length = at - place;
            for (int k = length; k < LONGEST; k++) value *= 32;
            sort = length > LONGEST ? BAD : WORD;
            for (int w = 0; w < language.length; w++) {
                if (sort == WORD && language[w] == value) sort = w;
            }
        }

        private void cutNumber() {
            while (at < end && isDigit(signAt(at))) {
                value = Math.min(value * 10 + signAt(at) - '0', TOO_LARGE);
                at++;
            }
            sort = NUMBER;
        }

        private void cutSign(int sign) {
            at++;
            switch (sign) {
                case ';': sort = SEMICOLON; break;
                case '(': sort = OPEN; break;
                case ')': sort = CLOSE; break;
                case '=': sort = SAME; break;
                case '+': sort = PLUS; break;
                case '-': sort = MINUS; break;
                case '*': sort = TIMES; break;
                case '/': sort = OVER; break;
                case '<': sort = joins('=') ? AT_MOST : joins('>') ? UNLIKE : LESS; break;
                case '>': sort = joins('=') ? AT_LEAST : MORE; break;
                default: sort = BAD; break;
            }
        }

        /** Whether this sign is right behind; then it belongs to the TOKEN. */
        private boolean joins(int sign) {
            if (signAt(at) != sign) return false;
            at++;
            return true;
        }
    }

    /** A law's E, as KNOTS in the order in which they are worked out. */
    private static final class Law {
        static final long LARGEST = 1000000000000L;

        boolean told = false;
        int length = 0;
        // NAMES that it looks at, bits
        int uses = 0;
        final int[] sorts = new int[MOST_KNOTS];
        final int[] numbers = new int[MOST_KNOTS];
        final long[] values = new long[MOST_KNOTS];

        void clear() {
            told = false;
            length = 0;
            uses = 0;
        }

        void add(int sort, int number) {
            if (length >= sorts.length || length >= numbers.length) return;
            sorts[length] = sort;
            numbers[length] = number;
            length++;
            if (sort >= AGE && sort <= MONDAY) uses |= 1 << (sort - AGE);
        }

        boolean looksAt(int name) {
            return (uses & 1 << name) != 0;
        }

        /** What E is, or ERROR (without a law, too); nothing behind an ERROR could mend it. */
        long work(long[] names) {
            int size = 0;
            for (int k = 0; k < length; k++) {
                int sort = sorts[k];
                int taken = sort == NUMBER || sort >= AGE && sort <= MONDAY ? 0 : sort == NOT ? 1 : 2;
                if (size < taken || size - taken >= values.length) return ERROR;
                long value;
                if (sort == NUMBER) {
                    value = numbers[k];
                } else if (taken == 0) {
                    value = sort - AGE < names.length ? names[sort - AGE] : 0;
                } else if (taken == 1) {
                    value = values[size - 1] == 0 ? 1 : 0;
                } else if (sort == TIMES) {
                    value = times(values[size - 2], values[size - 1]);
                } else {
                    value = join(sort, values[size - 2], values[size - 1]);
                }
                if (value > LARGEST || value < -LARGEST) return ERROR;
                size -= taken;
                values[size] = value;
                size++;
            }
            return size == 1 ? values[0] : ERROR;
        }

        /** Both are within LARGEST, but what they make may be beyond a long. */
        private static long times(long a, long b) {
            if (a == 0) return 0;
            long room = LARGEST / (a < 0 ? -a : a);
            return b > room || b < -room ? ERROR : a * b;
        }

        private static long join(int sort, long a, long b) {
            switch (sort) {
                case PLUS: return a + b;
                case MINUS: return a - b;
                case OVER: return b == 0 ? ERROR : a / b;
                case LESS: return a < b ? 1 : 0;
                case AT_MOST: return a <= b ? 1 : 0;
                case SAME: return a == b ? 1 : 0;
                case UNLIKE: return a != b ? 1 : 0;
                case AT_LEAST: return a >= b ? 1 : 0;
                case MORE: return a > b ? 1 : 0;
                case AND: return a != 0 && b != 0 ? 1 : 0;
                case OR: return a != 0 || b != 0 ? 1 : 0;
                default: return ERROR;
            }
        }
    }

    /** What a TEXT tells; nothing of it changes until the next TEXT. */
    private static final class House {
        // how many LINES of each word are told, room to seed
        final int[] counts = new int[SEED + 1];
        int lines = 0;
        int knots = 0;
        final int[][] letters = new int[DEAD + 1][MOST_THINGS];
        // ROOMS (bits) to which a DOOR leads
        final int[] doors = new int[MOST_ROOMS];
        final int[] home = new int[MOST_THINGS];
        final int[] kind = new int[MOST_THINGS];
        final int[] age = new int[MOST_THINGS];
        final int[] taste = new int[MOST_DEAD];
        final int[] favour = new int[MOST_DEAD];
        final int[] faction = new int[MOST_DEAD];
        final int[] fair = new int[MOST_DEAD];
        final int[] glass = new int[MOST_GLASSES];
        final Law like = new Law();
        final Law bear = new Law();
        final Law come = new Law();

        void clear() {
            Arrays.fill(counts, 0);
            Arrays.fill(doors, 0);
            lines = 0;
            knots = 0;
            like.clear();
            bear.clear();
            come.clear();
        }

        int told(int word) {
            return word >= 0 && word < counts.length ? counts[word] : 0;
        }

        boolean has(int word, int number) {
            return word >= 0 && word < counts.length && number >= 0 && number < counts[word];
        }

        int find(int word, int name) {
            if (word < 0 || word >= letters.length) return NONE;
            for (int k = 0; k < told(word) && k < letters[word].length; k++) {
                if (letters[word][k] == name) return k;
            }
            return NONE;
        }

        Law lawOf(int what) {
            return what == LAW_LIKE ? like : what == LAW_BEAR ? bear : come;
        }

        boolean leads(int one, int other) {
            return one >= 0 && one < doors.length && (doors[one] & 1 << other) != 0;
        }

        /** ROOMS (bits) to which a DOOR leads from one of these. */
        int nextTo(int rooms) {
            int bits = 0;
            for (int r = 0; r < doors.length; r++) {
                if ((rooms & 1 << r) != 0) bits |= doors[r];
            }
            return bits;
        }

        /** The first ROOM by numbers behind a DOOR. */
        int firstBehind(int room) {
            for (int r = 0; r < told(ROOM); r++) {
                if (leads(room, r)) return r;
            }
            return NONE;
        }

        int glassOf(int monday) {
            int told = told(GLASS);
            if (told <= 0 || told > glass.length || monday < 0) return 50;
            return glass[monday % told];
        }
    }

    /** Reads a TEXT into a House, up to its first FAULT. */
    private static final class Reader {
        static final int LARGEST_NUMBER = 9999;
        static final int COMPARING = 4;
        private static final int[] MOST = {MOST_ROOMS, MOST_DOORS, MOST_THINGS, MOST_DEAD, MOST_GLASSES, 1};

        int fault = 0;
        int place = NONE;
        private final Tokens tokens = new Tokens();
        // a TEXT is read into one of its own, so that all stays with a FAULT
        private House house = new House();
        // the latest number or ROOM that was read
        private int taken = 0;
        // signs, words and '(' of E for which what is behind them isn't read yet
        private final int[] waiting = new int[MOST_KNOTS + MOST_OPEN];
        private int waits = 0;
        private int open = 0;

        boolean read(int[] tape, int n) {
            fault = 0;
            place = NONE;
            house.clear();
            tokens.cut(tape, n);
            for (int k = 0; k <= MOST_BYTES && tokens.sort != END; k++) {
                if (!readLine()) return false;
                if (tokens.sort != SEMICOLON) return fail(1);
                house.lines++;
                tokens.next();
            }
            return true;
        }

        /** Gives what was read, and takes another one for the next TEXT. */
        House trade(House old) {
            House told = house;
            house = old;
            return told;
        }

        private boolean fail(int what) {
            fault = what;
            place = tokens.place;
            return false;
        }

        private boolean readLine() {
            int word = tokens.sort;
            if (word == LAW) return readLaw();
            if (word < ROOM || word > SEED) return fail(1);
            if (house.told(word) >= MOST[word]) return fail(word == SEED ? 3 : 2);
            tokens.next();
            if (!readRest(word, house.told(word))) return false;
            house.counts[word]++;
            return true;
        }

        private boolean readRest(int word, int number) {
            switch (word) {
                case ROOM: return readName(ROOM, number);
                case DOOR: return readDoor();
                case THING: return readThing(number);
                case DEAD: return readDead(number);
                case GLASS: return readInto(house.glass, number, 99);
                default: return readNumber(99999);
            }
        }

        private boolean readName(int word, int number) {
            if (tokens.sort != WORD) return fail(1);
            if (house.find(word, tokens.value) != NONE) return fail(3);
            if (number >= 0 && number < house.letters[word].length) {
                house.letters[word][number] = tokens.value;
            }
            tokens.next();
            return true;
        }

        private boolean readRoom() {
            if (tokens.sort != WORD) return fail(1);
            taken = house.find(ROOM, tokens.value);
            if (taken == NONE) return fail(4);
            tokens.next();
            return true;
        }

        private boolean readNumber(int most) {
            if (tokens.sort != NUMBER) return fail(1);
            if (tokens.value > most) return fail(2);
            taken = tokens.value;
            tokens.next();
            return true;
        }

        private boolean readInto(int[] row, int number, int most) {
            if (!readNumber(most)) return false;
            if (number >= 0 && number < row.length) row[number] = taken;
            return true;
        }

        private boolean readDoor() {
            if (!readRoom()) return false;
            int one = taken;
            if (tokens.sort != WORD) return fail(1);
            int other = house.find(ROOM, tokens.value);
            if (other == NONE) return fail(4);
            if (one == other) return fail(5);
            if (house.leads(one, other)) return fail(3);
            if (one >= 0 && one < MOST_ROOMS && other < MOST_ROOMS) {
                house.doors[one] |= 1 << other;
                house.doors[other] |= 1 << one;
            }
            tokens.next();
            return true;
        }

        private boolean readThing(int number) {
            if (!readName(THING, number) || !readRoom()) return false;
            if (number >= 0 && number < MOST_THINGS) house.home[number] = taken;
            return readInto(house.kind, number, 5) && readInto(house.age, number, 9);
        }

        private boolean readDead(int number) {
            return readName(DEAD, number)
                && readInto(house.taste, number, 9) && readInto(house.favour, number, 5)
                && readInto(house.faction, number, 1) && readInto(house.fair, number, 100);
        }

        private boolean readLaw() {
            tokens.next();
            if (tokens.sort < LIKE || tokens.sort > COME) return fail(1);
            Law law = house.lawOf(tokens.sort - LIKE);
            if (law.told) return fail(3);
            tokens.next();
            if (!readExpression(law)) return false;
            law.told = true;
            return true;
        }

        private boolean readExpression(Law law) {
            waits = 0;
            open = 0;
            // whether a value has just been read, so that a sign may follow
            boolean valued = false;
            for (int k = 0; k <= MOST_BYTES; k++) {
                int sort = tokens.sort;
                if (valued && open == 0 && sort == SEMICOLON) break;
                if (!(valued ? readBehindValue(law, sort) : readValue(law, sort))) return false;
                valued = sort == NUMBER || sort == CLOSE || sort >= AGE && sort <= MONDAY;
                tokens.next();
            }
            settle(law, 1);
            return true;
        }

        private boolean readValue(Law law, int sort) {
            if (sort == OPEN) {
                if (open >= MOST_OPEN) return fail(2);
                open++;
                return await(OPEN);
            }
            if (sort == NOT && rank(latest()) <= rank(NOT)) return countKnot() && await(NOT);
            if (sort != NUMBER && (sort < AGE || sort > MONDAY)) return fail(1);
            if (!countKnot()) return false;
            if (sort == NUMBER && tokens.value > LARGEST_NUMBER) return fail(2);
            law.add(sort, sort == NUMBER ? tokens.value : 0);
            return true;
        }

        private boolean readBehindValue(Law law, int sort) {
            if (sort == CLOSE) {
                if (open <= 0) return fail(1);
                open--;
                settle(law, 1);
                if (waits > 0) waits--;
                return true;
            }
            int rank = rank(sort);
            if (rank == 0 || sort == NOT) return fail(1);
            // a comparison can't stand behind another one, only what is inside it is settled
            settle(law, rank == COMPARING ? COMPARING + 1 : rank);
            if (rank == COMPARING && rank(latest()) == COMPARING) return fail(1);
            return countKnot() && await(sort);
        }

        private boolean countKnot() {
            if (house.knots >= MOST_KNOTS) return fail(2);
            house.knots++;
            return true;
        }

        private boolean await(int sort) {
            if (waits < 0 || waits >= waiting.length) return fail(2);
            waiting[waits] = sort;
            waits++;
            return true;
        }

        private int latest() {
            return waits > 0 && waits <= waiting.length ? waiting[waits - 1] : OPEN;
        }

        /** What waits and binds at least so tightly has its values by now. */
        private void settle(Law law, int rank) {
            for (int k = 0; k < waiting.length && waits > 0 && rank(latest()) >= rank; k++) {
                law.add(latest(), 0);
                waits--;
            }
        }

        /** How tightly a sign binds; 0 for what is none. */
        private static int rank(int sort) {
            switch (sort) {
                case OR: return 1;
                case AND: return 2;
                case NOT: return 3;
                case LESS: case AT_MOST: case SAME: case UNLIKE: case AT_LEAST: case MORE: return COMPARING;
                case PLUS: case MINUS: return 5;
                case TIMES: case OVER: return 6;
                default: return 0;
            }
        }
    }

    /** What Mondays and Tuesdays change. */
    private static final class Stand {
        // ROOMS of THINGS; NONE: in no room
        final int[] at = new int[MOST_THINGS];
        final int[] moved = new int[MOST_THINGS];
        final int[] turned = new int[MOST_THINGS];
        final int[] warm = new int[MOST_ROOMS];
        final int[] came = new int[MOST_DEAD];
        int roped = 0;
        int monday = 0;

        Stand() {
            Arrays.fill(at, NONE);
        }

        /** As it is at the beginning of a TEXT. */
        void enter(House house) {
            Arrays.fill(at, NONE);
            for (int t = 0; t < house.told(THING) && t < at.length; t++) at[t] = house.home[t];
            Arrays.fill(moved, 0);
            Arrays.fill(turned, 0);
            Arrays.fill(warm, 0);
            Arrays.fill(came, 0);
            roped = 0;
            monday = 0;
        }

        void copy(Stand other) {
            System.arraycopy(other.at, 0, at, 0, MOST_THINGS);
            System.arraycopy(other.moved, 0, moved, 0, MOST_THINGS);
            System.arraycopy(other.turned, 0, turned, 0, MOST_THINGS);
            System.arraycopy(other.warm, 0, warm, 0, MOST_ROOMS);
            System.arraycopy(other.came, 0, came, 0, MOST_DEAD);
            roped = other.roped;
            monday = other.monday;
        }

        boolean isRoped(int room) {
            return (roped & 1 << room) != 0;
        }

        void setRoped(int room, boolean is) {
            roped = is ? roped | 1 << room : roped & ~(1 << room);
        }

        int thingsIn(int room) {
            int bits = 0;
            for (int t = 0; t < at.length; t++) {
                if (at[t] == room) bits |= 1 << t;
            }
            return bits;
        }

        void hangAll(int things, int room) {
            for (int t = 0; t < at.length; t++) {
                if ((things & 1 << t) != 0) at[t] = room;
            }
        }
    }

    /** What the DEAD like, bear and do in a House as it stands, Monday by Monday. */
    private static final class Course {
        // what is MOVED, TURNED since it began
        int moves = 0;
        int turns = 0;
        // tried otherwise: one who never comes, all who come, one of another taste
        int absent = NONE;
        boolean everyone = false;
        int oddDead = NONE;
        int oddTaste = 0;
        // the last number of MONDAYS by chance
        long number = 0;
        private boolean drawn = false;
        // begin() puts those of each call in their place
        private House house = new House();
        private Stand stand = new Stand();
        private int gauge = 0;
        private final long[] names = new long[NAMES];
        private final int[] sums = new int[MOST_ROOMS];
        // the latest LIKING of each of the DEAD for each THING, as a law is dear to work out, and all
        // by which it could differ as one number: TASTE (below 16), GAUGE (128), MONDAY (16384), WARM
        private final long[] reasons = new long[MOST_DEAD * MOST_THINGS];
        private final int[] liked = new int[MOST_DEAD * MOST_THINGS];
        private long dayReason = 0;
        private boolean byWarmth = false;

        Course() {
            Arrays.fill(reasons, NONE);
        }

        /** What was liked in another House says nothing of this one. */
        void forget() {
            Arrays.fill(reasons, NONE);
        }

        void begin(House in, Stand as) {
            house = in;
            stand = as;
            moves = 0;
            turns = 0;
            absent = NONE;
            everyone = false;
            oddDead = NONE;
            drawn = false;
            look();
        }

        void drawFrom(long seed) {
            drawn = true;
            number = seed;
        }

        /** The GAUGE of this MONDAY. */
        void look() {
            if (drawn) {
                number = (number * 1103515245L + 12345L) & 2147483647L;
                gauge = (int) (number / 65536L % 100L);
            } else {
                gauge = house.glassOf(stand.monday);
            }
            Law law = house.like;
            dayReason = (law.looksAt(NAME_GAUGE) ? gauge * 16L : 0)
                + (law.looksAt(NAME_MONDAY) ? stand.monday * 2048L : 0);
            byWarmth = law.looksAt(NAME_WARM);
        }

        void pass(int mondays) {
            for (int m = 0; m < mondays; m++) {
                look();
                int comers = comers();
                for (int d = 0; d < house.told(DEAD); d++) {
                    if ((comers & 1 << d) != 0) visit(d);
                }
                stand.monday++;
            }
        }

        /** Who COME on this MONDAY (bits): nothing that one of them does changes it. */
        int comers() {
            int bits = 0;
            for (int d = 0; d < house.told(DEAD); d++) {
                if (d != absent && (everyone || isComing(d))) bits |= 1 << d;
            }
            return bits;
        }

        private boolean isComing(int dead) {
            tellNames(dead, NONE, NONE);
            long value = house.come.work(names);
            return value == ERROR ? gauge >= house.fair[dead] : value != 0;
        }

        private void visit(int dead) {
            int room = seat(dead);
            if (room < 0 || room >= MOST_ROOMS) return;
            stand.warm[room]++;
            stand.came[dead]++;
            int thing = leastLiked(dead, room);
            if (thing == NONE || likes(dead, thing, room) >= bears(dead, thing, room)) return;
            int next = house.firstBehind(room);
            if (next == NONE) {
                stand.turned[thing]++;
                turns++;
            } else {
                stand.at[thing] = next;
                stand.moved[thing]++;
                moves++;
            }
        }

        /** Where one SITS, or NONE. */
        int seat(int dead) {
            Arrays.fill(sums, 0);
            int things = house.told(THING);
            for (int t = 0; t < things; t++) {
                int room = stand.at[t];
                if (room >= 0 && room < MOST_ROOMS && !stand.isRoped(room)) sums[room] += likes(dead, t, room);
            }
            int best = NONE;
            int rooms = house.told(ROOM);
            for (int r = 0; r < rooms; r++) {
                if (!stand.isRoped(r) && (best == NONE || sums[r] > sums[best])) best = r;
            }
            return best;
        }

        private int leastLiked(int dead, int room) {
            int best = NONE;
            int least = 0;
            int things = house.told(THING);
            for (int t = 0; t < things; t++) {
                if (stand.at[t] != room) continue;
                int liking = likes(dead, t, room);
                if (best == NONE || liking < least) {
                    best = t;
                    least = liking;
                }
            }
            return best;
        }

        /** LIKING for a THING, were it in this ROOM. */
        int likes(int dead, int thing, int room) {
            if (dead < 0 || dead >= MOST_DEAD || thing < 0 || thing >= MOST_THINGS) return 0;
            int slot = dead * MOST_THINGS + thing;
            long reason = dayReason + tasteOf(dead) + (byWarmth ? warmth(room) * 33554432L : 0);
            if (reasons[slot] != reason) {
                tellNames(dead, thing, room);
                long value = house.like.work(names);
                liked[slot] = value == ERROR ? plainLiking(dead, thing) : within(value, 99);
                reasons[slot] = reason;
            }
            return liked[slot];
        }

        private int plainLiking(int dead, int thing) {
            int far = Math.abs(house.age[thing] - tasteOf(dead));
            return 50 - 5 * far + (house.kind[thing] == house.favour[dead] ? 20 : 0);
        }

        private int bears(int dead, int thing, int room) {
            tellNames(dead, thing, room);
            long value = house.bear.work(names);
            return value == ERROR ? 30 : within(value, 100);
        }

        private static int within(long value, int most) {
            return (int) Math.max(0L, Math.min(most, value));
        }

        private int tasteOf(int dead) {
            return dead == oddDead ? oddTaste : house.taste[dead];
        }

        private int warmth(int room) {
            return room >= 0 && room < MOST_ROOMS ? stand.warm[room] : 0;
        }

        /** A law's E as it is, were the THING in this ROOM (of come both are NONE). */
        long value(int what, int dead, int thing, int room) {
            tellNames(dead, thing, room);
            return house.lawOf(what).work(names);
        }

        /** What the NAMES stand for; 0 of a THING that there isn't. */
        private void tellNames(int dead, int thing, int room) {
            boolean such = house.has(THING, thing);
            names[0] = such ? house.age[thing] : 0;
            names[1] = such ? house.kind[thing] : 0;
            names[2] = tasteOf(dead);
            names[3] = house.favour[dead];
            names[NAME_WARM] = warmth(room);
            names[NAME_GAUGE] = gauge;
            names[NAME_MONDAY] = stand.monday;
        }
    }

    /** What was told of where THINGS were, and what of it is struck. */
    private static final class Notes {
        static final int FARTHEST = 30;

        int size = 0;
        // NONE: by all, those to come too
        int knownFirst = NONE;
        private final int[] mondays = new int[MOST_NOTES];
        private final int[] thing = new int[MOST_NOTES];
        private final int[] room = new int[MOST_NOTES];
        private final boolean[] is = new boolean[MOST_NOTES];
        // the one that it strikes, NONE of a plain one
        private final int[] strikes = new int[MOST_NOTES];
        private final boolean[] struck = new boolean[MOST_NOTES];

        void clear() {
            size = 0;
            knownFirst = NONE;
        }

        int knownBy() {
            return knownFirst == NONE ? size : Math.min(knownFirst, size);
        }

        int add(int behind, int which, int where, boolean so) {
            if (size >= MOST_NOTES) return NONE;
            mondays[size] = behind;
            thing[size] = which;
            room[size] = where;
            is[size] = so;
            strikes[size] = NONE;
            size++;
            return size - 1;
        }

        int addStrike(int note) {
            int number = add(0, 0, 0, false);
            if (number != NONE) strikes[number] = note;
            return number;
        }

        /** Finds those that are STRUCK: from the last one on, as only later ones strike one. */
        void strike() {
            for (int k = 0; k < MOST_NOTES; k++) struck[k] = false;
            for (int k = knownBy() - 1; k >= 0; k--) {
                int target = strikes[k];
                if (!struck[k] && target >= 0 && target < MOST_NOTES) struck[target] = true;
            }
        }

        /** Whether all KNOWN ones are so on this course from the TEXT on. */
        boolean holdOn(Course course, Stand stand) {
            int last = 0;
            for (int k = 0; k < knownBy(); k++) {
                if (!struck[k] && strikes[k] == NONE) last = Math.max(last, mondays[k]);
            }
            for (int monday = 1; monday <= last && monday <= FARTHEST; monday++) {
                course.pass(1);
                if (!areSo(monday, stand)) return false;
            }
            return true;
        }

        private boolean areSo(int monday, Stand stand) {
            for (int k = 0; k < knownBy(); k++) {
                if (struck[k] || strikes[k] != NONE || mondays[k] != monday) continue;
                int which = thing[k];
                if (which < 0 || which >= MOST_THINGS) continue;
                if ((stand.at[which] == room[k]) != is[k]) return false;
            }
            return true;
        }
    }

    /** What was done by call and can be undone. */
    private static final class Strokes {
        static final int HUNG = 0;
        static final int ROPED = 1;
        static final int DUSTED = 2;

        int size = 0;
        private final int[] sort = new int[MOST_UNDONE];
        private final int[] which = new int[MOST_UNDONE];
        private final int[] before = new int[MOST_UNDONE];

        void clear() {
            size = 0;
        }

        void add(int what, int of, int was) {
            if (size >= MOST_UNDONE) dropFirst();
            if (size < 0 || size >= MOST_UNDONE) return;
            sort[size] = what;
            which[size] = of;
            before[size] = was;
            size++;
        }

        private void dropFirst() {
            size = MOST_UNDONE - 1;
            System.arraycopy(sort, 1, sort, 0, size);
            System.arraycopy(which, 1, which, 0, size);
            System.arraycopy(before, 1, before, 0, size);
        }

        void takeBack(Stand stand) {
            if (size <= 0 || size > MOST_UNDONE) return;
            size--;
            int of = which[size];
            int was = before[size];
            if (sort[size] == HUNG && of >= 0 && of < MOST_THINGS) stand.at[of] = was;
            if (sort[size] == ROPED) stand.setRoped(of, was != 0);
            if (sort[size] == DUSTED && of >= 0 && of < MOST_ROOMS) stand.warm[of] = was;
        }
    }

    /** HANGING: tries all ROOMS for the first THINGS. */
    private static final class Hanger {
        static final int FREE = 4;

        final int[] best = new int[FREE];
        int most = 0;
        private int free = 0;
        private int rooms = 0;
        private int dead = 0;
        private int roped = 0;
        private final int[] chosen = new int[FREE];
        // LIKING of one of the DEAD for a free THING, were it in a ROOM
        private final int[][] worth = new int[FREE * MOST_DEAD][MOST_ROOMS];
        // LIKING for each ROOM with what is hung by now
        private final int[][] sums = new int[MOST_DEAD][MOST_ROOMS];
        // and for the ROOM where one would SIT, with so many free THINGS hung
        private final int[][] peaks = new int[FREE + 1][MOST_DEAD];

        void work(House house, Stand stand, Course course) {
            free = Math.min(FREE, house.told(THING));
            rooms = Math.min(MOST_ROOMS, house.told(ROOM));
            dead = Math.min(MOST_DEAD, house.told(DEAD));
            roped = stand.roped;
            for (int d = 0; d < dead; d++) weigh(d, house, stand, course);
            most = NONE;
            hangFrom(0);
        }

        private void weigh(int d, House house, Stand stand, Course course) {
            Arrays.fill(sums[d], 0);
            for (int t = free; t < house.told(THING); t++) {
                int room = stand.at[t];
                if (house.has(ROOM, room)) sums[d][room] += course.likes(d, t, room);
            }
            for (int t = 0; t < free; t++) {
                for (int r = 0; r < rooms; r++) worth[t * MOST_DEAD + d][r] = course.likes(d, t, r);
            }
            peaks[0][d] = 0;
            for (int r = 0; r < rooms; r++) {
                if ((roped & 1 << r) == 0) peaks[0][d] = Math.max(peaks[0][d], sums[d][r]);
            }
        }

        /** Tries this free THING and those behind it in all ROOMS. */
        private void hangFrom(int t) {
            if (t >= free || t >= FREE) {
                compare();
                return;
            }
            for (int r = 0; r < rooms; r++) {
                chosen[t] = r;
                put(t, r);
                hangFrom(t + 1);
                for (int d = 0; d < dead; d++) sums[d][r] -= worth[t * MOST_DEAD + d][r];
            }
        }

        /** No LIKING is below 0, so only the ROOM in which a THING is put can become a better one. */
        private void put(int t, int r) {
            boolean open = (roped & 1 << r) == 0;
            for (int d = 0; d < dead; d++) {
                sums[d][r] += worth[t * MOST_DEAD + d][r];
                peaks[t + 1][d] = open ? Math.max(peaks[t][d], sums[d][r]) : peaks[t][d];
            }
        }

        private void compare() {
            int all = 0;
            for (int d = 0; d < dead; d++) all += peaks[free][d];
            if (all > most) {
                most = all;
                System.arraycopy(chosen, 0, best, 0, FREE);
            }
        }
    }

    /** SPLIT: the RESTS of two FACTIONS who choose ROOMS. */
    private static final class Split {
        int size = 0;
        final int[] found = new int[MOST_ROOMS * MOST_ROOMS];
        private int rooms = 0;
        private final int[][] worth = new int[2][MOST_ROOMS];
        private final int[] crowd = new int[MOST_ROOMS];

        void work(House house, Stand stand, Course course) {
            rooms = Math.min(MOST_ROOMS, house.told(ROOM));
            weigh(house, stand, course);
            size = 0;
            for (int one = 0; one < rooms; one++) {
                for (int other = 0; other < rooms; other++) {
                    if (isBest(0, one, other) && isBest(1, other, one) && size < found.length) {
                        found[size] = 10 * one + other;
                        size++;
                    }
                }
            }
        }

        private void weigh(House house, Stand stand, Course course) {
            Arrays.fill(worth[0], 0);
            Arrays.fill(worth[1], 0);
            Arrays.fill(crowd, 0);
            for (int t = 0; t < house.told(THING); t++) {
                int room = stand.at[t];
                if (!house.has(ROOM, room)) continue;
                crowd[room] += 10;
                for (int d = 0; d < house.told(DEAD); d++) {
                    worth[house.faction[d] == 0 ? 0 : 1][room] += course.likes(d, t, room);
                }
            }
        }

        private boolean isBest(int faction, int own, int others) {
            int has = share(faction, own, others);
            for (int r = 0; r < rooms; r++) {
                if (share(faction, r, others) > has) return false;
            }
            return true;
        }

        private int share(int faction, int own, int others) {
            return worth[faction][own] - (own == others ? crowd[own] : 0);
        }
    }
}
