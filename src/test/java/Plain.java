import java.math.BigInteger;
import java.util.ArrayList;
import java.util.Arrays;
import java.util.HashMap;
import java.util.List;
import java.util.Map;

/** The document once more, as plainly as it can be said and without any care for time: what PlainTest compares with. */
final class Plain {
    static final List<String> LANGUAGE = List.of("room", "door", "thing", "dead", "glass", "seed", "law", "like",
        "bear", "come", "or", "and", "not", "age", "kind", "taste", "fond", "warm", "gauge", "monday");
    static final List<String> NAMES = LANGUAGE.subList(13, 20);
    static final BigInteger MOST = BigInteger.TEN.pow(12);

    static final class Fault extends RuntimeException {
        final int kind;
        final int place;

        Fault(int kind, int place) {
            this.kind = kind;
            this.place = place;
        }
    }

    static final class Error extends RuntimeException {
    }

    interface Node {
        BigInteger of(Map<String, Integer> names);
    }

    static final class Thing {
        String name;
        int home, kind, age;
    }

    static final class Dead {
        String name;
        int taste, fond, faction, fair;
    }

    static final class Told {
        List<String> rooms = new ArrayList<>();
        List<int[]> doors = new ArrayList<>();
        List<Thing> things = new ArrayList<>();
        List<Dead> dead = new ArrayList<>();
        List<Integer> glass = new ArrayList<>();
        boolean seed;
        Map<String, Node> laws = new HashMap<>();
        int knots;
        int lines;

        boolean door(int a, int b) {
            for (int[] d : doors) if (d[0] == a && d[1] == b || d[0] == b && d[1] == a) return true;
            return false;
        }
    }

    // ---- reading by going down the grammar

    static final class Parse {
        final String text;
        final Told told = new Told();
        int at = 0;
        String token;
        int place;
        int open;

        Parse(String text) {
            this.text = text;
            next();
            while (!token.isEmpty()) {
                line();
                expect(";");
                told.lines++;
            }
        }

        void next() {
            while (at < text.length() && (text.charAt(at) == 10 || text.charAt(at) == 32)) at++;
            place = at;
            if (at == text.length()) {
                token = "";
                return;
            }
            char c = text.charAt(at);
            int end = at + 1;
            if (c >= 'a' && c <= 'z') {
                while (end < text.length() && text.charAt(end) >= 'a' && text.charAt(end) <= 'z') end++;
            } else if (c >= '0' && c <= '9') {
                while (end < text.length() && text.charAt(end) >= '0' && text.charAt(end) <= '9') end++;
            } else if (text.startsWith("<=", at) || text.startsWith("<>", at) || text.startsWith(">=", at)) {
                end++;
            }
            token = text.substring(at, end);
            at = end;
        }

        Fault fault(int kind) {
            return new Fault(kind, place);
        }

        void expect(String wanted) {
            if (!token.equals(wanted)) throw fault(1);
            next();
        }

        boolean isWord() {
            return token.matches("[a-z]{1,6}") && !LANGUAGE.contains(token);
        }

        int number(int most) {
            if (!token.matches("[0-9]+")) throw fault(1);
            if (new BigInteger(token).compareTo(BigInteger.valueOf(most)) > 0) throw fault(2);
            int n = Integer.parseInt(new BigInteger(token).toString());
            next();
            return n;
        }

        String name(List<String> taken) {
            if (!isWord()) throw fault(1);
            if (taken.contains(token)) throw fault(3);
            String name = token;
            next();
            return name;
        }

        int room() {
            if (!isWord()) throw fault(1);
            int r = told.rooms.indexOf(token);
            if (r < 0) throw fault(4);
            return r;
        }

        void full(int size, int most) {
            if (size >= most) throw fault(2);
            next();
        }

        void line() {
            switch (token) {
                case "room" -> {
                    full(told.rooms.size(), 6);
                    told.rooms.add(name(told.rooms));
                }
                case "door" -> {
                    full(told.doors.size(), 9);
                    int a = room();
                    next();
                    int b = room();
                    if (told.door(a, b)) throw fault(3);
                    if (a == b) throw fault(5);
                    next();
                    told.doors.add(new int[] {a, b});
                }
                case "thing" -> {
                    full(told.things.size(), 8);
                    Thing t = new Thing();
                    t.name = name(told.things.stream().map(x -> x.name).toList());
                    t.home = room();
                    next();
                    t.kind = number(5);
                    t.age = number(9);
                    told.things.add(t);
                }
                case "dead" -> {
                    full(told.dead.size(), 6);
                    Dead d = new Dead();
                    d.name = name(told.dead.stream().map(x -> x.name).toList());
                    d.taste = number(9);
                    d.fond = number(5);
                    d.faction = number(1);
                    d.fair = number(100);
                    told.dead.add(d);
                }
                case "glass" -> {
                    full(told.glass.size(), 9);
                    told.glass.add(number(99));
                }
                case "seed" -> {
                    if (told.seed) throw fault(3);
                    next();
                    number(99999);
                    told.seed = true;
                }
                case "law" -> {
                    next();
                    if (!List.of("like", "bear", "come").contains(token)) throw fault(1);
                    if (told.laws.containsKey(token)) throw fault(3);
                    String rule = token;
                    next();
                    open = 0;
                    told.laws.put(rule, e());
                }
                default -> throw fault(1);
            }
        }

        void knot() {
            if (told.knots == 64) throw fault(2);
            told.knots++;
        }

        String sign() {
            String s = token;
            knot();
            next();
            return s;
        }

        Node e() {
            Node left = a();
            while (token.equals("or")) left = join(sign(), left, a());
            return left;
        }

        Node a() {
            Node left = b();
            while (token.equals("and")) left = join(sign(), left, b());
            return left;
        }

        Node b() {
            if (!token.equals("not")) return c();
            sign();
            Node of = b();
            return names -> of.of(names).signum() == 0 ? BigInteger.ONE : BigInteger.ZERO;
        }

        Node c() {
            Node left = s();
            if (!List.of("<", "<=", "=", "<>", ">=", ">").contains(token)) return left;
            return join(sign(), left, s());
        }

        Node s() {
            Node left = t();
            while (token.equals("+") || token.equals("-")) left = join(sign(), left, t());
            return left;
        }

        Node t() {
            Node left = p();
            while (token.equals("*") || token.equals("/")) left = join(sign(), left, p());
            return left;
        }

        Node p() {
            if (token.equals("(")) {
                if (open == 8) throw fault(2);
                open++;
                next();
                Node inner = e();
                expect(")");
                open--;
                return inner;
            }
            if (token.matches("[0-9]+")) {
                knot();
                BigInteger n = BigInteger.valueOf(number(9999));
                return names -> n;
            }
            if (!NAMES.contains(token)) throw fault(1);
            String name = sign();
            return names -> BigInteger.valueOf(names.get(name));
        }

        static Node join(String sign, Node left, Node right) {
            return names -> {
                BigInteger a = left.of(names);
                BigInteger b = right.of(names);
                int c = a.compareTo(b);
                BigInteger v = switch (sign) {
                    case "+" -> a.add(b);
                    case "-" -> a.subtract(b);
                    case "*" -> a.multiply(b);
                    case "/" -> {
                        if (b.signum() == 0) throw new Error();
                        yield a.divide(b);
                    }
                    case "<" -> truth(c < 0);
                    case "<=" -> truth(c <= 0);
                    case "=" -> truth(c == 0);
                    case "<>" -> truth(c != 0);
                    case ">=" -> truth(c >= 0);
                    case ">" -> truth(c > 0);
                    case "and" -> truth(a.signum() != 0 && b.signum() != 0);
                    default -> truth(a.signum() != 0 || b.signum() != 0);
                };
                if (v.abs().compareTo(MOST) > 0) throw new Error();
                return v;
            };
        }

        static BigInteger truth(boolean is) {
            return is ? BigInteger.ONE : BigInteger.ZERO;
        }
    }

    // ---- a world that goes on

    static final class World {
        Told told;
        int[] at, moved, turned, warm, came;
        boolean[] roped;
        int monday;
        // otherwise
        int without = -1;
        boolean allCome, allBear;
        int odd = -1, oddTaste;
        long[] draw;
        int drawnGauge = -1;

        World(Told told) {
            this.told = told;
            at = new int[told.things.size()];
            for (int t = 0; t < at.length; t++) at[t] = told.things.get(t).home;
            moved = new int[at.length];
            turned = new int[at.length];
            warm = new int[told.rooms.size()];
            roped = new boolean[told.rooms.size()];
            came = new int[told.dead.size()];
        }

        World copy() {
            World w = new World(told);
            w.at = at.clone();
            w.moved = moved.clone();
            w.turned = turned.clone();
            w.warm = warm.clone();
            w.came = came.clone();
            w.roped = roped.clone();
            w.monday = monday;
            return w;
        }

        int gauge() {
            return drawnGauge >= 0 ? drawnGauge : glass(monday);
        }

        int glass(int monday) {
            return told.glass.isEmpty() ? 50 : told.glass.get(monday % told.glass.size());
        }

        int taste(int d) {
            return d == odd ? oddTaste : told.dead.get(d).taste;
        }

        Long law(String rule, int d, int t) {
            if (!told.laws.containsKey(rule)) return null;
            Map<String, Integer> names = new HashMap<>();
            boolean come = rule.equals("come");
            names.put("age", come ? 0 : told.things.get(t).age);
            names.put("kind", come ? 0 : told.things.get(t).kind);
            names.put("warm", come ? 0 : warm[at[t]]);
            names.put("taste", taste(d));
            names.put("fond", told.dead.get(d).fond);
            names.put("gauge", gauge());
            names.put("monday", monday);
            try {
                return told.laws.get(rule).of(names).longValueExact();
            } catch (Error e) {
                return null;
            }
        }

        int liking(int d, int t) {
            Long v = law("like", d, t);
            if (v != null) return (int) Math.max(0, Math.min(99, v));
            Thing x = told.things.get(t);
            return 50 - 5 * Math.abs(x.age - taste(d)) + (x.kind == told.dead.get(d).fond ? 20 : 0);
        }

        int likingOfRoom(int d, int r) {
            int sum = 0;
            for (int t = 0; t < at.length; t++) if (at[t] == r) sum += liking(d, t);
            return sum;
        }

        int sits(int d) {
            int best = -2;
            for (int r = 0; r < roped.length; r++) {
                if (!roped[r] && (best < 0 || likingOfRoom(d, r) > likingOfRoom(d, best))) best = r;
            }
            return best;
        }

        boolean comes(int d) {
            if (d == without) return false;
            if (allCome) return true;
            Long v = law("come", d, -1);
            return v == null ? gauge() >= told.dead.get(d).fair : v != 0;
        }

        int comers() {
            int bits = 0;
            for (int d = 0; d < came.length; d++) if (comes(d)) bits |= 1 << d;
            return bits;
        }

        void monday() {
            if (draw != null) {
                draw[0] = (draw[0] * 1103515245L + 12345L) % (1L << 31);
                drawnGauge = (int) (draw[0] / 65536 % 100);
            }
            for (int d = 0; d < came.length; d++) {
                if (!comes(d)) continue;
                int r = sits(d);
                if (r < 0) continue;
                warm[r]++;
                came[d]++;
                int least = -1;
                for (int t = 0; t < at.length; t++) {
                    if (at[t] == r && (least < 0 || liking(d, t) < liking(d, least))) least = t;
                }
                if (least < 0 || allBear) continue;
                Long bear = law("bear", d, least);
                if (liking(d, least) >= (bear == null ? 30 : Math.max(0, Math.min(100, bear)))) continue;
                int next = -1;
                for (int q = warm.length - 1; q >= 0; q--) if (told.door(r, q)) next = q;
                if (next < 0) {
                    turned[least]++;
                } else {
                    at[least] = next;
                    moved[least]++;
                }
            }
            monday++;
        }

        World after(int n) {
            World w = copy();
            w.without = without;
            w.allCome = allCome;
            w.allBear = allBear;
            w.odd = odd;
            w.oddTaste = oddTaste;
            w.draw = draw;
            for (int k = 0; k < n; k++) w.monday();
            return w;
        }

        int stirred() {
            return sum(moved) + sum(turned);
        }
    }

    static int sum(int[] row) {
        return Arrays.stream(row).sum();
    }

    // ---- the face

    private StringBuilder tape = new StringBuilder();
    private Told told = new Told();
    private World now = new World(told);
    private int faultKind = 0;
    private int faultPlace = -1;
    private List<World> undo = new ArrayList<>();
    private World image = null;
    private List<int[]> notes = new ArrayList<>();
    private int known = -1;

    public int feed(int a, int b, int c, int d, int e) {
        if (tape.length() + 20 > 700) return -1;
        for (int n : new int[] {a, b, c, d, e}) {
            for (int k = 3; k >= 0; k--) tape.append((char) (n >> 8 * k & 255));
        }
        return tape.length();
    }

    public int text(int n) {
        if (n < 0 || n > tape.length()) return -2;
        String text = tape.substring(0, n);
        tape = new StringBuilder();
        try {
            told = new Parse(text).told;
        } catch (Fault f) {
            faultKind = f.kind;
            faultPlace = f.place;
            return -1;
        }
        faultKind = 0;
        faultPlace = -1;
        now = new World(told);
        undo.clear();
        image = null;
        notes.clear();
        known = -1;
        return told.lines;
    }

    public int fault(int what) {
        return what == 0 ? faultKind : what == 1 ? faultPlace : -1;
    }

    public int named(int what, int letters) {
        List<String> names = switch (what) {
            case 0 -> told.rooms;
            case 1 -> told.things.stream().map(x -> x.name).toList();
            case 2 -> told.dead.stream().map(x -> x.name).toList();
            default -> List.of();
        };
        for (int k = 0; k < names.size(); k++) if (Check.letters(names.get(k)) == letters) return k;
        return -1;
    }

    boolean isThing(int t) {
        return t >= 0 && t < told.things.size();
    }

    boolean isRoom(int r) {
        return r >= 0 && r < told.rooms.size();
    }

    boolean isDead(int d) {
        return d >= 0 && d < told.dead.size();
    }

    static boolean in(int n, int from, int to) {
        return n >= from && n <= to;
    }

    public int thing(int thing, int what) {
        if (!isThing(thing)) throw new IndexOutOfBoundsException();
        if (!in(what, 0, 4)) throw new java.util.NoSuchElementException();
        Thing t = told.things.get(thing);
        return new int[] {now.at[thing], t.kind, t.age, now.moved[thing], now.turned[thing]}[what];
    }

    public int room(int room, int what) {
        if (!isRoom(room) || !in(what, 0, 3)) return -1;
        int bits = 0;
        for (int t = 0; t < now.at.length; t++) if (now.at[t] == room) bits |= 1 << t;
        return new int[] {now.warm[room], now.roped[room] ? 1 : 0, Integer.bitCount(bits), bits}[what];
    }

    public int dead(int dead, int what) {
        if (!isDead(dead) || !in(what, 0, 4)) return -1;
        Dead d = told.dead.get(dead);
        return new int[] {d.taste, d.fond, d.faction, d.fair, now.came[dead]}[what];
    }

    public int door(int one, int other) {
        return !isRoom(one) || !isRoom(other) ? -1 : told.door(one, other) ? 1 : 0;
    }

    public int gauge(int monday) {
        return in(monday, 0, 9999) ? now.glass(monday) : -1;
    }

    public int liking(int dead, int thing) {
        return isDead(dead) && isThing(thing) ? now.liking(dead, thing) : -1;
    }

    public long law(int what, int dead, int thing) {
        if (!in(what, 0, 2) || !isDead(dead) || what != 2 && !isThing(thing)) return Long.MIN_VALUE;
        Long v = now.law(List.of("like", "bear", "come").get(what), dead, thing);
        return v == null ? Long.MIN_VALUE : v;
    }

    void remember() {
        undo.add(now.copy());
        if (undo.size() > 20) undo.remove(0);
    }

    public boolean hang(int thing, int room) {
        if (!isThing(thing) || !isRoom(room) || now.at[thing] == room) return false;
        remember();
        now.at[thing] = room;
        return true;
    }

    public boolean rope(int room, boolean is) {
        if (!isRoom(room) || now.roped[room] == is) return false;
        remember();
        now.roped[room] = is;
        return true;
    }

    public boolean dust(int room) {
        if (!isRoom(room) || now.warm[room] == 0) return false;
        remember();
        now.warm[room] = 0;
        return true;
    }

    public int go(int n) {
        if (!in(n, 0, 99) || now.monday + n > 9900) return -1;
        now = now.after(n);
        if (n > 0) undo.clear();
        return now.monday;
    }

    public int ahead(int n, int what, int thing) {
        if (!in(n, 0, 60) || !in(what, 0, 2) || what == 0 && !isThing(thing)) return -1;
        World then = now.after(n);
        if (what == 0) return then.at[thing];
        return what == 1 ? sum(then.moved) - sum(now.moved) : sum(then.turned) - sum(now.turned);
    }

    public int comes() {
        return now.comers();
    }

    public int sits(int dead) {
        return !isDead(dead) || told.rooms.isEmpty() ? -1 : now.sits(dead);
    }

    public int quiet() {
        World w = now;
        for (int k = 0; k <= 99; k++) {
            World next = w.after(1);
            if (next.stirred() == w.stirred()) return k;
            w = next;
        }
        return -2;
    }

    public int leastMoved(int thing, int n, int what) {
        if (!isThing(thing) || !in(n, 1, 60) || !in(what, 0, 1)) return -1;
        int[] best = null;
        for (int r = 0; r < told.rooms.size(); r++) {
            World w = now.copy();
            w.at[thing] = r;
            int stirred = w.after(n).stirred() - now.stirred();
            if (best == null || stirred < best[1]) best = new int[] {r, stirred};
        }
        return best[what];
    }

    public int hanging(int what) {
        if (!in(what, 0, 4) || told.rooms.isEmpty()) return -1;
        if (what < 4 && what >= told.things.size()) return -2;
        int free = Math.min(4, told.things.size());
        int[] best = null;
        int most = -1;
        int all = (int) Math.pow(told.rooms.size(), free);
        for (int k = 0; k < all; k++) {
            World w = now.copy();
            int rest = k;
            for (int t = free - 1; t >= 0; t--) {
                w.at[t] = rest % told.rooms.size();
                rest /= told.rooms.size();
            }
            int sum = 0;
            for (int d = 0; d < told.dead.size(); d++) {
                int r = w.sits(d);
                if (r >= 0) sum += w.likingOfRoom(d, r);
            }
            if (sum > most) {
                most = sum;
                best = w.at;
            }
        }
        return what == 4 ? most : best[what];
    }

    public int steer(int dead, int room) {
        if (!isDead(dead) || !isRoom(room)) return -1;
        for (int size = 0; size <= told.things.size(); size++) {
            for (int bits = 0; bits < 1 << told.things.size(); bits++) {
                if (Integer.bitCount(bits) != size) continue;
                World w = now.copy();
                boolean fine = true;
                for (int t = 0; t < w.at.length; t++) {
                    if ((bits >> t & 1) == 0) continue;
                    if (w.at[t] == room) fine = false;
                    w.at[t] = room;
                }
                if (fine && w.sits(dead) == room) return bits;
            }
        }
        return -2;
    }

    int share(int faction, int own, int other) {
        int sum = 0;
        for (int d = 0; d < told.dead.size(); d++) {
            if (told.dead.get(d).faction == faction) sum += now.likingOfRoom(d, own);
        }
        return own == other ? sum - 10 * room(own, 2) : sum;
    }

    List<Integer> restList() {
        List<Integer> list = new ArrayList<>();
        int n = told.rooms.size();
        for (int a = 0; a < n; a++) {
            for (int b = 0; b < n; b++) {
                boolean rest = true;
                for (int c = 0; c < n; c++) {
                    if (share(0, c, b) > share(0, a, b) || share(1, c, a) > share(1, b, a)) rest = false;
                }
                if (rest) list.add(10 * a + b);
            }
        }
        return list;
    }

    public int rests() {
        return told.rooms.isEmpty() ? -1 : restList().size();
    }

    public int rest(int k) {
        if (told.rooms.isEmpty() || k < 0) return -1;
        List<Integer> list = restList();
        return k < list.size() ? list.get(k) : -2;
    }

    public int way(int one, int other) {
        if (!isRoom(one) || !isRoom(other)) return -1;
        int n = told.rooms.size();
        int[][] far = new int[n][n];
        for (int a = 0; a < n; a++) for (int b = 0; b < n; b++) far[a][b] = a == b ? 0 : told.door(a, b) ? 1 : 99;
        for (int c = 0; c < n; c++) {
            for (int a = 0; a < n; a++) {
                for (int b = 0; b < n; b++) far[a][b] = Math.min(far[a][b], far[a][c] + far[c][b]);
            }
        }
        return far[one][other] >= 99 ? -2 : far[one][other];
    }

    public long likely(int dead, int n, int k, int what) {
        if (!isDead(dead) || !in(n, 0, 8) || !in(k, 0, n) || !in(what, 0, 1)) return -1;
        BigInteger[] exactly = new BigInteger[n + 2];
        Arrays.fill(exactly, BigInteger.ZERO);
        exactly[0] = BigInteger.ONE;
        int fair = told.dead.get(dead).fair;
        for (int m = 0; m < n; m++) {
            BigInteger[] next = new BigInteger[n + 2];
            for (int j = 0; j <= n + 1; j++) {
                next[j] = exactly[j].multiply(BigInteger.valueOf(fair));
                if (j > 0) next[j] = next[j].add(exactly[j - 1].multiply(BigInteger.valueOf(100 - fair)));
            }
            exactly = next;
        }
        BigInteger below = BigInteger.valueOf(100).pow(n);
        BigInteger shared = exactly[k].gcd(below);
        return (what == 0 ? exactly[k] : below).divide(shared).longValueExact();
    }

    public int tickets(int n) {
        if (!in(n, 1, 99)) return -1;
        int most = 0;
        for (int k = 0; k < n; k++) most = Math.max(most, Integer.bitCount(now.after(k).comers()));
        return most;
    }

    public int shunned() {
        int bits = 0;
        for (int t = 0; t < now.at.length; t++) {
            boolean each = true;
            for (int d = 0; d < told.dead.size(); d++) each &= now.liking(d, t) < 30;
            if (each) bits |= 1 << t;
        }
        return bits;
    }

    public int loved(int what) {
        if (!in(what, 0, 1) || told.things.isEmpty()) return -1;
        int[] best = null;
        for (int t = 0; t < now.at.length; t++) {
            int sum = 0;
            for (int d = 0; d < told.dead.size(); d++) sum += now.liking(d, t);
            if (best == null || sum > best[1]) best = new int[] {t, sum};
        }
        return best[what];
    }

    public int note(int mondays, int thing, int room, boolean is) {
        if (!in(mondays, 1, 30) || !isThing(thing) || !isRoom(room) || notes.size() >= 24) return -1;
        notes.add(new int[] {mondays, thing, room, is ? 1 : 0});
        return notes.size() - 1;
    }

    public int out(int note) {
        if (!in(note, 0, notes.size() - 1) || notes.size() >= 24) return -1;
        notes.add(new int[] {note});
        return notes.size() - 1;
    }

    public boolean known(int n) {
        if (!in(n, -1, notes.size())) return false;
        known = n;
        return true;
    }

    boolean struck(int k, int n) {
        for (int j = k + 1; j < n; j++) {
            if (notes.get(j).length == 1 && notes.get(j)[0] == k && !struck(j, n)) return true;
        }
        return false;
    }

    public int tastes(int dead) {
        if (!isDead(dead)) return -1;
        int n = known < 0 ? notes.size() : known;
        int bits = 0;
        for (int taste = 0; taste <= 9; taste++) {
            World w = new World(told);
            w.odd = dead;
            w.oddTaste = taste;
            boolean fits = true;
            for (int k = 0; k < n; k++) {
                int[] note = notes.get(k);
                if (note.length == 1 || struck(k, n)) continue;
                fits &= w.after(note[0]).at[note[1]] == note[2] == (note[3] == 1);
            }
            if (fits) bits |= 1 << taste;
        }
        return bits;
    }

    public int chance(int seed, int n, int thing, int room) {
        if (seed < 0 || !in(n, 1, 60) || !isThing(thing) || !isRoom(room)) return -1;
        int there = 0;
        World w = now.copy();
        w.draw = new long[] {seed};
        for (int k = 0; k < 10; k++) if (w.after(n).at[thing] == room) there++;
        return there;
    }

    public int tried(int what, int i, int n) {
        if (!in(what, 0, 5) || !in(n, 0, 60)) return -1;
        if (what == 2 ? !isDead(i) : what == 5 ? !isThing(i) : i != 0) return -1;
        World w = now.copy();
        if (what == 1) Arrays.fill(w.roped, false);
        if (what == 2) w.without = i;
        if (what == 3) w.allCome = true;
        if (what == 4) w.allBear = true;
        if (what == 5) w.at[i] = -1;
        return w.after(n).stirred() - now.stirred();
    }

    public int undo() {
        if (undo.isEmpty()) return -1;
        now = undo.remove(undo.size() - 1);
        return undo.size();
    }

    public int keep() {
        image = now.copy();
        return now.monday;
    }

    public int back() {
        if (image == null) return -1;
        now = image.copy();
        undo.clear();
        return now.monday;
    }

    public int count(int what) {
        int[] all = {told.rooms.size(), told.doors.size(), told.things.size(), told.dead.size(), told.glass.size(),
            told.knots, now.monday, sum(now.moved), sum(now.turned), sum(now.came), notes.size(),
            known < 0 ? notes.size() : known, undo.size()};
        return in(what, 0, 12) ? all[what] : -1;
    }
}
