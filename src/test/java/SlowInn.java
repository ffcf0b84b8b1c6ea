import java.util.ArrayDeque;
import java.util.ArrayList;
import java.util.Arrays;
import java.util.HashMap;
import java.util.List;
import java.util.Map;
import java.util.NoSuchElementException;
import java.util.regex.Matcher;
import java.util.regex.Pattern;

/**
 * The document once more, as slowly and as plainly as can be: every ORDER is written out and looked
 * at by the times of comings and goings, texts are read by patterns. The random tests hold the
 * program against it.
 */
final class SlowInn {
    private static final Pattern GUESTS = Pattern.compile("\\d(;\\d)*");
    private static final Pattern STORY =
            Pattern.compile("(m\\d\\d[-+?]|h\\d|c\\d\\d|r\\d\\d|s[01])*");
    private static final Pattern RULE = Pattern.compile(rulePattern(4));
    private static final String NO_RULE = "m";

    static final class State {
        List<Integer> rooms = new ArrayList<>();
        int[][] told = new int[7][7];
        boolean strict;

        State() {
            for (int[] one : told) {
                Arrays.fill(one, 2);
            }
        }

        State copy() {
            State that = new State();
            that.rooms = new ArrayList<>(rooms);
            for (int i = 0; i < 7; i++) {
                that.told[i] = told[i].clone();
            }
            that.strict = strict;
            return that;
        }

        int n() {
            return rooms.size();
        }

        boolean has(int g) {
            return g >= 0 && g < n();
        }

        boolean two(int a, int b) {
            return has(a) && has(b) && a != b;
        }

        int pairs(int v) {
            int found = 0;
            for (int a = 0; a < n(); a++) {
                for (int b = a + 1; b < n(); b++) {
                    found += told[a][b] == v ? 1 : 0;
                }
            }
            return found;
        }
    }

    State s = new State();
    String text = "";
    String law = NO_RULE;
    List<Long> row = new ArrayList<>();
    ArrayDeque<State> past = new ArrayDeque<>();
    Map<Integer, State> kept = new HashMap<>();
    /** ORDERS that FIT, each as EVENTS; null: not written out yet. */
    private List<int[]> fitting;

    private static String rulePattern(int depth) {
        String thing = "(?:\\d{1,3}|[ixcmktf]" + (depth > 0 ? "|\\(" + rulePattern(depth - 1) + "\\)" : "") + ")";
        String sum = "-*" + thing + "(?:[-+*/]-*" + thing + ")*";
        return sum + "(?:[<>=]" + sum + ")?";
    }

    private void tell(long... numbers) {
        row = new ArrayList<>();
        for (long one : numbers) {
            row.add(one);
        }
    }

    private void fraction(long up, long low) {
        long g = java.math.BigInteger.valueOf(up).gcd(java.math.BigInteger.valueOf(low)).longValue();
        tell(up / g, low / g);
    }

    /** -1: all can stand; else the place of the fault. */
    private static int fault(Pattern pattern, String text, int limit) {
        String seen = text.length() > limit ? text.substring(0, limit) : text;
        for (int p = 0; p < seen.length(); p++) {
            Matcher matcher = pattern.matcher(seen.substring(0, p + 1));
            if (!matcher.matches() && !matcher.hitEnd()) {
                return p;
            }
        }
        boolean good = text.isEmpty() || text.length() <= limit && pattern.matcher(text).matches();
        return good ? -1 : seen.length();
    }

    int sign(int v) {
        if (text.length() + 4 > 80) {
            return -1;
        }
        text += "" + (char) (v >>> 24) + (char) (v >>> 16 & 255) + (char) (v >>> 8 & 255) + (char) (v & 255);
        return text.length();
    }

    boolean end(int n) {
        if (n < 0 || n > text.length()) {
            return false;
        }
        text = text.substring(0, n);
        return true;
    }

    private String taken() {
        String t = text;
        text = "";
        return t;
    }

    private void changed() {
        fitting = null;
    }

    int guests() {
        String t = taken();
        int p = fault(GUESTS, t, 13);
        int free = 7 - s.n();
        // a line without room stands at twice its number
        if (t.length() > 2 * free && (p < 0 || p > 2 * free) && 2 * free < 13) {
            p = 2 * free;
        }
        if (p >= 0) {
            return -1 - p;
        }
        if (t.isEmpty()) {
            return 0;
        }
        String[] lines = t.split(";");
        for (String line : lines) {
            s.rooms.add(Integer.parseInt(line));
        }
        past.clear();
        kept.clear();
        changed();
        return lines.length;
    }

    int meetings() {
        String t = taken();
        StringBuilder pairs = new StringBuilder();
        for (int a = 0; a < s.n(); a++) {
            for (int b = 0; b < s.n(); b++) {
                if (a != b) {
                    pairs.append(pairs.length() > 0 ? "|" : "").append(a).append(b);
                }
            }
        }
        int p;
        if (s.n() == 1) {
            // no line can be told at all: the first digit can stand, if it is the guest
            p = t.isEmpty() ? -1 : t.charAt(0) == '0' ? 1 : 0;
        } else if (pairs.length() == 0) {
            p = t.isEmpty() ? -1 : 0;
        } else {
            String line = "(?:" + pairs + ")[-+?]";
            p = fault(Pattern.compile(line + "(?:;" + line + ")*"), t, 79);
        }
        if (p >= 0) {
            return -1 - p;
        }
        State old = s.copy();
        if (!t.isEmpty()) {
            for (String line : t.split(";")) {
                put(line.charAt(0) - '0', line.charAt(1) - '0', "-+?".indexOf(line.charAt(2)));
            }
        }
        int found = 0;
        for (int a = 0; a < s.n(); a++) {
            for (int b = a + 1; b < s.n(); b++) {
                found += s.told[a][b] != old.told[a][b] ? 1 : 0;
            }
        }
        if (found > 0) {
            remember(old);
        }
        return found;
    }

    private void remember(State old) {
        past.push(old);
        while (past.size() > 15) {
            past.removeLast();
        }
    }

    private void put(int a, int b, int v) {
        s.told[a][b] = v;
        s.told[b][a] = v;
        changed();
    }

    int rule() {
        String t = taken();
        int p = fault(RULE, t, 40);
        if (p >= 0) {
            return -1 - p;
        }
        law = t.isEmpty() ? NO_RULE : t;
        return 0;
    }

    int guest(int g, int what) {
        if (!s.has(g) || what < 0 || what > 3) {
            throw new NoSuchElementException();
        }
        if (what == 0) {
            return s.rooms.get(g);
        }
        int bits = 0;
        for (int h = 0; h < s.n(); h++) {
            if (h != g && s.told[g][h] == (what == 1 ? 1 : what == 2 ? 0 : 2)) {
                bits |= 1 << h;
            }
        }
        return bits;
    }

    int pair(int a, int b) {
        if (!s.two(a, b)) {
            throw new NoSuchElementException();
        }
        return s.told[a][b];
    }

    int sheet(int kind, int n, int f, int step) {
        if (kind < 0 || kind > 3 || n > 7) {
            return -1;
        }
        if (kind < 3 && n < 0) {
            return -2;
        }
        List<Integer> entries = new ArrayList<>();
        for (int i = 0; kind < 3 && i < n; i++) {
            int e = f + i * step;
            e = kind == 0 ? (byte) e : kind == 1 ? (short) e : e;
            entries.add(e < 0 ? 0 : e > 9 ? 9 : e);
        }
        int sum = 0;
        for (int g = 0; g < s.n(); g++) {
            s.rooms.set(g, g < entries.size() ? entries.get(g) : 0);
            sum += s.rooms.get(g);
        }
        changed();
        return kind == 3 ? -3 : sum;
    }

    private int tellTwo(int a, int b, int v) {
        if (!s.two(a, b) || v < 0 || v > 2) {
            return -1;
        }
        int old = s.told[a][b];
        put(a, b, v);
        return old == v ? -2 : 10 + old;
    }

    private int hideOne(int g) {
        if (!s.has(g)) {
            return -1;
        }
        int found = 0;
        for (int h = 0; h < s.n(); h++) {
            if (h != g && s.told[g][h] != 2) {
                put(g, h, 2);
                found++;
            }
        }
        return found == 0 ? -2 : found;
    }

    private int copyOne(int a, int b) {
        if (!s.two(a, b)) {
            return -1;
        }
        int found = 0;
        for (int h = 0; h < s.n(); h++) {
            if (h != a && h != b && s.told[a][h] != s.told[b][h]) {
                put(b, h, s.told[a][h]);
                found++;
            }
        }
        return found == 0 ? -2 : found;
    }

    private int moveOne(int g, int room) {
        if (!s.has(g) || room < 0 || room > 9) {
            return -1;
        }
        int old = s.rooms.get(g);
        s.rooms.set(g, room);
        changed();
        return old == room ? -2 : old;
    }

    private int strictly(int v) {
        if (v < 0 || v > 1) {
            return -1;
        }
        int old = s.strict ? 1 : 0;
        s.strict = v == 1;
        changed();
        return old;
    }

    private int done(State old, int answer) {
        if (answer >= 0) {
            remember(old);
        }
        return answer;
    }

    int tells(int a, int b, int v) {
        State old = s.copy();
        return done(old, tellTwo(a, b, v));
    }

    int hides(int g) {
        State old = s.copy();
        return done(old, hideOne(g));
    }

    int copies(int a, int b) {
        State old = s.copy();
        return done(old, copyOne(a, b));
    }

    int moves(int g, int room) {
        State old = s.copy();
        return done(old, moveOne(g, room));
    }

    int strict(int v) {
        State old = s.copy();
        return done(old, strictly(v));
    }

    int story() {
        String t = taken();
        int p = fault(STORY, t, 60);
        if (p >= 0) {
            return -1 - p;
        }
        State old = s.copy();
        int acts = 0;
        int refused = 0;
        Matcher one = Pattern.compile("([mhcrs])(\\d)(\\d?)([-+?]?)").matcher(t);
        while (refused == 0 && one.find()) {
            int a = one.group(2).charAt(0) - '0';
            int b = one.group(3).isEmpty() ? -1 : one.group(3).charAt(0) - '0';
            int answer = switch (one.group(1)) {
                case "m" -> tellTwo(a, b, "-+?".indexOf(one.group(4)));
                case "h" -> hideOne(a);
                case "c" -> copyOne(a, b);
                case "r" -> moveOne(a, b);
                default -> strictly(a);
            };
            if (answer < 0) {
                refused = 1;
            } else {
                acts++;
            }
        }
        if (acts > 0) {
            remember(old);
        }
        tell(refused, s.pairs(2));
        return acts;
    }

    int undo() {
        if (past.isEmpty()) {
            return -1;
        }
        s = past.pop();
        changed();
        return past.size();
    }

    // ---- orders

    /** All rows of EVENTS in rising order; whole ones are looked at by their times alone. */
    private static void write(State s, int some, int[] events, int at, boolean allOrders, List<int[]> into) {
        if (at == events.length) {
            if (allOrders ? strictlyFits(s, some, events) : fits(s, some, events)) {
                into.add(events.clone());
            }
            return;
        }
        if (!allOrders && at > 0 && lost(s, some, events, at)) {
            return;
        }
        for (int e = 0; e < 14; e++) {
            if ((some >> e / 2 & 1) == 1 && (at(events, at, e) < 0) && (e % 2 == 0 || at(events, at, e - 1) >= 0)) {
                events[at] = e;
                write(s, some, events, at + 1, allOrders, into);
            }
        }
    }

    private static int at(int[] events, int many, int e) {
        for (int i = 0; i < many; i++) {
            if (events[i] == e) {
                return i;
            }
        }
        return -1;
    }

    /** A beginning can be given up, if two whose stays are over or begun break what is told. */
    private static boolean lost(State s, int some, int[] events, int many) {
        for (int a = 0; a < s.n(); a++) {
            for (int b = a + 1; b < s.n(); b++) {
                if ((some >> a & 1) == 0 || (some >> b & 1) == 0) {
                    continue;
                }
                int ca = at(events, many, 2 * a);
                int cb = at(events, many, 2 * b);
                int ga = at(events, many, 2 * a + 1);
                int gb = at(events, many, 2 * b + 1);
                boolean sameRoom = s.strict && s.rooms.get(a).equals(s.rooms.get(b));
                if (ca >= 0 && cb >= 0) {
                    boolean meet = (ga < 0 || ga > cb) && (gb < 0 || gb > ca);
                    if (meet ? s.told[a][b] == 0 || sameRoom : s.told[a][b] == 1) {
                        return true;
                    }
                } else if ((ga >= 0 || gb >= 0) && s.told[a][b] == 1) {
                    return true;
                }
            }
        }
        return false;
    }

    private static boolean meet(int[] events, int a, int b) {
        int n = events.length;
        return at(events, n, 2 * a) < at(events, n, 2 * b + 1) && at(events, n, 2 * b) < at(events, n, 2 * a + 1);
    }

    private static boolean strictlyFits(State s, int some, int[] events) {
        for (int a = 0; a < s.n(); a++) {
            for (int b = a + 1; b < s.n(); b++) {
                boolean both = (some >> a & 1) == 1 && (some >> b & 1) == 1;
                if (both && s.strict && s.rooms.get(a).equals(s.rooms.get(b)) && meet(events, a, b)) {
                    return false;
                }
            }
        }
        return true;
    }

    private static int liesIn(State s, int some, int[] events) {
        int found = 0;
        for (int a = 0; a < s.n(); a++) {
            for (int b = a + 1; b < s.n(); b++) {
                if ((some >> a & 1) == 1 && (some >> b & 1) == 1 && s.told[a][b] != 2) {
                    found += (s.told[a][b] == 1) != meet(events, a, b) ? 1 : 0;
                }
            }
        }
        return found;
    }

    private static boolean fits(State s, int some, int[] events) {
        return strictlyFits(s, some, events) && liesIn(s, some, events) == 0;
    }

    private static List<int[]> written(State s, int some, boolean allOrders) {
        List<int[]> all = new ArrayList<>();
        write(s, some, new int[2 * Integer.bitCount(some)], 0, allOrders, all);
        return all;
    }

    private static boolean someFits(State s, int some) {
        return find(s, some, new int[2 * Integer.bitCount(some)], 0);
    }

    private static boolean find(State s, int some, int[] events, int many) {
        if (many > 0 && lost(s, some, events, many)) {
            return false;
        }
        if (many == events.length) {
            return fits(s, some, events);
        }
        for (int e = 0; e < 14; e++) {
            if ((some >> e / 2 & 1) == 1 && at(events, many, e) < 0 && (e % 2 == 0 || at(events, many, e - 1) >= 0)) {
                events[many] = e;
                if (find(s, some, events, many + 1)) {
                    return true;
                }
            }
        }
        return false;
    }

    private int all() {
        return (1 << s.n()) - 1;
    }

    private List<int[]> all(State now) {
        if (fitting == null) {
            fitting = written(now, all(), false);
        }
        return fitting;
    }

    long orders() {
        return all(s).size();
    }

    private void tellEvents(int[] events) {
        row = new ArrayList<>();
        for (int e : events) {
            row.add((long) e);
        }
    }

    int first() {
        if (orders() == 0) {
            return -2;
        }
        tellEvents(all(s).get(0));
        return 2 * s.n();
    }

    private static int place(int[] events, int g) {
        int ahead = 0;
        for (int e : events) {
            if (e == 2 * g) {
                return ahead;
            }
            ahead += e % 2 == 0 ? 1 : 0;
        }
        return -1;
    }

    private long ahead(int a, int b) {
        return all(s).stream().filter(o -> at(o, o.length, 2 * a) < at(o, o.length, 2 * b)).count();
    }

    private long meeting(int a, int b) {
        return all(s).stream().filter(o -> meet(o, a, b)).count();
    }

    int before(int a, int b) {
        if (!s.two(a, b)) {
            return -1;
        }
        if (orders() == 0) {
            return -2;
        }
        fraction(ahead(a, b), orders());
        return 0;
    }

    int met(int a, int b) {
        if (!s.two(a, b)) {
            return -1;
        }
        if (orders() == 0) {
            return -2;
        }
        fraction(meeting(a, b), orders());
        return 0;
    }

    int sure() {
        if (orders() == 0) {
            return -2;
        }
        tell();
        int found = 0;
        for (int a = s.n() - 1; a >= 0; a--) {
            for (int b = s.n() - 1; b >= 0; b--) {
                if (a != b && ahead(a, b) == orders()) {
                    found++;
                    tell(a, b);
                }
            }
        }
        return found;
    }

    int known() {
        if (orders() == 0) {
            return -2;
        }
        tell();
        int found = 0;
        for (int a = s.n() - 1; a >= 0; a--) {
            for (int b = s.n() - 1; b > a; b--) {
                if (s.told[a][b] == 2 && (meeting(a, b) == 0 || meeting(a, b) == orders())) {
                    found++;
                    tell(a, b, meeting(a, b) == 0 ? 0 : 1);
                }
            }
        }
        return found;
    }

    int place(int g, int v) {
        if (!s.has(g) || !s.has(v)) {
            return -1;
        }
        if (orders() == 0) {
            return -2;
        }
        fraction(all(s).stream().filter(o -> place(o, g) == v).count(), orders());
        return 0;
    }

    /** The sets of those who are in, from the start to the end. */
    private static int[] sets(int[] events) {
        int[] sets = new int[events.length + 1];
        for (int i = 0; i < events.length; i++) {
            sets[i + 1] = sets[i] ^ 1 << events[i] / 2;
        }
        return sets;
    }

    private static int fullest(int[] events) {
        return Arrays.stream(sets(events)).map(Integer::bitCount).max().getAsInt();
    }

    int beds() {
        if (orders() == 0) {
            return -2;
        }
        int fewest = all(s).stream().mapToInt(SlowInn::fullest).min().getAsInt();
        fraction(all(s).stream().filter(o -> fullest(o) == fewest).count(), orders());
        return fewest;
    }

    int most() {
        if (orders() == 0) {
            return -2;
        }
        int most = all(s).stream().mapToInt(SlowInn::fullest).max().getAsInt();
        tell(all(s).stream().flatMapToInt(o -> Arrays.stream(sets(o)))
                .filter(one -> Integer.bitCount(one) == most).min().getAsInt());
        return most;
    }

    int evening(int some) {
        if (some < 0 || some > all()) {
            return -1;
        }
        if (orders() == 0) {
            return -2;
        }
        long found = all(s).stream().filter(o -> Arrays.stream(sets(o)).anyMatch(one -> one == some)).count();
        fraction(found, orders());
        return found > 0 ? 1 : 0;
    }

    int longest(int g) {
        if (!s.has(g)) {
            return -1;
        }
        if (orders() == 0) {
            return -2;
        }
        int[] stays = all(s).stream()
                .mapToInt(o -> at(o, o.length, 2 * g + 1) - at(o, o.length, 2 * g) - 1).sorted().toArray();
        tell(stays[0]);
        return stays[stays.length - 1];
    }

    // ---- worths: a text is cut at its weakest sign

    private static int value(String e, Map<Character, Integer> things) {
        int cut = cut(e, "<>=");
        cut = cut < 0 ? cut(e, "+-") : cut;
        cut = cut < 0 ? cut(e, "*/") : cut;
        if (cut >= 0) {
            int a = value(e.substring(0, cut), things);
            int b = value(e.substring(cut + 1), things);
            return switch (e.charAt(cut)) {
                case '<' -> a < b ? 1 : 0;
                case '>' -> a > b ? 1 : 0;
                case '=' -> a == b ? 1 : 0;
                case '+' -> a + b;
                case '-' -> a - b;
                case '*' -> a * b;
                default -> b == 0 ? 0 : a / b;
            };
        }
        if (e.charAt(0) == '-') {
            return -value(e.substring(1), things);
        }
        if (e.charAt(0) == '(') {
            return value(e.substring(1, e.length() - 1), things);
        }
        return things.containsKey(e.charAt(0)) ? things.get(e.charAt(0)) : Integer.parseInt(e);
    }

    /** The last of these signs that stands in no ( ) and between two things; -1: none. */
    private static int cut(String e, String signs) {
        int depth = 0;
        for (int p = e.length() - 1; p > 0; p--) {
            char c = e.charAt(p);
            depth += c == ')' ? 1 : c == '(' ? -1 : 0;
            boolean between = "<>=+-*/(".indexOf(e.charAt(p - 1)) < 0;
            if (depth == 0 && between && signs.indexOf(c) >= 0) {
                return p;
            }
        }
        return -1;
    }

    private final Map<String, Integer> worths = new HashMap<>();

    private int worth(int[] events, String rule) {
        int sum = 0;
        int in = 0;
        int gone = 0;
        for (int t = 0; t < events.length; t++) {
            int g = events[t] / 2;
            int comes = 1 - events[t] % 2;
            int friends = Integer.bitCount(guest(g, 1));
            String key = rule + ":" + g + ":" + s.rooms.get(g) + ":" + comes + ":" + in + ":" + gone + ":" + t + ":" + friends;
            Integer known = worths.get(key);
            if (known == null) {
                known = value(rule, Map.of('i', g, 'x', s.rooms.get(g), 'c', comes, 'm', in, 'k', gone, 't', t, 'f', friends));
                known = known < -99 ? -99 : known > 99 ? 99 : known;
                worths.put(key, known);
            }
            sum += known;
            in += comes == 1 ? 1 : -1;
            gone += 1 - comes;
        }
        return sum;
    }

    int cheapest() {
        if (orders() == 0) {
            return -2;
        }
        int[] best = null;
        for (int[] one : all(s)) {
            best = best == null || worth(one, law) < worth(best, law) ? one : best;
        }
        tellEvents(best);
        return 10000 + worth(best, law);
    }

    int dearest() {
        if (orders() == 0) {
            return -2;
        }
        int most = all(s).stream().mapToInt(o -> worth(o, law)).max().getAsInt();
        fraction(all(s).stream().filter(o -> worth(o, law) == most).count(), orders());
        return 10000 + most;
    }

    int lies() {
        int[] best = null;
        for (int[] one : written(s, all(), true)) {
            best = best == null || liesIn(s, all(), one) < liesIn(s, all(), best) ? one : best;
        }
        tellEvents(best);
        return liesIn(s, all(), best);
    }

    int alone() {
        int bits = 0;
        State old = s;
        for (int g = 0; g < old.n(); g++) {
            s = old.copy();
            hideOne(g);
            bits |= someFits(s, all()) ? 1 << g : 0;
        }
        s = old;
        changed();
        tell(Integer.bitCount(bits));
        return bits;
    }

    int clash() {
        if (someFits(s, all())) {
            return -2;
        }
        for (int many = 0; many <= s.n(); many++) {
            for (int some = 0; some <= all(); some++) {
                if (Integer.bitCount(some) == many && !someFits(s, some)) {
                    tell(some);
                    return many;
                }
            }
        }
        throw new IllegalStateException("all together should not fit");
    }

    // ---- nets

    int ring() {
        for (int many = 4; many <= s.n(); many++) {
            if (ring(new ArrayList<>(), many)) {
                return many;
            }
        }
        return -2;
    }

    /** Rows in rising order; the first that is a ring is the least. */
    private boolean ring(List<Integer> turn, int many) {
        if (turn.size() == many) {
            boolean good = turn.get(1) < turn.get(many - 1);
            for (int i = 0; i < many; i++) {
                good &= turn.get(i) >= turn.get(0);
                for (int j = i + 1; j < many; j++) {
                    boolean near = j == i + 1 || i == 0 && j == many - 1;
                    good &= s.told[turn.get(i)][turn.get(j)] == (near ? 1 : 0);
                }
            }
            if (good) {
                row = new ArrayList<>();
                turn.forEach(g -> row.add((long) g));
            }
            return good;
        }
        for (int g = 0; g < s.n(); g++) {
            if (!turn.contains(g) && (turn.isEmpty() || s.told[turn.get(turn.size() - 1)][g] == 1)) {
                turn.add(g);
                if (ring(turn, many)) {
                    return true;
                }
                turn.remove(turn.size() - 1);
            }
        }
        return false;
    }

    private boolean way(int from, int to, int without, int been) {
        if (from == to) {
            return true;
        }
        for (int g = 0; g < s.n(); g++) {
            boolean free = g != without && s.told[without][g] != 1 && (been >> g & 1) == 0;
            if (free && s.told[from][g] == 1 && way(g, to, without, been | 1 << g)) {
                return true;
            }
        }
        return false;
    }

    int threes() {
        tell();
        int found = 0;
        for (int a = 0; a < s.n(); a++) {
            for (int b = a + 1; b < s.n(); b++) {
                for (int c = b + 1; c < s.n(); c++) {
                    boolean strangers = s.told[a][b] == 0 && s.told[a][c] == 0 && s.told[b][c] == 0;
                    if (strangers && way(a, b, c, 1 << a) && way(b, c, a, 1 << b) && way(a, c, b, 1 << a)) {
                        if (found == 0) {
                            tell(a, b, c);
                        }
                        found++;
                    }
                }
            }
        }
        return found;
    }

    int rooms() {
        int n = s.n();
        for (int enough = 0; enough <= n; enough++) {
            long rows = 1;
            for (int i = 0; i < n; i++) {
                rows *= enough;
            }
            for (long code = 0; code < rows; code++) {
                long left = code;
                int[] room = new int[n];
                for (int g = n - 1; g >= 0; g--) {
                    room[g] = (int) (left % enough);
                    left /= enough;
                }
                boolean good = true;
                for (int a = 0; a < n; a++) {
                    for (int b = a + 1; b < n; b++) {
                        good &= s.told[a][b] != 1 || room[a] != room[b];
                    }
                }
                if (good) {
                    row = new ArrayList<>();
                    for (int one : room) {
                        row.add((long) one);
                    }
                    return enough;
                }
            }
        }
        throw new IllegalStateException("a room for each is enough");
    }

    int circle() {
        List<Integer> circles = new ArrayList<>();
        for (int some = 0; some <= all(); some++) {
            boolean good = true;
            for (int a = 0; a < s.n(); a++) {
                for (int b = a + 1; b < s.n(); b++) {
                    good &= (some >> a & some >> b & 1) == 0 || s.told[a][b] == 1;
                }
            }
            if (good) {
                circles.add(some);
            }
        }
        int most = circles.stream().mapToInt(Integer::bitCount).max().getAsInt();
        circles.removeIf(one -> Integer.bitCount(one) < most);
        tell(circles.get(0), circles.size());
        return most;
    }

    int hears(int from, int to) {
        if (!s.has(from) || !s.has(to)) {
            return -1;
        }
        for (int many = 1; many <= s.n(); many++) {
            List<Integer> way = new ArrayList<>(List.of(from));
            if (hears(way, to, many)) {
                row = new ArrayList<>();
                way.forEach(g -> row.add((long) g));
                return many;
            }
        }
        return -2;
    }

    private boolean hears(List<Integer> way, int to, int many) {
        int here = way.get(way.size() - 1);
        if (way.size() == many) {
            return here == to;
        }
        for (int g = 0; g < s.n(); g++) {
            if (g != here && s.told[here][g] == 1) {
                way.add(g);
                if (hears(way, to, many)) {
                    return true;
                }
                way.remove(way.size() - 1);
            }
        }
        return false;
    }

    // ---- asks, chances, games

    long asks() {
        if (orders() == 0 || s.pairs(2) == 0) {
            return -2;
        }
        long best = Long.MAX_VALUE;
        for (int a = 0; a < s.n(); a++) {
            for (int b = a + 1; b < s.n(); b++) {
                long yes = meeting(a, b);
                long left = yes > orders() - yes ? yes : orders() - yes;
                if (s.told[a][b] == 2 && left < best) {
                    best = left;
                    tell(a, b, yes);
                }
            }
        }
        return best;
    }

    int likely(int p) {
        if (p < 0 || p > 10) {
            return -1;
        }
        if (s.pairs(2) > 6) {
            return -2;
        }
        fraction(likely(s.copy(), p), (long) Math.pow(10, s.pairs(2)));
        return 0;
    }

    private static long likely(State s, int p) {
        for (int a = 0; a < s.n(); a++) {
            for (int b = a + 1; b < s.n(); b++) {
                if (s.told[a][b] == 2) {
                    State yes = s.copy();
                    yes.told[a][b] = 1;
                    yes.told[b][a] = 1;
                    State no = s.copy();
                    no.told[a][b] = 0;
                    no.told[b][a] = 0;
                    return p * likely(yes, p) + (10 - p) * likely(no, p);
                }
            }
        }
        return someFits(s, (1 << s.n()) - 1) ? 1 : 0;
    }

    int game(int n, int k) {
        if (n < 0 || n > 60 || k < 2 || k > 9) {
            return -1;
        }
        boolean[][] wins = new boolean[n + 1][k + 1];
        for (int left = 0; left <= n; left++) {
            for (int last = 0; last <= k; last++) {
                for (int ask = 1; ask <= k && ask <= left; ask++) {
                    wins[left][last] |= ask != last && !wins[left - ask][ask];
                }
            }
        }
        for (int ask = 1; ask <= k && ask <= n; ask++) {
            if (!wins[n - ask][ask]) {
                return ask;
            }
        }
        return 0;
    }

    int law() {
        String t = taken();
        int p = fault(RULE, t, 40);
        if (p >= 0) {
            return -100000 - p;
        }
        if (orders() == 0) {
            return -2;
        }
        String other = t.isEmpty() ? NO_RULE : t;
        int byOther = all(s).stream().mapToInt(o -> worth(o, other)).min().getAsInt();
        int byLaw = all(s).stream().mapToInt(o -> worth(o, law)).min().getAsInt();
        tell(10000 + byOther, 10000 + byLaw);
        return 10000 + byOther - byLaw;
    }

    private static int[] gains(int x, int y, int v) {
        if (x + y <= v) {
            return new int[] {x + (v - x - y) / 2, y + (v - x - y) / 2};
        }
        return new int[] {x > y ? -1 : 0, y > x ? -1 : 0};
    }

    int rests(int v) {
        if (v < 0 || v > 20) {
            return -1;
        }
        tell();
        int found = 0;
        for (int x = 9; x >= 0; x--) {
            for (int y = 9; y >= 0; y--) {
                boolean rest = true;
                for (int z = 0; z < 10; z++) {
                    rest &= gains(z, y, v)[0] <= gains(x, y, v)[0] && gains(x, z, v)[1] <= gains(x, y, v)[1];
                }
                if (rest) {
                    found++;
                    tell(x, y);
                }
            }
        }
        return found;
    }

    private int seed;

    private int draw(int n) {
        seed = seed * 1103515245 + 12345;
        return (int) ((seed & 0xffffffffL) / 65536 % n);
    }

    int years(int start, int n) {
        if (n < 1 || n > 60) {
            return -1;
        }
        seed = start;
        State dream = s.copy();
        int fitted = 0;
        for (int i = 0; i < n; i++) {
            if (dream.n() > 0) {
                int a = draw(dream.n());
                int b = draw(dream.n());
                int v = draw(3);
                if (a != b) {
                    dream.told[a][b] = v;
                    dream.told[b][a] = v;
                }
            }
            fitted += someFits(dream, all()) ? 1 : 0;
        }
        tell(dream.pairs(1), fitted);
        return dream.pairs(2);
    }

    boolean keep(int i) {
        if (i < 0 || i > 2) {
            return false;
        }
        kept.put(i, s.copy());
        return true;
    }

    boolean again(int i) {
        if (!kept.containsKey(i)) {
            return false;
        }
        s = kept.get(i).copy();
        past.clear();
        changed();
        return true;
    }

    int count(int what) {
        return switch (what) {
            case 0 -> s.n();
            case 1 -> s.pairs(1);
            case 2 -> s.pairs(0);
            case 3 -> s.pairs(2);
            case 4 -> s.strict ? 1 : 0;
            case 5 -> s.rooms.stream().mapToInt(Integer::intValue).sum();
            case 6 -> past.size();
            case 7 -> row.size();
            case 8 -> text.length();
            default -> -100;
        };
    }

    long row(int i) {
        if (i < 0 || i >= row.size()) {
            throw new NoSuchElementException();
        }
        return row.get(i);
    }
}
