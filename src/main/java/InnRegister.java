import java.util.Arrays;
import java.util.NoSuchElementException;

/** The burnt register of an inn: who met whom, and what that tells of comings and goings. */
public final class InnRegister {
    public static final int NONE = -1;

    private static final int NOT_SO = -2;
    private static final int MISSING = -3;
    private static final int FINE = -1;
    private static final int NOBODY = -1;
    private static final int MOST_GUESTS = 7;
    private static final int SETS = 128;
    private static final int MOST_SIGNS = 80;
    private static final int MOST_GUEST_SIGNS = 13;
    private static final int MOST_MEETING_SIGNS = 79;
    private static final int MOST_RULE_SIGNS = 40;
    private static final int MOST_STORY_SIGNS = 60;
    private static final int MOST_ASKED = 6;
    private static final int MOST_YEARS = 60;
    private static final int SHIFTED = 10000;
    private static final int LAW_FAULT = -100000;
    private static final int[] POWER = {1, 3, 9, 27, 81, 243, 729, 2187};

    private final Text text = new Text();
    private final Told told = new Told();
    private final Told dream = new Told();
    private final Past past = new Past();
    private final Row row = new Row();
    private final Fits fits = new Fits();
    private final Orders orders = new Orders();
    private final Costs costs = new Costs();
    private final Circles circles = new Circles();
    private final Games games = new Games();
    private Rule rule = new Rule();
    /** Takes each text first, so that a faulty one leaves THE RULE as it is. */
    private Rule spare = new Rule();

    public InnRegister() {
    }

    public int sign(int v) {
        return text.add(v);
    }

    public boolean end(int n) {
        return text.cut(n);
    }

    public int guests() {
        int fault = text.faultInGuests(MOST_GUESTS - told.size);
        int lines = (text.length + 1) / 2;
        if (fault == FINE && lines > 0) {
            for (int line = 0; line < lines; line++) {
                told.add(text.digit(2 * line));
            }
            past.forgetSteps();
            past.forgetKept();
        }
        text.clear();
        return fault == FINE ? lines : -1 - fault;
    }

    public int meetings() {
        int fault = text.faultInMeetings(told.size);
        int changed = 0;
        if (fault == FINE) {
            past.stage(told);
            for (int at = 0; at < text.length; at += 4) {
                told.tell(text.digit(at), text.digit(at + 1), text.toldBy(at + 2));
            }
            changed = past.pairsChanged(told);
            if (changed > 0) {
                past.push();
            }
        }
        text.clear();
        return fault == FINE ? changed : -1 - fault;
    }

    public int rule() {
        int fault = spare.read(text);
        if (fault != FINE) {
            return -1 - fault;
        }
        Rule old = rule;
        rule = spare;
        spare = old;
        return 0;
    }

    public int guest(int guest, int what) throws NoSuchElementException {
        if (!told.has(guest) || what < 0 || what > 3) {
            throw new NoSuchElementException();
        }
        switch (what) {
            case 0:
                return told.room[guest];
            case 1:
                return told.met[guest];
            case 2:
                return told.not[guest];
            default:
                return told.openOf(guest);
        }
    }

    public int pair(int one, int other) throws NoSuchElementException {
        if (!told.areTwo(one, other)) {
            throw new NoSuchElementException();
        }
        return told.about(one, other);
    }

    public int sheet(int kind, int n, int f, int step) {
        if (kind < 0 || kind > 3 || n > MOST_GUESTS) {
            return NONE;
        }
        if (kind == 3) {
            told.readSheet(kind, 0, f, step);
            return MISSING;
        }
        if (n < 0) {
            return NOT_SO;
        }
        told.readSheet(kind, n, f, step);
        return told.roomsTogether();
    }

    public int tells(int one, int other, int v) {
        past.stage(told);
        return settled(told.tell(one, other, v));
    }

    public int hides(int guest) {
        past.stage(told);
        return settled(told.hide(guest));
    }

    public int copies(int one, int other) {
        past.stage(told);
        return settled(told.copy(one, other));
    }

    public int moves(int guest, int room) {
        past.stage(told);
        return settled(told.move(guest, room));
    }

    public int strict(int v) {
        past.stage(told);
        return settled(told.makeFirm(v));
    }

    public int story() {
        int fault = text.faultInStory();
        if (fault != FINE) {
            text.clear();
            return -1 - fault;
        }
        past.stage(told);
        int done = 0;
        int refused = 0;
        int at = 0;
        for (int turn = 0; turn < MOST_STORY_SIGNS && at < text.length && refused == 0; turn++) {
            if (act(at) >= 0) {
                done++;
            } else {
                refused = 1;
            }
            at += Text.actLength(text.at(at));
        }
        if (done > 0) {
            past.push();
        }
        text.clear();
        row.clear();
        row.add(refused);
        row.add(told.pairsTold(2));
        return done;
    }

    public int undo() {
        return past.pop(told);
    }

    public long orders() {
        return orders.total(told);
    }

    public int first() {
        if (orders.total(told) == 0) {
            return NOT_SO;
        }
        row.clear();
        return orders.leastRow(row);
    }

    public int before(int one, int other) {
        if (!told.areTwo(one, other)) {
            return NONE;
        }
        if (orders.total(told) == 0) {
            return NOT_SO;
        }
        return share(orders.waysAhead(one, other));
    }

    public int met(int one, int other) {
        if (!told.areTwo(one, other)) {
            return NONE;
        }
        if (orders.total(told) == 0) {
            return NOT_SO;
        }
        return share(orders.waysMeeting(one, other));
    }

    public int sure() {
        long all = orders.total(told);
        if (all == 0) {
            return NOT_SO;
        }
        row.clear();
        int found = 0;
        for (int one = 0; one < told.size; one++) {
            for (int other = 0; other < told.size; other++) {
                if (one != other && orders.waysAhead(one, other) == all) {
                    if (found == 0) {
                        row.add(one);
                        row.add(other);
                    }
                    found++;
                }
            }
        }
        return found;
    }

    public int known() {
        long all = orders.total(told);
        if (all == 0) {
            return NOT_SO;
        }
        row.clear();
        int found = 0;
        for (int one = 0; one < told.size; one++) {
            for (int other = one + 1; other < told.size; other++) {
                if (told.about(one, other) == 2) {
                    long ways = orders.waysMeeting(one, other);
                    if (ways == 0 || ways == all) {
                        if (found == 0) {
                            row.add(one);
                            row.add(other);
                            row.add(ways == 0 ? 0 : 1);
                        }
                        found++;
                    }
                }
            }
        }
        return found;
    }

    public int place(int guest, int v) {
        if (!told.has(guest) || !told.has(v)) {
            return NONE;
        }
        if (orders.total(told) == 0) {
            return NOT_SO;
        }
        return share(orders.waysBehind(guest, v));
    }

    public int beds() {
        if (orders.total(told) == 0) {
            return NOT_SO;
        }
        int enough = 0;
        long ways = orders.waysWithin(enough, NOBODY);
        while (ways == 0 && enough < told.size) {
            enough++;
            ways = orders.waysWithin(enough, NOBODY);
        }
        share(ways);
        return enough;
    }

    public int most() {
        if (orders.total(told) == 0) {
            return NOT_SO;
        }
        int fullest = orders.fullestSet();
        row.clear();
        row.add(fullest);
        return Integer.bitCount(fullest);
    }

    public int evening(int some) {
        if ((some & ~told.all()) != 0) {
            return NONE;
        }
        long all = orders.total(told);
        if (all == 0) {
            return NOT_SO;
        }
        long ways = all - orders.waysWithin(MOST_GUESTS, some);
        share(ways);
        return ways > 0 ? 1 : 0;
    }

    public int longest(int guest) {
        if (!told.has(guest)) {
            return NONE;
        }
        if (orders.total(told) == 0) {
            return NOT_SO;
        }
        row.clear();
        row.add(costs.shortestStay(orders, guest));
        return costs.longestStay(orders, guest);
    }

    public int cheapest() {
        if (orders.total(told) == 0) {
            return NOT_SO;
        }
        int least = costs.leastWorth(orders, told, rule);
        row.clear();
        costs.tellOrder(orders, row);
        return SHIFTED + least;
    }

    public int dearest() {
        if (orders.total(told) == 0) {
            return NOT_SO;
        }
        int worth = costs.greatestWorth(orders, told, rule);
        share(orders.ways[0]);
        return SHIFTED + worth;
    }

    public int lies() {
        orders.total(told);
        int fewest = costs.fewestLies(orders, told);
        row.clear();
        costs.tellOrder(orders, row);
        return fewest;
    }

    public int alone() {
        int liars = 0;
        for (int guest = 0; guest < told.size; guest++) {
            if (fits.without(told, guest)) {
                liars |= 1 << guest;
            }
        }
        row.clear();
        row.add(Integer.bitCount(liars));
        return liars;
    }

    public int clash() {
        if (fits.among(told, told.all())) {
            return NOT_SO;
        }
        int best = told.all();
        for (int some = 0; some < told.all(); some++) {
            if (Integer.bitCount(some) < Integer.bitCount(best) && !fits.among(told, some)) {
                best = some;
            }
        }
        row.clear();
        row.add(best);
        return Integer.bitCount(best);
    }

    public int ring() {
        return circles.shortestRing(told, row);
    }

    public int threes() {
        return circles.farThrees(told, row);
    }

    public int rooms() {
        return circles.fewestRooms(told, row);
    }

    public int circle() {
        return circles.greatestCircle(told, row);
    }

    public int hears(int from, int to) {
        if (!told.has(from) || !told.has(to)) {
            return NONE;
        }
        return circles.shortestWay(told, from, to, row);
    }

    public long asks() {
        long all = orders.total(told);
        if (all == 0 || told.pairsTold(2) == 0) {
            return NOT_SO;
        }
        long fewest = all + 1;
        for (int one = 0; one < told.size; one++) {
            for (int other = one + 1; other < told.size; other++) {
                if (told.about(one, other) == 2) {
                    long ways = orders.waysMeeting(one, other);
                    long left = Math.max(ways, all - ways);
                    if (left < fewest) {
                        fewest = left;
                        row.clear();
                        row.add(one);
                        row.add(other);
                        row.add(ways);
                    }
                }
            }
        }
        return fewest;
    }

    public int likely(int p) {
        if (p < 0 || p > 10) {
            return NONE;
        }
        int open = told.pairsTold(2);
        if (open > MOST_ASKED) {
            return NOT_SO;
        }
        orders.total(told);
        row.clear();
        row.addFraction(Games.chance(orders.openOutcomes(told), open, p), Games.power(10, open));
        return 0;
    }

    public int game(int n, int k) {
        if (n < 0 || n > 60 || k < 2 || k > 9) {
            return NONE;
        }
        return games.winningAsk(n, k);
    }

    public int law() {
        int fault = spare.read(text);
        if (fault != FINE) {
            return LAW_FAULT - fault;
        }
        if (orders.total(told) == 0) {
            return NOT_SO;
        }
        int byOther = costs.leastWorth(orders, told, spare);
        int byRule = costs.leastWorth(orders, told, rule);
        row.clear();
        row.add(SHIFTED + byOther);
        row.add(SHIFTED + byRule);
        return SHIFTED + byOther - byRule;
    }

    public int rests(int v) {
        if (v < 0 || v > 20) {
            return NONE;
        }
        return Games.bargainsAtRest(v, row);
    }

    public int years(int seed, int n) {
        if (n < 1 || n > MOST_YEARS) {
            return NONE;
        }
        dream.likeThat(told);
        games.sow(seed);
        int fitting = 0;
        for (int year = 0; year < n; year++) {
            if (dream.size > 0) {
                int one = games.draw(dream.size);
                int other = games.draw(dream.size);
                dream.tell(one, other, games.draw(3));
            }
            if (fits.among(dream, dream.all())) {
                fitting++;
            }
        }
        row.clear();
        row.add(dream.pairsTold(1));
        row.add(fitting);
        return dream.pairsTold(2);
    }

    public boolean keep(int i) {
        return past.hold(told, i);
    }

    public boolean again(int i) {
        return past.bringBack(told, i);
    }

    public int count(int what) {
        switch (what) {
            case 0:
                return told.size;
            case 1:
                return told.pairsTold(1);
            case 2:
                return told.pairsTold(0);
            case 3:
                return told.pairsTold(2);
            case 4:
                return told.firm ? 1 : 0;
            case 5:
                return told.roomsTogether();
            case 6:
                return past.steps;
            case 7:
                return row.size;
            case 8:
                return text.length;
            default:
                return -100;
        }
    }

    public long row(int i) throws NoSuchElementException {
        if (i < 0 || i >= row.size) {
            throw new NoSuchElementException();
        }
        return row.numbers[i];
    }

    /** What was done can be undone; what was refused leaves no step. */
    private int settled(int answer) {
        if (answer >= 0) {
            past.push();
        }
        return answer;
    }

    /** The least of some guests; 32 of nobody. */
    private static int leastOf(int some) {
        return Integer.bitCount((some & -some) - 1);
    }

    private int share(long ways) {
        row.clear();
        row.addFraction(ways, orders.total(told));
        return 0;
    }

    private int act(int at) {
        switch (text.at(at)) {
            case 'm':
                return told.tell(text.digit(at + 1), text.digit(at + 2), text.toldBy(at + 3));
            case 'h':
                return told.hide(text.digit(at + 1));
            case 'c':
                return told.copy(text.digit(at + 1), text.digit(at + 2));
            case 'r':
                return told.move(text.digit(at + 1), text.digit(at + 2));
            case 's':
                return told.makeFirm(text.digit(at + 1));
            default:
                return NONE;
        }
    }

    /** THE TEXT; a fault is the place of the first sign that can't stand there. */
    private static final class Text {
        private final char[] signs = new char[MOST_SIGNS];
        private int length;

        int add(int v) {
            if (length > MOST_SIGNS - 4) {
                return NONE;
            }
            for (int shift = 24; shift >= 0; shift -= 8) {
                signs[length] = (char) (v >>> shift & 255);
                length++;
            }
            return length;
        }

        boolean cut(int n) {
            if (n < 0 || n > length) {
                return false;
            }
            length = n;
            return true;
        }

        void clear() {
            length = 0;
        }

        int at(int p) {
            return p >= 0 && p < length ? signs[p] : NONE;
        }

        int digit(int p) {
            int sign = at(p);
            return sign >= '0' && sign <= '9' ? sign - '0' : NONE;
        }

        /** What + - ? tell of a pair, as tells() takes it. */
        int toldBy(int p) {
            switch (at(p)) {
                case '+':
                    return 1;
                case '-':
                    return 0;
                case '?':
                    return 2;
                default:
                    return NONE;
            }
        }

        int faultInGuests(int free) {
            int stop = Math.min(length, MOST_GUEST_SIGNS);
            for (int p = 0; p < stop; p++) {
                boolean good = p % 2 == 1 ? at(p) == ';' : p / 2 < free && digit(p) >= 0;
                if (!good) {
                    return p;
                }
            }
            boolean whole = length == 0 || length % 2 == 1;
            return whole && length <= MOST_GUEST_SIGNS ? FINE : stop;
        }

        int faultInMeetings(int guests) {
            int stop = Math.min(length, MOST_MEETING_SIGNS);
            for (int p = 0; p < stop; p++) {
                if (!goodInMeetings(p, guests)) {
                    return p;
                }
            }
            boolean whole = length == 0 || length % 4 == 3;
            return whole && length <= MOST_MEETING_SIGNS ? FINE : stop;
        }

        private boolean goodInMeetings(int p, int guests) {
            switch (p % 4) {
                case 0:
                    return digit(p) >= 0 && digit(p) < guests;
                case 1:
                    return digit(p) >= 0 && digit(p) < guests && digit(p) != digit(p - 1);
                case 2:
                    return toldBy(p) >= 0;
                default:
                    return at(p) == ';';
            }
        }

        int faultInStory() {
            int stop = Math.min(length, MOST_STORY_SIGNS);
            int start = 0;
            for (int p = 0; p < stop; p++) {
                if (!goodInStory(start, p)) {
                    return p;
                }
                if (p - start == actLength(at(start)) - 1) {
                    start = p + 1;
                }
            }
            return start == length ? FINE : stop;
        }

        private boolean goodInStory(int start, int p) {
            int letter = at(start);
            if (p == start) {
                return actLength(letter) > 0;
            }
            if (letter == 'm' && p == start + 3) {
                return toldBy(p) >= 0;
            }
            return digit(p) >= 0 && (letter != 's' || digit(p) <= 1);
        }

        /** How many signs an act of a story has, its letter counted; 0: no such act. */
        static int actLength(int letter) {
            switch (letter) {
                case 'm':
                    return 4;
                case 'c':
                case 'r':
                    return 3;
                case 'h':
                case 's':
                    return 2;
                default:
                    return 0;
            }
        }
    }

    /** GUESTS, their ROOMS, and what is told of each two of them. */
    private static final class Told {
        private final int[] room = new int[MOST_GUESTS];
        private final int[] met = new int[MOST_GUESTS];
        private final int[] not = new int[MOST_GUESTS];
        private int size;
        private boolean firm;
        /** Rises with each change, so that what was reckoned from the old state is known to be old. */
        private int version;

        boolean has(int guest) {
            return guest >= 0 && guest < size;
        }

        boolean areTwo(int one, int other) {
            return has(one) && has(other) && one != other;
        }

        int all() {
            return (1 << size) - 1;
        }

        void add(int itsRoom) {
            if (size < MOST_GUESTS) {
                room[size] = itsRoom;
                met[size] = 0;
                not[size] = 0;
                size++;
                version++;
            }
        }

        int openOf(int guest) {
            return all() & ~(met[guest] | not[guest] | 1 << guest);
        }

        int about(int one, int other) {
            if ((met[one] >> other & 1) == 1) {
                return 1;
            }
            return (not[one] >> other & 1) == 1 ? 0 : 2;
        }

        private void put(int one, int other, int v) {
            putHalf(one, 1 << other, v);
            putHalf(other, 1 << one, v);
            version++;
        }

        private void putHalf(int one, int bit, int v) {
            met[one] = v == 1 ? met[one] | bit : met[one] & ~bit;
            not[one] = v == 0 ? not[one] | bit : not[one] & ~bit;
        }

        int tell(int one, int other, int v) {
            if (!areTwo(one, other) || v < 0 || v > 2) {
                return NONE;
            }
            int old = about(one, other);
            if (old == v) {
                return NOT_SO;
            }
            put(one, other, v);
            return 10 + old;
        }

        int hide(int guest) {
            if (!has(guest)) {
                return NONE;
            }
            int closed = Integer.bitCount(met[guest] | not[guest]);
            if (closed == 0) {
                return NOT_SO;
            }
            for (int other = 0; other < size; other++) {
                if (other != guest) {
                    put(guest, other, 2);
                }
            }
            return closed;
        }

        int copy(int one, int other) {
            if (!areTwo(one, other)) {
                return NONE;
            }
            int changed = 0;
            for (int third = 0; third < size; third++) {
                if (third != one && third != other && about(one, third) != about(other, third)) {
                    put(other, third, about(one, third));
                    changed++;
                }
            }
            return changed == 0 ? NOT_SO : changed;
        }

        int move(int guest, int newRoom) {
            if (!has(guest) || newRoom < 0 || newRoom > 9) {
                return NONE;
            }
            int old = room[guest];
            if (old == newRoom) {
                return NOT_SO;
            }
            room[guest] = newRoom;
            version++;
            return old;
        }

        int makeFirm(int v) {
            if (v != 0 && v != 1) {
                return NONE;
            }
            int old = firm ? 1 : 0;
            firm = v == 1;
            version++;
            return old;
        }

        void readSheet(int kind, int n, int f, int step) {
            int entry = f;
            for (int guest = 0; guest < size; guest++) {
                int number = kind == 0 ? (byte) entry : kind == 1 ? (short) entry : entry;
                room[guest] = guest < n ? Math.max(0, Math.min(9, number)) : 0;
                entry += step;
            }
            version++;
        }

        int roomsTogether() {
            int sum = 0;
            for (int guest = 0; guest < size; guest++) {
                sum += room[guest];
            }
            return sum;
        }

        int pairsTold(int v) {
            int halves = 0;
            for (int guest = 0; guest < size; guest++) {
                int others = v == 1 ? met[guest] : v == 0 ? not[guest] : openOf(guest);
                halves += Integer.bitCount(others);
            }
            return halves / 2;
        }

        /** Those who can't be in together with a guest because of its ROOM. */
        int mates(int guest) {
            int mates = 0;
            if (firm) {
                for (int other = 0; other < size; other++) {
                    if (other != guest && room[other] == room[guest]) {
                        mates |= 1 << other;
                    }
                }
            }
            return mates;
        }

        void likeThat(Told that) {
            size = that.size;
            firm = that.firm;
            for (int guest = 0; guest < MOST_GUESTS; guest++) {
                room[guest] = that.room[guest];
                met[guest] = that.met[guest];
                not[guest] = that.not[guest];
            }
            version++;
        }

        static long packed(int[] sets) {
            long all = 0;
            for (int guest = 0; guest < MOST_GUESTS; guest++) {
                all |= (long) sets[guest] << 7 * guest;
            }
            return all;
        }

        private static void unpack(long all, int[] sets) {
            for (int guest = 0; guest < MOST_GUESTS; guest++) {
                sets[guest] = (int) (all >>> 7 * guest) & 127;
            }
        }

        void save(long[] into, int slot) {
            into[3 * slot] = packed(met);
            into[3 * slot + 1] = packed(not);
            into[3 * slot + 2] = packed(room) << 1 | (firm ? 1 : 0);
        }

        void load(long[] from, int slot) {
            unpack(from[3 * slot], met);
            unpack(from[3 * slot + 1], not);
            unpack(from[3 * slot + 2] >>> 1, room);
            firm = (from[3 * slot + 2] & 1) == 1;
            version++;
        }
    }

    /** What can be undone, and what is kept under numbers. */
    private static final class Past {
        private static final int MOST_STEPS = 15;
        private static final int MOST_KEPT = 3;

        private final long[] undone = new long[3 * MOST_STEPS];
        private final long[] staged = new long[3];
        private final long[] kept = new long[3 * MOST_KEPT];
        private int keptOnes;
        private int steps;

        /** Put aside as it is ahead of an act, which may still be refused. */
        void stage(Told told) {
            told.save(staged, 0);
        }

        void push() {
            if (steps == MOST_STEPS) {
                System.arraycopy(undone, 3, undone, 0, 3 * (MOST_STEPS - 1));
                steps--;
            }
            System.arraycopy(staged, 0, undone, 3 * steps, 3);
            steps++;
        }

        int pop(Told told) {
            if (steps == 0) {
                return NONE;
            }
            steps--;
            told.load(undone, steps);
            return steps;
        }

        int pairsChanged(Told told) {
            long changed = staged[0] ^ Told.packed(told.met) | staged[1] ^ Told.packed(told.not);
            return Long.bitCount(changed) / 2;
        }

        void forgetSteps() {
            steps = 0;
        }

        void forgetKept() {
            keptOnes = 0;
        }

        boolean hold(Told told, int i) {
            if (i < 0 || i >= MOST_KEPT) {
                return false;
            }
            told.save(kept, i);
            keptOnes |= 1 << i;
            return true;
        }

        boolean bringBack(Told told, int i) {
            if (i < 0 || i >= MOST_KEPT || (keptOnes >> i & 1) == 0) {
                return false;
            }
            told.load(kept, i);
            forgetSteps();
            return true;
        }
    }

    /** The ROW. */
    private static final class Row {
        private final long[] numbers = new long[2 * MOST_GUESTS];
        private int size;

        void clear() {
            size = 0;
        }

        void add(long number) {
            if (size < numbers.length) {
                numbers[size] = number;
                size++;
            }
        }

        void addFraction(long upper, long lower) {
            long common = commonDivisor(upper, lower);
            if (common > 0) {
                add(upper / common);
                add(lower / common);
            }
        }

        private static long commonDivisor(long upper, long lower) {
            long a = lower;
            long b = upper;
            for (int turn = 0; turn < 100 && b != 0; turn++) {
                long rest = a % b;
                a = b;
                b = rest;
            }
            return a;
        }
    }

    /** A rule: read by descent into codes, each thing ahead of what is done with it. */
    private static final class Rule {
        private static final int MOST_DEPTH = 4;
        private static final int MOST_LEVEL = 2;
        private static final int THING = 1000;
        private static final int NO_RULE = THING + 3;
        private static final int DEED = 2000;
        private static final int NEGATE = 3000;
        private static final int MOST_WORTH = 99;
        private static final String THINGS = "ixcmktf";

        private final int[] codes = new int[MOST_RULE_SIGNS];
        private final int[] stack = new int[MOST_RULE_SIGNS];
        private final int[] signs = new int[MOST_RULE_SIGNS];
        private int size;
        private int stop;
        private int at;

        Rule() {
            codes[0] = NO_RULE;
            size = 1;
        }

        /** Empties THE TEXT; a rule with a fault is no rule any more. */
        int read(Text text) {
            int length = text.length;
            stop = Math.min(length, MOST_RULE_SIGNS);
            for (int p = 0; p < stop; p++) {
                signs[p] = text.at(p);
            }
            text.clear();
            at = 0;
            size = 0;
            if (length == 0) {
                emit(NO_RULE);
                return FINE;
            }
            boolean whole = readLevel(0, 0) && at == stop;
            return whole && length <= MOST_RULE_SIGNS ? FINE : at;
        }

        private void emit(int code) {
            if (size < codes.length) {
                codes[size] = code;
                size++;
            }
        }

        private int here() {
            return at < stop ? signs[at] : NONE;
        }

        /** Levels: 0 comparisons, 1 sums, 2 products; what binds more stands within what binds less. */
        private boolean readLevel(int level, int depth) {
            boolean good = readWithin(level, depth);
            // one comparison can't stand behind another one
            int most = level == 0 ? 1 : MOST_RULE_SIGNS;
            for (int turn = 0; turn < most && good && levelOf(here()) == level; turn++) {
                int deed = here();
                at++;
                good = readWithin(level, depth);
                emit(DEED + deed);
            }
            return good;
        }

        private static int levelOf(int sign) {
            switch (sign) {
                case '<':
                case '>':
                case '=':
                    return 0;
                case '+':
                case '-':
                    return 1;
                case '*':
                case '/':
                    return 2;
                default:
                    return NONE;
            }
        }

        /** The next level, or behind the last one a thing with the - ahead of it. */
        private boolean readWithin(int level, int depth) {
            if (level < MOST_LEVEL) {
                return readLevel(level + 1, depth);
            }
            boolean negative = false;
            for (int turn = 0; turn < MOST_RULE_SIGNS && here() == '-'; turn++) {
                negative = !negative;
                at++;
            }
            boolean good = readThing(depth);
            if (negative) {
                emit(NEGATE);
            }
            return good;
        }

        private boolean readThing(int depth) {
            int sign = here();
            if (sign == '(' && depth < MOST_DEPTH) {
                at++;
                boolean closed = readLevel(0, depth + 1) && here() == ')';
                if (closed) {
                    at++;
                }
                return closed;
            }
            if (sign >= '0' && sign <= '9') {
                readNumber();
                return true;
            }
            int thing = sign < 0 ? NONE : THINGS.indexOf((char) sign);
            if (thing < 0) {
                return false;
            }
            emit(THING + thing);
            at++;
            return true;
        }

        private void readNumber() {
            int number = 0;
            for (int turn = 0; turn < 3 && here() >= '0' && here() <= '9'; turn++) {
                number = 10 * number + here() - '0';
                at++;
            }
            emit(number);
        }

        /** WORTH; things: i x c m k t f of an EVENT. */
        int worth(int[] things) {
            int top = 0;
            for (int p = 0; p < size; p++) {
                int code = codes[p];
                if (code == NEGATE) {
                    if (top >= 1) {
                        stack[top - 1] = -stack[top - 1];
                    }
                } else if (code >= DEED) {
                    if (top >= 2) {
                        top--;
                        stack[top - 1] = done(code - DEED, stack[top - 1], stack[top]);
                    }
                } else if (top < stack.length) {
                    int thing = code - THING;
                    stack[top] = thing >= 0 && thing < things.length ? things[thing] : code;
                    top++;
                }
            }
            return Math.max(-MOST_WORTH, Math.min(MOST_WORTH, stack[0]));
        }

        private static int done(int deed, int one, int other) {
            switch (deed) {
                case '+':
                    return one + other;
                case '-':
                    return one - other;
                case '*':
                    return one * other;
                case '/':
                    return other == 0 ? 0 : one / other;
                case '<':
                    return one < other ? 1 : 0;
                case '>':
                    return one > other ? 1 : 0;
                default:
                    return one == other ? 1 : 0;
            }
        }
    }

    /**
     * Whether some ORDER FITS. A guest who goes as soon as all whom it MET have come is in nobody's
     * way longer than it must, so who has come already says who is in: 128 sets are enough.
     */
    private static final class Fits {
        private final int[] need = new int[MOST_GUESTS];
        private final int[] bar = new int[MOST_GUESTS];
        private final byte[] reached = new byte[SETS];

        boolean among(Told told, int some) {
            for (int guest = 0; guest < told.size; guest++) {
                need[guest] = told.met[guest] & some;
                bar[guest] = told.not[guest] | told.mates(guest);
            }
            return allCanCome(some);
        }

        boolean without(Told told, int silent) {
            int others = told.all() & ~(1 << silent);
            for (int guest = 0; guest < told.size; guest++) {
                int heard = guest == silent ? 0 : others;
                need[guest] = told.met[guest] & heard;
                bar[guest] = told.not[guest] & heard | told.mates(guest);
            }
            return allCanCome(told.all());
        }

        private boolean allCanCome(int some) {
            Arrays.fill(reached, (byte) 0);
            reached[0] = 1;
            for (int come = 0; come < some; come++) {
                if (reached[come] == 1) {
                    comeNext(some, come, stillIn(come));
                }
            }
            return reached[some] == 1;
        }

        private int stillIn(int come) {
            int still = 0;
            for (int guest = 0; guest < MOST_GUESTS; guest++) {
                if ((come >> guest & 1) == 1 && (need[guest] & ~come) != 0) {
                    still |= 1 << guest;
                }
            }
            return still;
        }

        private void comeNext(int some, int come, int still) {
            int left = some & ~come;
            for (int guest = 0; guest < MOST_GUESTS; guest++) {
                if ((left >> guest & 1) == 1 && (bar[guest] & still) == 0) {
                    reached[come | 1 << guest] = 1;
                }
            }
        }
    }

    /**
     * All ORDERS that FIT, by states: each guest has not come (0), is in (1) or has gone (2), as a
     * digit to the base 3. Each EVENT adds a power of 3, so states rise along an ORDER.
     */
    private static final class Orders {
        private int[] in = new int[1];
        private int[] gone = new int[1];
        /** Guests whose EVENT leads on to some ORDER that FITS. */
        private int[] next = new int[1];
        private long[] ahead = new long[1];
        private long[] behind = new long[1];
        private long[] ways = new long[1];
        private long[] byCome = new long[1];
        private long[] byIn = new long[1];
        private final int[] canGo = new int[SETS];
        private final int[] canCome = new int[SETS];
        private final int[] openNumber = new int[MOST_GUESTS * MOST_GUESTS];
        private int seen = -1;
        private boolean tallied;
        private int size;
        private int last;

        /** How many FIT; what else is asked of them is of the state that was told here last. */
        long total(Told told) {
            if (seen != told.version) {
                seen = told.version;
                size = told.size;
                last = POWER[size] - 1;
                tallied = false;
                makeRoom();
                readTold(told);
                lookBehind();
            }
            return behind[0];
        }

        /** Rows grow with the guests alone, so that objects with few of them stay small. */
        private void makeRoom() {
            if (in.length > last) {
                return;
            }
            in = new int[last + 1];
            gone = new int[last + 1];
            next = new int[last + 1];
            ahead = new long[last + 1];
            behind = new long[last + 1];
            ways = new long[last + 1];
            byCome = new long[size * SETS];
            byIn = new long[size * SETS];
            for (int guest = 0; guest < size; guest++) {
                int power = POWER[guest];
                int bit = 1 << guest;
                for (int state = power; state < 3 * power; state++) {
                    int from = state - power;
                    boolean goes = state >= 2 * power;
                    in[state] = goes ? in[from] & ~bit : in[from] | bit;
                    gone[state] = goes ? gone[from] | bit : gone[from];
                }
            }
        }

        private void readTold(Told told) {
            int all = told.all();
            for (int guest = 0; guest < size; guest++) {
                int bit = 1 << guest;
                int bar = told.not[guest] | told.mates(guest);
                int need = told.met[guest];
                for (int some = 0; some <= all; some++) {
                    boolean there = (some & bit) != 0;
                    canGo[some] = there && (need & ~some) == 0 ? canGo[some] | bit : canGo[some] & ~bit;
                    canCome[some] = !there && (bar & some) == 0 ? canCome[some] | bit : canCome[some] & ~bit;
                }
            }
        }

        private void lookBehind() {
            next[last] = 0;
            behind[last] = 1;
            for (int state = last - 1; state >= 0; state--) {
                int inside = in[state];
                int possible = inside & canGo[inside | gone[state]] | canCome[inside] & ~gone[state];
                int useful = 0;
                long sum = 0;
                for (int guest = 0; guest < size; guest++) {
                    if ((possible >> guest & 1) == 1) {
                        long more = behind[state + POWER[guest]];
                        if (more > 0) {
                            sum += more;
                            useful |= 1 << guest;
                        }
                    }
                }
                next[state] = useful;
                behind[state] = sum;
            }
        }

        private void tally() {
            if (tallied) {
                return;
            }
            tallied = true;
            Arrays.fill(ahead, 0);
            Arrays.fill(byCome, 0);
            Arrays.fill(byIn, 0);
            ahead[0] = behind[0] > 0 ? 1 : 0;
            for (int state = 0; state < last; state++) {
                if (ahead[state] > 0) {
                    tallyState(state);
                }
            }
        }

        private void tallyState(int state) {
            int inside = in[state];
            int come = inside | gone[state];
            long here = ahead[state];
            int useful = next[state];
            for (int guest = 0; guest < size; guest++) {
                if ((useful >> guest & 1) == 1) {
                    int then = state + POWER[guest];
                    ahead[then] += here;
                    if ((inside >> guest & 1) == 0) {
                        long through = here * behind[then];
                        byCome[guest * SETS + come] += through;
                        byIn[guest * SETS + inside] += through;
                    }
                }
            }
        }

        int eventOf(int state, int guest) {
            return 2 * guest + (in[state] >> guest & 1);
        }

        int leastRow(Row row) {
            int state = 0;
            for (int step = 0; step < 2 * size; step++) {
                int guest = leastOf(next[state]);
                if (guest < size) {
                    row.add(eventOf(state, guest));
                    state += POWER[guest];
                }
            }
            return 2 * size;
        }

        long waysAhead(int one, int other) {
            tally();
            long sum = 0;
            for (int come = 0; come < 1 << size; come++) {
                if ((come >> other & 1) == 0) {
                    sum += byCome[one * SETS + come];
                }
            }
            return sum;
        }

        long waysMeeting(int one, int other) {
            tally();
            long sum = 0;
            for (int inside = 0; inside < 1 << size; inside++) {
                if ((inside >> other & 1) == 1) {
                    sum += byIn[one * SETS + inside];
                }
                if ((inside >> one & 1) == 1) {
                    sum += byIn[other * SETS + inside];
                }
            }
            return sum;
        }

        long waysBehind(int guest, int others) {
            tally();
            long sum = 0;
            for (int come = 0; come < 1 << size; come++) {
                if (Integer.bitCount(come) == others) {
                    sum += byCome[guest * SETS + come];
                }
            }
            return sum;
        }

        /** ORDERS by which never more than so many are in, nor ever just those told. */
        long waysWithin(int enough, int never) {
            for (int state = last; state >= 0; state--) {
                int inside = in[state];
                long sum = 0;
                if (behind[state] > 0 && inside != never && Integer.bitCount(inside) <= enough) {
                    sum = state == last ? 1 : sumOfNext(state);
                }
                ways[state] = sum;
            }
            return ways[0];
        }

        private long sumOfNext(int state) {
            int useful = next[state];
            long sum = 0;
            for (int guest = 0; guest < size; guest++) {
                if ((useful >> guest & 1) == 1) {
                    sum += ways[state + POWER[guest]];
                }
            }
            return sum;
        }

        int fullestSet() {
            tally();
            int best = 0;
            for (int state = 0; state <= last; state++) {
                if (ahead[state] > 0) {
                    int many = Integer.bitCount(in[state]) - Integer.bitCount(best);
                    if (many > 0 || many == 0 && in[state] < best) {
                        best = in[state];
                    }
                }
            }
            return best;
        }

        /**
         * Who of the OPEN pairs can have met, all told: bit b is set, if by some ORDER just those
         * pairs meet whose numbers are the bits of b. At most 6 pairs may be OPEN.
         */
        long openOutcomes(Told told) {
            numberOpenPairs(told);
            Arrays.fill(ways, 0);
            ways[0] = behind[0] > 0 ? 1 : 0;
            for (int state = 0; state < last; state++) {
                if (ways[state] != 0) {
                    int useful = next[state];
                    for (int guest = 0; guest < size; guest++) {
                        if ((useful >> guest & 1) == 1) {
                            ways[state + POWER[guest]] |= outcomesThen(state, guest);
                        }
                    }
                }
            }
            return ways[last];
        }

        private void numberOpenPairs(Told told) {
            int number = 0;
            for (int one = 0; one < size; one++) {
                for (int other = one + 1; other < size; other++) {
                    boolean open = told.about(one, other) == 2;
                    openNumber[one * MOST_GUESTS + other] = open ? number : NONE;
                    openNumber[other * MOST_GUESTS + one] = open ? number : NONE;
                    number += open ? 1 : 0;
                }
            }
        }

        private long outcomesThen(int state, int guest) {
            int inside = in[state];
            long outcomes = ways[state];
            if ((inside >> guest & 1) == 1) {
                return outcomes;
            }
            for (int other = 0; other < size; other++) {
                if ((inside >> other & 1) == 1) {
                    int number = openNumber[guest * MOST_GUESTS + other];
                    if (number >= 0 && number < MOST_ASKED) {
                        // the pair had not met by any of these, so each number grows by its bit
                        outcomes <<= 1 << number;
                    }
                }
            }
            return outcomes;
        }
    }

    /** What ORDERS cost, by worths or by lies, and how long stays are. */
    private static final class Costs {
        private int[] cost = new int[1];
        private final int[] worth = new int[MOST_GUESTS * SETS];
        /** i x c m k t f of an EVENT. */
        private final int[] things = new int[7];
        private final int[] mates = new int[MOST_GUESTS];
        private final int[] wrongIn = new int[MOST_GUESTS];
        private final int[] wrongGone = new int[MOST_GUESTS];
        private boolean lying;

        private void makeRoom(Orders orders) {
            if (cost.length <= orders.last) {
                cost = new int[orders.last + 1];
            }
        }

        int leastWorth(Orders orders, Told told, Rule rule) {
            lying = false;
            makeRoom(orders);
            findWorths(told, rule);
            findLeast(orders);
            return cost[0];
        }

        int fewestLies(Orders orders, Told told) {
            lying = true;
            makeRoom(orders);
            for (int guest = 0; guest < told.size; guest++) {
                mates[guest] = told.mates(guest);
                wrongIn[guest] = told.not[guest];
                wrongGone[guest] = told.met[guest];
            }
            findLeast(orders);
            return cost[0];
        }

        private void findWorths(Told told, Rule rule) {
            for (int guest = 0; guest < told.size; guest++) {
                things[0] = guest;
                things[1] = told.room[guest];
                things[6] = Integer.bitCount(told.met[guest]);
                for (int others = 0; others < told.size; others++) {
                    for (int left = 0; left + others < told.size; left++) {
                        worth[worthAt(guest, 1, others, left)] = worthOf(rule, 1, others, left);
                        worth[worthAt(guest, 0, others + 1, left)] = worthOf(rule, 0, others + 1, left);
                    }
                }
            }
        }

        private int worthOf(Rule rule, int comes, int inside, int left) {
            things[2] = comes;
            things[3] = inside;
            things[4] = left;
            things[5] = inside + 2 * left;
            return rule.worth(things);
        }

        private static int worthAt(int guest, int comes, int inside, int left) {
            return guest * SETS + comes * 64 + inside * 8 + left;
        }

        private int eventsAt(Orders orders, int state) {
            if (!lying) {
                return orders.next[state];
            }
            int inside = orders.in[state];
            int possible = inside;
            for (int guest = 0; guest < orders.size; guest++) {
                int bit = 1 << guest;
                if (((inside | orders.gone[state]) & bit) == 0 && (mates[guest] & inside) == 0) {
                    possible |= bit;
                }
            }
            return possible;
        }

        private int price(Orders orders, int state, int guest) {
            int inside = orders.in[state];
            int left = orders.gone[state];
            int comes = 1 - (inside >> guest & 1);
            if (!lying) {
                return worth[worthAt(guest, comes, Integer.bitCount(inside), Integer.bitCount(left))];
            }
            return comes * Integer.bitCount(wrongIn[guest] & inside | wrongGone[guest] & left);
        }

        private void findLeast(Orders orders) {
            cost[orders.last] = 0;
            for (int state = orders.last - 1; state >= 0; state--) {
                int events = eventsAt(orders, state);
                int least = 0;
                boolean found = false;
                for (int guest = 0; guest < orders.size; guest++) {
                    if ((events >> guest & 1) == 1) {
                        int one = price(orders, state, guest) + cost[state + POWER[guest]];
                        if (!found || one < least) {
                            least = one;
                            found = true;
                        }
                    }
                }
                cost[state] = least;
            }
        }

        /** The least row of EVENTS that costs no more than it must. */
        void tellOrder(Orders orders, Row row) {
            int state = 0;
            for (int step = 0; step < 2 * orders.size; step++) {
                int guest = cheapestGuest(orders, state);
                if (guest < orders.size) {
                    row.add(orders.eventOf(state, guest));
                    state += POWER[guest];
                }
            }
        }

        private int cheapestGuest(Orders orders, int state) {
            int events = eventsAt(orders, state);
            for (int guest = 0; guest < orders.size; guest++) {
                if ((events >> guest & 1) == 1
                        && price(orders, state, guest) + cost[state + POWER[guest]] == cost[state]) {
                    return guest;
                }
            }
            return orders.size;
        }

        /** Leaves in the orders' ways how many ORDERS are worth so much. */
        int greatestWorth(Orders orders, Told told, Rule rule) {
            lying = false;
            makeRoom(orders);
            findWorths(told, rule);
            cost[orders.last] = 0;
            orders.ways[orders.last] = 1;
            for (int state = orders.last - 1; state >= 0; state--) {
                findGreatest(orders, state);
            }
            return cost[0];
        }

        private void findGreatest(Orders orders, int state) {
            int events = orders.next[state];
            int greatest = 0;
            long sum = 0;
            for (int guest = 0; guest < orders.size; guest++) {
                if ((events >> guest & 1) == 1) {
                    int then = state + POWER[guest];
                    int one = price(orders, state, guest) + cost[then];
                    if (sum == 0 || one > greatest) {
                        greatest = one;
                        sum = 0;
                    }
                    if (one == greatest) {
                        sum += orders.ways[then];
                    }
                }
            }
            cost[state] = greatest;
            orders.ways[state] = sum;
        }

        int longestStay(Orders orders, int guest) {
            return -leastStay(orders, guest, -1);
        }

        int shortestStay(Orders orders, int guest) {
            return leastStay(orders, guest, 1);
        }

        /** The least of factor times the EVENTS of others while a guest is in. */
        private int leastStay(Orders orders, int guest, int factor) {
            int power = POWER[guest];
            int least = 0;
            boolean found = false;
            makeRoom(orders);
            orders.tally();
            for (int state = orders.last; state >= power; state--) {
                if (orders.ahead[state] > 0 && (orders.in[state] >> guest & 1) == 1) {
                    cost[state] = leastRest(orders, state, guest, factor);
                    int from = state - power;
                    boolean came = orders.ahead[from] > 0 && (orders.next[from] >> guest & 1) == 1;
                    if (came && (!found || cost[state] < least)) {
                        least = cost[state];
                        found = true;
                    }
                }
            }
            return least;
        }

        private int leastRest(Orders orders, int state, int guest, int factor) {
            int events = orders.next[state];
            int least = 0;
            boolean found = false;
            for (int one = 0; one < orders.size; one++) {
                if ((events >> one & 1) == 1) {
                    int rest = one == guest ? 0 : factor + cost[state + POWER[one]];
                    if (!found || rest < least) {
                        least = rest;
                        found = true;
                    }
                }
            }
            return least;
        }
    }

    /** Who MET whom, as a net: rings, threes, rooms, circles, ways. */
    private static final class Circles {
        private final int[] turn = new int[MOST_GUESTS];
        private final int[] best = new int[MOST_GUESTS];

        int shortestRing(Told told, Row row) {
            for (int many = 4; many <= told.size; many++) {
                boolean found = false;
                for (int some = 0; some <= told.all(); some++) {
                    boolean round = Integer.bitCount(some) == many && isRing(told, some, many);
                    if (round && (!found || turnIsLess(many))) {
                        System.arraycopy(turn, 0, best, 0, many);
                        found = true;
                    }
                }
                if (found) {
                    tell(best, many, row);
                    return many;
                }
            }
            return NOT_SO;
        }

        private static void tell(int[] numbers, int many, Row row) {
            row.clear();
            for (int i = 0; i < many; i++) {
                row.add(numbers[i]);
            }
        }

        private boolean turnIsLess(int many) {
            for (int i = 0; i < many; i++) {
                if (turn[i] != best[i]) {
                    return turn[i] < best[i];
                }
            }
            return false;
        }

        private boolean isRing(Told told, int some, int many) {
            for (int guest = 0; guest < told.size; guest++) {
                if ((some >> guest & 1) == 1) {
                    boolean two = Integer.bitCount(told.met[guest] & some) == 2;
                    if (!two || (told.openOf(guest) & some) != 0) {
                        return false;
                    }
                }
            }
            return walkRound(told, some, many);
        }

        /** Two rings beside one another give each guest two neighbours too: such a walk ends early. */
        private boolean walkRound(Told told, int some, int many) {
            int left = some;
            int near = some;
            for (int i = 0; i < many; i++) {
                int here = leastOf(near & left);
                if (here >= told.size) {
                    return false;
                }
                turn[i] = here;
                left &= ~(1 << here);
                near = told.met[here];
            }
            return true;
        }

        int farThrees(Told told, Row row) {
            row.clear();
            int found = 0;
            for (int one = 0; one < told.size; one++) {
                for (int two = one + 1; two < told.size; two++) {
                    for (int three = two + 1; three < told.size; three++) {
                        if (areFar(told, one, two, three)) {
                            if (found == 0) {
                                row.add(one);
                                row.add(two);
                                row.add(three);
                            }
                            found++;
                        }
                    }
                }
            }
            return found;
        }

        private static boolean areFar(Told told, int one, int two, int three) {
            boolean strangers = told.about(one, two) == 0 && told.about(one, three) == 0
                    && told.about(two, three) == 0;
            return strangers && isWay(told, one, two, three) && isWay(told, one, three, two)
                    && isWay(told, two, three, one);
        }

        private static boolean isWay(Told told, int from, int to, int shunned) {
            int free = told.all() & ~(told.met[shunned] | 1 << shunned);
            int reached = 1 << from;
            for (int step = 0; step < told.size; step++) {
                reached |= metByAny(told, reached) & free;
            }
            return (reached >> to & 1) == 1;
        }

        private static int metByAny(Told told, int some) {
            int others = 0;
            for (int guest = 0; guest < told.size; guest++) {
                if ((some >> guest & 1) == 1) {
                    others |= told.met[guest];
                }
            }
            return others;
        }

        int fewestRooms(Told told, Row row) {
            int enough = 0;
            while (enough < told.size && !canLodge(told, turn, 0, 0, enough)) {
                enough++;
            }
            if (enough == told.size) {
                canLodge(told, turn, 0, 0, enough);
            }
            tell(turn, told.size, row);
            return enough;
        }

        /** Rooms in use are 0 .. used - 1: the least row never leaves one out. */
        private static boolean canLodge(Told told, int[] lodged, int guest, int used, int enough) {
            if (guest >= told.size) {
                return true;
            }
            for (int room = 0; room <= used && room < enough; room++) {
                if (isFree(told, lodged, guest, room)) {
                    lodged[guest] = room;
                    if (canLodge(told, lodged, guest + 1, Math.max(used, room + 1), enough)) {
                        return true;
                    }
                }
            }
            return false;
        }

        private static boolean isFree(Told told, int[] lodged, int guest, int room) {
            for (int other = 0; other < guest; other++) {
                if (lodged[other] == room && (told.met[guest] >> other & 1) == 1) {
                    return false;
                }
            }
            return true;
        }

        int greatestCircle(Told told, Row row) {
            int found = 0;
            int least = 0;
            for (int some = 0; some <= told.all(); some++) {
                int more = Integer.bitCount(some) - Integer.bitCount(least);
                if (more >= 0 && isCircle(told, some)) {
                    least = more > 0 ? some : least;
                    found = more > 0 ? 1 : found + 1;
                }
            }
            row.clear();
            row.add(least);
            row.add(found);
            return Integer.bitCount(least);
        }

        private static boolean isCircle(Told told, int some) {
            for (int guest = 0; guest < told.size; guest++) {
                if ((some >> guest & 1) == 1 && (some & ~(told.met[guest] | 1 << guest)) != 0) {
                    return false;
                }
            }
            return true;
        }

        int shortestWay(Told told, int from, int to, Row row) {
            int many = reachBack(told, from, to);
            if (many == 0) {
                return NOT_SO;
            }
            row.clear();
            row.add(from);
            int here = from;
            for (int left = many - 2; left >= 0 && here < told.size; left--) {
                here = leastOf(told.met[here] & best[left]);
                row.add(here);
            }
            return many;
        }

        /** Leaves in best, by steps, all from whom it is at most so many steps to the last one. */
        private int reachBack(Told told, int from, int to) {
            int reached = 1 << to;
            for (int step = 0; step < told.size; step++) {
                best[step] = reached;
                if ((reached >> from & 1) == 1) {
                    return step + 1;
                }
                reached |= metByAny(told, reached);
            }
            return 0;
        }
    }

    /** Hiding, bargains, chances and draws. */
    private static final class Games {
        private static final int NUMBERS = 10;

        /** By how many meetings are left: by which numbers one wins, as bits. */
        private final int[] wins = new int[61];
        private int seed;

        int winningAsk(int n, int k) {
            for (int left = 0; left <= n && left < wins.length; left++) {
                wins[left] = 0;
                for (int asked = 1; asked <= k && asked <= left; asked++) {
                    // the other one may not ask for as many, so that way to win is none
                    if ((wins[left - asked] & ~(1 << asked)) == 0) {
                        wins[left] |= 1 << asked;
                    }
                }
            }
            int ways = n >= 0 && n < wins.length ? wins[n] : 0;
            return ways == 0 ? 0 : leastOf(ways);
        }

        static int bargainsAtRest(int v, Row row) {
            row.clear();
            int found = 0;
            for (int x = 0; x < NUMBERS; x++) {
                for (int y = 0; y < NUMBERS; y++) {
                    if (isBestAgainst(x, y, v) && isBestAgainst(y, x, v)) {
                        if (found == 0) {
                            row.add(x);
                            row.add(y);
                        }
                        found++;
                    }
                }
            }
            return found;
        }

        private static boolean isBestAgainst(int own, int others, int v) {
            int now = gain(own, others, v);
            for (int another = 0; another < NUMBERS; another++) {
                if (gain(another, others, v) > now) {
                    return false;
                }
            }
            return true;
        }

        private static int gain(int own, int others, int v) {
            if (own + others <= v) {
                return own + (v - own - others) / 2;
            }
            return own > others ? -1 : 0;
        }

        static long power(int base, int many) {
            long product = 1;
            for (int i = 0; i < many; i++) {
                product *= base;
            }
            return product;
        }

        /** Of 10 to the pairs: how likely one of the outcomes comes, each pair by p tenths. */
        static long chance(long outcomes, int pairs, int p) {
            long sum = 0;
            for (int outcome = 0; outcome < 1 << pairs; outcome++) {
                if ((outcomes >>> outcome & 1) == 1) {
                    int ones = Integer.bitCount(outcome);
                    sum += power(p, ones) * power(10 - p, pairs - ones);
                }
            }
            return sum;
        }

        void sow(int newSeed) {
            seed = newSeed;
        }

        int draw(int n) {
            seed = seed * 1103515245 + 12345;
            return n > 0 ? (seed >>> 16) % n : 0;
        }
    }
}
