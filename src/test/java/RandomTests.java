import java.util.ArrayList;
import java.util.List;
import java.util.NoSuchElementException;
import java.util.Random;

/** Random runs of calls, held against SlowInn: each answer, the ROW, all counts, all that is told. */
public final class RandomTests {
    private static final long THREW = Long.MIN_VALUE;
    private static final String SIGNS = "0123456789;+-?mhcrsixktf()*/<>=";

    private final Random random;
    private final InnRegister x = new InnRegister();
    private final SlowInn y = new SlowInn();
    private final List<String> calls = new ArrayList<>();
    private final int mostGuests;
    private final int mostOrders;

    private RandomTests(long seed, int mostGuests, int mostOrders) {
        this.random = new Random(seed);
        this.mostGuests = mostGuests;
        this.mostOrders = mostOrders;
    }

    public static void main(String[] args) {
        int small = args.length > 0 ? Integer.parseInt(args[0]) : 400;
        int big = args.length > 1 ? Integer.parseInt(args[1]) : 150;
        long base = args.length > 2 ? Long.parseLong(args[2]) : 0;
        for (int i = 0; i < small; i++) {
            new RandomTests(base + i, i % 5, 3000).runCalls(150);
        }
        for (int i = 0; i < big; i++) {
            new RandomTests(base + 100000 + i, 5 + i % 3, 3000).runCalls(120);
        }
        System.out.println("random: " + (small + big) + " runs as due");
    }

    private interface Call {
        long answer();
    }

    private static long of(Call call) {
        try {
            return call.answer();
        } catch (NoSuchElementException e) {
            return THREW;
        }
    }

    private void check(String name, Call fast, Call slow) {
        calls.add(name);
        long got;
        try {
            got = of(fast);
        } catch (RuntimeException e) {
            e.printStackTrace();
            throw fail(name + " threw " + e);
        }
        long due = of(slow);
        if (got != due) {
            throw fail(name + " answered " + got + ", due is " + due);
        }
    }

    private RuntimeException fail(String what) {
        System.out.println("random: " + what + " behind:");
        calls.forEach(one -> System.out.println("  " + one));
        System.exit(1);
        return new IllegalStateException(what);
    }

    private void compareAll() {
        for (int what = 0; what <= 9; what++) {
            int w = what;
            if (x.count(w) != y.count(w)) {
                throw fail("count(" + w + ") answered " + x.count(w) + ", due is " + y.count(w));
            }
        }
        for (int i = -1; i <= x.count(7); i++) {
            int at = i;
            long got = of(() -> x.row(at));
            long due = of(() -> y.row(at));
            if (got != due) {
                throw fail("row(" + i + ") answered " + got + ", due is " + due);
            }
        }
        for (int g = 0; g < y.count(0); g++) {
            for (int what = 0; what < 4; what++) {
                if (x.guest(g, what) != y.guest(g, what)) {
                    throw fail("guest(" + g + ", " + what + ") answered " + x.guest(g, what));
                }
            }
        }
    }

    private void runCalls(int many) {
        setUp();
        for (int i = 0; i < many; i++) {
            one();
            compareAll();
        }
    }

    private void write(String text) {
        check("end(0)", () -> x.end(0) ? 1 : 0, () -> y.end(0) ? 1 : 0);
        for (int at = 0; at < text.length(); at += 4) {
            int v = 0;
            for (int i = 0; i < 4; i++) {
                v = v << 8 | (at + i < text.length() ? text.charAt(at + i) : 0);
            }
            int w = v;
            check("sign(" + w + ")", () -> x.sign(w), () -> y.sign(w));
        }
        check("end(" + text.length() + ") of '" + text + "'", () -> x.end(text.length()) ? 1 : 0,
                () -> y.end(text.length()) ? 1 : 0);
    }

    /** Guests who really came and went: so much is told truly that few orders are left. */
    private void setUp() {
        if (mostGuests == 0) {
            return;
        }
        StringBuilder guests = new StringBuilder();
        for (int g = 0; g < mostGuests; g++) {
            guests.append(g > 0 ? ";" : "").append(random.nextInt(3));
        }
        write(guests.toString());
        check("guests()", x::guests, y::guests);
        int[] come = new int[mostGuests];
        int[] go = new int[mostGuests];
        for (int g = 0; g < mostGuests; g++) {
            int a = random.nextInt(1000);
            int b = random.nextInt(1000);
            come[g] = Math.min(a, b);
            go[g] = Math.max(a, b);
        }
        int told = mostGuests > 4 ? 90 : random.nextInt(100);
        for (int a = 0; a < mostGuests; a++) {
            for (int b = a + 1; b < mostGuests; b++) {
                int v = come[a] < go[b] && come[b] < go[a] ? 1 : 0;
                int one = a;
                int other = b;
                if (random.nextInt(100) < told) {
                    check("tells(" + a + ", " + b + ", " + v + ")", () -> x.tells(one, other, v), () -> y.tells(one, other, v));
                }
            }
        }
    }

    private int guest() {
        return random.nextInt(10) == 0 ? random.nextInt(12) - 3 : random.nextInt(Math.max(1, x.count(0)));
    }

    private String rule() {
        return random.nextInt(3) == 0 ? spoiled(expression(2)) : expression(2);
    }

    private String expression(int depth) {
        StringBuilder text = new StringBuilder(thing(depth));
        for (int i = random.nextInt(3); i > 0; i--) {
            text.append("+-*/".charAt(random.nextInt(4))).append(thing(depth));
        }
        if (random.nextInt(4) == 0) {
            text.append("<>=".charAt(random.nextInt(3))).append(thing(depth));
        }
        return text.toString();
    }

    private String thing(int depth) {
        int kind = random.nextInt(6);
        if (kind == 0) {
            return "-" + thing(depth);
        }
        if (kind == 1 && depth > 0) {
            return "(" + expression(depth - 1) + ")";
        }
        if (kind == 2) {
            return Integer.toString(random.nextInt(random.nextBoolean() ? 10 : 1000));
        }
        return String.valueOf("ixcmktf".charAt(random.nextInt(7)));
    }

    private String spoiled(String text) {
        StringBuilder other = new StringBuilder(text);
        for (int i = random.nextInt(3); i > 0 && other.length() > 0; i--) {
            int at = random.nextInt(other.length());
            char sign = random.nextInt(20) == 0 ? (char) random.nextInt(256) : SIGNS.charAt(random.nextInt(SIGNS.length()));
            switch (random.nextInt(4)) {
                case 0 -> other.setCharAt(at, sign);
                case 1 -> other.insert(at, sign);
                case 2 -> other.deleteCharAt(at);
                default -> other.append(sign);
            }
        }
        if (random.nextInt(5) == 0) {
            while (other.length() < 40 && other.length() > 0) {
                other.append(other);
            }
        }
        if (random.nextInt(8) == 0) {
            other.append(";").append(text);
        }
        return other.length() > 80 ? other.substring(0, 80) : other.toString();
    }

    private String lines(int most, boolean meetings) {
        StringBuilder text = new StringBuilder();
        for (int i = random.nextInt(most + 1); i >= 0; i--) {
            text.append(text.length() > 0 ? ";" : "");
            if (meetings) {
                text.append((char) ('0' + Math.max(0, guest()) % 10)).append((char) ('0' + Math.max(0, guest()) % 10));
                text.append("+-?".charAt(random.nextInt(3)));
            } else {
                text.append(random.nextInt(10));
            }
        }
        return random.nextInt(4) == 0 ? spoiled(text.toString()) : text.length() > 80 ? text.substring(0, 80) : text.toString();
    }

    private String story() {
        StringBuilder text = new StringBuilder();
        for (int i = random.nextInt(random.nextInt(6) == 0 ? 24 : 5); i > 0; i--) {
            int g = Math.max(0, guest()) % 10;
            int h = Math.max(0, guest()) % 10;
            switch (random.nextInt(5)) {
                case 0 -> text.append("m").append(g).append(h).append("+-?".charAt(random.nextInt(3)));
                case 1 -> text.append("h").append(g);
                case 2 -> text.append("c").append(g).append(h);
                case 3 -> text.append("r").append(g).append(random.nextInt(10));
                default -> text.append("s").append(random.nextInt(2));
            }
        }
        return random.nextInt(4) == 0 ? spoiled(text.toString()) : text.length() > 80 ? text.substring(0, 80) : text.toString();
    }

    private void one() {
        if (random.nextInt(3) == 0) {
            change();
        } else if (random.nextInt(3) == 0) {
            net();
        } else if (x.orders() <= mostOrders) {
            question();
        }
    }

    private void change() {
        int g = guest();
        int h = guest();
        int v = random.nextInt(12) == 0 ? random.nextInt(20) - 5 : random.nextInt(3);
        switch (random.nextInt(16)) {
            case 0 -> {
                if (x.count(0) < mostGuests || random.nextInt(2) == 0) {
                    write(guestLines());
                    check("guests()", x::guests, y::guests);
                }
            }
            case 1, 2 -> {
                write(lines(random.nextInt(10) == 0 ? 20 : 3, true));
                check("meetings()", x::meetings, y::meetings);
            }
            case 3 -> {
                write(random.nextInt(6) == 0 ? "" : rule());
                check("rule()", x::rule, y::rule);
            }
            case 4 -> {
                int kind = random.nextInt(5) - (random.nextInt(5) == 0 ? 1 : 0);
                int n = random.nextInt(10) - 1;
                int f = random.nextInt(3) == 0 ? random.nextInt() : random.nextInt(12) - 2;
                int step = random.nextInt(3) == 0 ? random.nextInt() : random.nextInt(5) - 2;
                check("sheet(" + kind + ", " + n + ", " + f + ", " + step + ")", () -> x.sheet(kind, n, f, step),
                        () -> y.sheet(kind, n, f, step));
            }
            case 5, 6 -> check("tells(" + g + ", " + h + ", " + v + ")", () -> x.tells(g, h, v), () -> y.tells(g, h, v));
            case 7 -> {
                if (mostGuests < 5) {
                    check("hides(" + g + ")", () -> x.hides(g), () -> y.hides(g));
                }
            }
            case 8 -> check("copies(" + g + ", " + h + ")", () -> x.copies(g, h), () -> y.copies(g, h));
            case 9 -> check("moves(" + g + ", " + v + ")", () -> x.moves(g, v), () -> y.moves(g, v));
            case 10 -> check("strict(" + v + ")", () -> x.strict(v), () -> y.strict(v));
            case 11 -> {
                write(story());
                check("story()", x::story, y::story);
            }
            case 12 -> {
                for (int i = random.nextInt(4); i >= 0; i--) {
                    check("undo()", x::undo, y::undo);
                }
            }
            case 13 -> check("keep(" + v + ")", () -> x.keep(v) ? 1 : 0, () -> y.keep(v) ? 1 : 0);
            case 14 -> check("again(" + v + ")", () -> x.again(v) ? 1 : 0, () -> y.again(v) ? 1 : 0);
            default -> {
                int w = random.nextInt();
                check("sign(" + w + ")", () -> x.sign(w), () -> y.sign(w));
                int n = random.nextInt(90) - 5;
                check("end(" + n + ")", () -> x.end(n) ? 1 : 0, () -> y.end(n) ? 1 : 0);
            }
        }
    }

    /** Never so many guests that SlowInn could not follow, but where they can't come. */
    private String guestLines() {
        int free = mostGuests - x.count(0);
        if (free > 0) {
            String text = lines(free - 1, false);
            return text.length() > 2 * free - 1 ? text.substring(0, 2 * free - 1) : text;
        }
        return x.count(0) < 7 ? "" : lines(3, false);
    }

    private void net() {
        int g = guest();
        int h = guest();
        switch (random.nextInt(10)) {
            case 0 -> check("ring()", x::ring, y::ring);
            case 1 -> check("threes()", x::threes, y::threes);
            case 2 -> check("rooms()", x::rooms, y::rooms);
            case 3 -> check("circle()", x::circle, y::circle);
            case 4 -> check("hears(" + g + ", " + h + ")", () -> x.hears(g, h), () -> y.hears(g, h));
            case 5 -> {
                int n = random.nextInt(64) - 2;
                int k = random.nextInt(10) + 1;
                check("game(" + n + ", " + k + ")", () -> x.game(n, k), () -> y.game(n, k));
            }
            case 6 -> {
                int v = random.nextInt(24) - 2;
                check("rests(" + v + ")", () -> x.rests(v), () -> y.rests(v));
            }
            case 7 -> {
                int seed = random.nextInt();
                int n = mostGuests > 4 ? random.nextInt(4) : random.nextInt(63) - 1;
                check("years(" + seed + ", " + n + ")", () -> x.years(seed, n), () -> y.years(seed, n));
            }
            case 8 -> check("guest(" + g + ", " + h + ")", () -> x.guest(g, h), () -> y.guest(g, h));
            default -> check("pair(" + g + ", " + h + ")", () -> x.pair(g, h), () -> y.pair(g, h));
        }
    }

    private void question() {
        int g = guest();
        int h = guest();
        switch (random.nextInt(20)) {
            case 0 -> check("orders()", x::orders, y::orders);
            case 1 -> check("first()", x::first, y::first);
            case 2 -> check("before(" + g + ", " + h + ")", () -> x.before(g, h), () -> y.before(g, h));
            case 3 -> check("met(" + g + ", " + h + ")", () -> x.met(g, h), () -> y.met(g, h));
            case 4 -> check("sure()", x::sure, y::sure);
            case 5 -> check("known()", x::known, y::known);
            case 6 -> check("place(" + g + ", " + h + ")", () -> x.place(g, h), () -> y.place(g, h));
            case 7 -> check("beds()", x::beds, y::beds);
            case 8 -> check("most()", x::most, y::most);
            case 9 -> {
                int some = random.nextInt(8) == 0 ? random.nextInt(300) - 50 : random.nextInt(1 << x.count(0));
                check("evening(" + some + ")", () -> x.evening(some), () -> y.evening(some));
            }
            case 10 -> check("longest(" + g + ")", () -> x.longest(g), () -> y.longest(g));
            case 11 -> check("cheapest()", x::cheapest, y::cheapest);
            case 12 -> check("dearest()", x::dearest, y::dearest);
            case 13 -> {
                if (x.count(0) < 5 || x.count(0) == 5 && random.nextInt(4) == 0) {
                    check("lies()", x::lies, y::lies);
                }
            }
            case 14 -> check("alone()", x::alone, y::alone);
            case 15 -> check("clash()", x::clash, y::clash);
            case 16 -> check("asks()", x::asks, y::asks);
            case 17 -> {
                int p = random.nextInt(14) - 1;
                check("likely(" + p + ")", () -> x.likely(p), () -> y.likely(p));
            }
            default -> {
                write(random.nextInt(6) == 0 ? "" : rule());
                check("law()", x::law, y::law);
            }
        }
    }
}
