import java.util.NoSuchElementException;
import java.util.Random;

/** Whatever the arguments and the state: nothing but the document's exceptions, and questions change nothing. */
public final class WildTests {
    private static final int[] WILD = {Integer.MIN_VALUE, Integer.MIN_VALUE + 1, -65536, -129, -8, -3, -2, -1, 0, 1, 2, 3,
        4, 5, 6, 7, 8, 9, 10, 11, 13, 20, 21, 31, 32, 33, 60, 61, 63, 64, 79, 80, 81, 127, 128, 255, 256, 65535,
        Integer.MAX_VALUE - 1, Integer.MAX_VALUE};

    private final Random random;
    private final InnRegister x = new InnRegister();

    private WildTests(long seed) {
        random = new Random(seed);
    }

    public static void main(String[] args) {
        for (int i = 0; i < 300; i++) {
            WildTests one = new WildTests(i);
            String name = "";
            try {
                for (int call = 0; call < 512; call++) {
                    int which = one.random.nextInt(46);
                    name = "call " + which;
                    one.call(which);
                }
            } catch (RuntimeException e) {
                System.out.println("wild: run " + i + ", " + name + " threw " + e);
                e.printStackTrace(System.out);
                System.exit(1);
            }
        }
        System.out.println("wild: 300 runs threw nothing but what they should");
    }

    private int any() {
        return random.nextInt(3) == 0 ? WILD[random.nextInt(WILD.length)] : random.nextInt(8);
    }

    private void text() {
        String[] texts = {"1;1;2", "3;3", "01+;12+;23+;30+", "01-;45+", "m+x*(2-c)", "(((", "m01+h1c23s1r04", "s1s1", "0", ";"};
        String text = texts[random.nextInt(texts.length)];
        if (random.nextInt(10) == 0) {
            text = text.repeat(80 / text.length());
        }
        x.end(0);
        for (int at = 0; at < text.length(); at += 4) {
            int v = 0;
            for (int i = 0; i < 4; i++) {
                v = v << 8 | (at + i < text.length() ? text.charAt(at + i) : 0);
            }
            x.sign(v);
        }
        x.end(text.length());
    }

    private String state() {
        StringBuilder all = new StringBuilder();
        for (int what = 0; what <= 6; what++) {
            all.append(x.count(what)).append(' ');
        }
        for (int g = 0; g < x.count(0); g++) {
            for (int what = 0; what < 4; what++) {
                all.append(x.guest(g, what)).append(' ');
            }
        }
        return all.toString();
    }

    private void call(int which) {
        if (which < 16) {
            change(which);
            return;
        }
        String ahead = state();
        question(which);
        if (!ahead.equals(state())) {
            throw new IllegalStateException("question " + which + " changed something");
        }
    }

    private void change(int which) {
        switch (which) {
            case 0 -> x.sign(random.nextInt());
            case 1 -> x.end(any());
            case 2 -> {
                text();
                x.guests();
            }
            case 3 -> {
                text();
                x.meetings();
            }
            case 4 -> {
                text();
                x.rule();
            }
            case 5 -> x.sheet(any() % 5, any(), any(), any());
            case 6 -> x.tells(any(), any(), any());
            case 7 -> x.hides(any());
            case 8 -> x.copies(any(), any());
            case 9 -> x.moves(any(), any());
            case 10 -> x.strict(any());
            case 11 -> {
                text();
                x.story();
            }
            case 12 -> x.undo();
            case 13 -> x.keep(any());
            case 14 -> x.again(any());
            default -> x.tells(random.nextInt(7), random.nextInt(7), random.nextInt(3));
        }
    }

    private void question(int which) {
        switch (which) {
            case 16 -> x.orders();
            case 17 -> x.first();
            case 18 -> x.before(any(), any());
            case 19 -> x.met(any(), any());
            case 20 -> x.sure();
            case 21 -> x.known();
            case 22 -> x.place(any(), any());
            case 23 -> x.beds();
            case 24 -> x.most();
            case 25 -> x.evening(any());
            case 26 -> x.longest(any());
            case 27 -> x.cheapest();
            case 28 -> x.dearest();
            case 29 -> x.lies();
            case 30 -> x.alone();
            case 31 -> x.clash();
            case 32 -> x.ring();
            case 33 -> x.threes();
            case 34 -> x.rooms();
            case 35 -> x.circle();
            case 36 -> x.hears(any(), any());
            case 37 -> x.asks();
            case 38 -> x.likely(any());
            case 39 -> x.game(any(), any());
            case 40 -> {
                text();
                x.law();
            }
            case 41 -> x.rests(any());
            case 42 -> x.years(any(), any());
            case 43 -> x.count(any());
            default -> thrown();
        }
    }

    private void thrown() {
        try {
            switch (random.nextInt(3)) {
                case 0 -> x.row(any());
                case 1 -> x.guest(any(), any());
                default -> x.pair(any(), any());
            }
        } catch (NoSuchElementException e) {
            return;
        }
    }
}
