import java.lang.management.ManagementFactory;
import java.util.function.ToLongFunction;

/** A whole run of 512 calls with seven guests makes little that is new: rows are used again. */
public final class RoomTests {
    private static final int CALLS = 512;
    /** The room has 7.3 million fields and elements; each takes a byte at least. */
    private static final long MOST_BYTES = 7_300_000;

    private static long made() {
        com.sun.management.ThreadMXBean bean = (com.sun.management.ThreadMXBean) ManagementFactory.getThreadMXBean();
        return bean.getThreadAllocatedBytes(Thread.currentThread().getId());
    }

    private static void write(InnRegister x, String text) {
        x.end(0);
        for (int at = 0; at < text.length(); at += 4) {
            int v = 0;
            for (int i = 0; i < 4; i++) {
                v = v << 8 | (at + i < text.length() ? text.charAt(at + i) : 0);
            }
            x.sign(v);
        }
        x.end(text.length());
    }

    public static void main(String[] args) {
        ToLongFunction<?>[] asked = asked();
        run(asked);
        long ahead = made();
        run(asked);
        long bytes = made() - ahead;
        System.out.println("room: " + CALLS + " calls made " + bytes + " bytes");
        if (bytes > MOST_BYTES) {
            System.exit(1);
        }
    }

    private static ToLongFunction<?>[] asked() {
        ToLongFunction<InnRegister> first = InnRegister::first;
        ToLongFunction<InnRegister> sure = InnRegister::sure;
        ToLongFunction<InnRegister> beds = InnRegister::beds;
        ToLongFunction<InnRegister> most = InnRegister::most;
        ToLongFunction<InnRegister> cheapest = InnRegister::cheapest;
        ToLongFunction<InnRegister> dearest = InnRegister::dearest;
        ToLongFunction<InnRegister> lies = InnRegister::lies;
        ToLongFunction<InnRegister> clash = InnRegister::clash;
        ToLongFunction<InnRegister> alone = InnRegister::alone;
        ToLongFunction<InnRegister> years = x -> x.years(3, 60);
        ToLongFunction<InnRegister> longest = x -> x.longest(3);
        ToLongFunction<InnRegister> story = x -> x.story();
        ToLongFunction<InnRegister> rooms = InnRegister::rooms;
        ToLongFunction<InnRegister> law = InnRegister::law;
        ToLongFunction<InnRegister> asks = InnRegister::asks;
        return new ToLongFunction<?>[] {first, sure, beds, most, cheapest, dearest, lies, clash, alone, years, longest, story,
            rooms, law, asks};
    }

    @SuppressWarnings("unchecked")
    private static void run(ToLongFunction<?>[] asked) {
        InnRegister x = new InnRegister();
        for (int g = 0; g < 7; g++) {
            write(x, "1");
            x.guests();
            x.orders();
        }
        for (int call = 0; call < CALLS; call++) {
            if (call % 2 == 0) {
                x.tells(call % 7, (call + 1) % 7, call / 2 % 3);
            } else {
                ((ToLongFunction<InnRegister>) asked[call / 2 % asked.length]).applyAsLong(x);
            }
        }
    }
}
