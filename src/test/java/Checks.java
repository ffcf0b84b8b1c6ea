import java.util.NoSuchElementException;

/** What the tests by hand share: answers held against those that are due, texts put into an object. */
class Checks {
    private static int passed = 0;
    private static int failed = 0;
    /** What is tested now, named ahead of each answer that is not the one that is due. */
    static String promise = "";

    interface Asked {
        long answer();
    }

    static void due(String what, long got, long want) {
        if (got == want) {
            passed++;
        } else {
            failed++;
            System.out.println(promise + ": " + what + " answered " + got + ", due is " + want);
        }
    }

    static void due(String what, boolean got, boolean want) {
        due(what, got ? 1 : 0, want ? 1 : 0);
    }

    static void none(String what, Asked call) {
        try {
            long got = call.answer();
            failed++;
            System.out.println(promise + ": " + what + " answered " + got + ", due is a NoSuchElementException");
        } catch (NoSuchElementException e) {
            passed++;
        }
    }

    static void row(InnRegister x, long... want) {
        due("count(7)", x.count(7), want.length);
        for (int i = 0; i < want.length && i < x.count(7); i++) {
            due("row(" + i + ")", x.row(i), want[i]);
        }
        none("row(" + want.length + ")", () -> x.row(want.length));
    }

    static InnRegister text(InnRegister x, String text) {
        x.end(0);
        for (int at = 0; at < text.length(); at += 4) {
            int v = 0;
            for (int i = 0; i < 4; i++) {
                v = v << 8 | (at + i < text.length() ? text.charAt(at + i) : 0);
            }
            x.sign(v);
        }
        due("end of " + text, x.end(text.length()), true);
        return x;
    }

    static InnRegister inn(String guests, String meetings) {
        InnRegister x = new InnRegister();
        due("guests of " + guests, text(x, guests).guests(), (guests.length() + 1) / 2);
        due("meetings of " + meetings, text(x, meetings).meetings() < 0, false);
        return x;
    }

    static int guests(InnRegister x, String text) {
        return text(x, text).guests();
    }

    static int meetings(InnRegister x, String text) {
        return text(x, text).meetings();
    }

    static int rule(InnRegister x, String text) {
        return text(x, text).rule();
    }

    static int story(InnRegister x, String text) {
        return text(x, text).story();
    }

    static int law(InnRegister x, String text) {
        return text(x, text).law();
    }

    static String times(String text, int many) {
        return text.repeat(many);
    }

    /** Says how it went and ends the program; a name of the tests stands ahead. */
    static void finish(String name) {
        System.out.println(name + ": " + passed + " checks as due, " + failed + " not");
        System.exit(failed > 0 ? 1 : 0);
    }
}
