import java.math.BigInteger;

/**
 * A test of its own for each sentence of the document that names an edge: too small, too large,
 * empty, full, a wrap-around, a refused call. Each says ahead which promise and which words.
 */
public final class EdgeTests extends Checks {
    private static final int MIN = Integer.MIN_VALUE;
    private static final int MAX = Integer.MAX_VALUE;
    private static final String SEVEN = "0;1;2;3;4;5;6";

    public static void main(String[] args) {
        edgesOfTheTerms();
        edgesOfRules();
        edgesOfTexts();
        edgesOfGuestsAndActs();
        edgesOfStoriesAndSteps();
        edgesOfOrders();
        edgesOfStays();
        edgesOfLies();
        edgesOfNets();
        edgesOfChances();
        edgesOfLaws();
        edgesOfWhatIsKept();
        finish("edges");
    }

    private static void says(String number, String words) {
        promise = number + " (" + words + ")";
    }

    private static InnRegister seven() {
        return inn(SEVEN, "");
    }

    /** Two of one ROOM who MET, and ROOMS are STRICT; the ROW has an ORDER from ahead of that. */
    private static InnRegister noneFits() {
        InnRegister x = inn("0;0", "01+");
        x.first();
        x.strict(1);
        return x;
    }

    private static InnRegister allAlike(int guests, int v) {
        InnRegister x = inn(SEVEN.substring(0, Math.max(0, 2 * guests - 1)), "");
        for (int a = 0; a < guests; a++) {
            for (int b = a + 1; b < guests; b++) {
                x.tells(a, b, v);
            }
        }
        return x;
    }

    /** Who is not told to have MET did NOT. */
    private static InnRegister net(int guests, String meetings) {
        InnRegister x = inn(SEVEN.substring(0, 2 * guests - 1), meetings);
        for (int a = 0; a < guests; a++) {
            for (int b = a + 1; b < guests; b++) {
                if (x.pair(a, b) == 2) {
                    x.tells(a, b, 0);
                }
            }
        }
        return x;
    }

    /** All that can be asked of what is told, of what can be undone and of THE TEXT. */
    private static String state(InnRegister x) {
        StringBuilder all = new StringBuilder();
        for (int what = 0; what <= 8; what++) {
            all.append(what == 7 ? 0 : x.count(what)).append(' ');
        }
        for (int g = 0; g < x.count(0); g++) {
            for (int what = 0; what <= 3; what++) {
                all.append(x.guest(g, what)).append(' ');
            }
        }
        return all.toString();
    }

    private static String numbers(InnRegister x) {
        StringBuilder all = new StringBuilder();
        for (int i = 0; i < x.count(7); i++) {
            all.append(x.row(i)).append(' ');
        }
        return all.toString();
    }

    private static void same(String what, String got, String want) {
        due(what + " as '" + got + "', due is '" + want + "'", got.equals(want), true);
    }

    /** A call that is refused, or of which there is nothing to tell: the same state, the same ROW. */
    private static void leaves(InnRegister x, String what, Asked call, long want) {
        String ahead = state(x);
        String row = numbers(x);
        due(what, call.answer(), want);
        same(what + " leaves all", state(x), ahead);
        same(what + " leaves the ROW", numbers(x), row);
    }

    // ---- terms

    private static void edgesOfTheTerms() {
        atMostSevenGuests();
        roomsFromNoughtToNine();
        openAtFirst();
        laterOnesInsteadOfEarlierOnes();
        notStrictAtFirst();
        toldToHaveMetInOneRoom();
        comesOnceAndGoesOnceLater();
        meetIfOneComesWhileTheOtherIsIn();
        eventsByTwiceTheGuest();
        rowIsToldByACallThatSaysSo();
        fractionsInLowestTerms();
        questionsChangeNothing();
        refusedCallsChangeNothing();
        textIsEmptiedByACallThatReadsIt();
        upToTheLastCall();
    }

    private static void atMostSevenGuests() {
        says("Terms 1", "GUESTS 0 .. (at most 7)");
        InnRegister x = seven();
        due("guests of an eighth", guests(x, "0"), -1);
        due("count(0)", x.count(0), 7);
        due("the last one", x.guest(6, 0), 6);
        none("an eighth", () -> x.guest(7, 0));
        due("told of the last one", x.tells(6, 0, 1), 12);
        due("told of an eighth", x.tells(7, 0, 1), -1);
        due("bits of the last one", x.guest(0, 1), 64);
        due("open of the last one", x.guest(6, 3), 62);
    }

    private static void roomsFromNoughtToNine() {
        says("Terms 1", "each with a ROOM 0 .. 9, a digit");
        InnRegister x = inn("0;9;5", "");
        due("room", x.guest(0, 0), 0);
        due("room", x.guest(1, 0), 9);
        // the signs beside the digits, and a digit's number with 128 more
        char[] others = {'/', ':', 0, 255, '0' + 128, '9' + 128};
        for (char other : others) {
            due("sign " + (int) other, guests(x, String.valueOf(other)), -1);
        }
        due("count(0)", x.count(0), 3);
    }

    private static void openAtFirst() {
        says("Terms 1", "it is OPEN (2; at first)");
        InnRegister x = seven();
        due("count(3)", x.count(3), 21);
        due("pair", x.pair(0, 6), 2);
        due("count(1)", x.count(1), 0);
        due("count(2)", x.count(2), 0);
        InnRegister y = inn("0;0", "01-");
        guests(y, "0");
        due("of one who came later", y.guest(2, 3), 3);
        due("told ahead", y.pair(0, 1), 0);
    }

    private static void laterOnesInsteadOfEarlierOnes() {
        says("Terms 1", "the later ones instead of earlier ones");
        InnRegister x = inn("0;0", "01+;01-;10?;10+;01-");
        due("pair", x.pair(0, 1), 0);
        due("changed and back", meetings(x, "01+;01?;10-"), 0);
        due("count(6)", x.count(6), 1);
    }

    private static void notStrictAtFirst() {
        says("Terms 1", "ROOMS are STRICT or not (at first not): two of one ROOM can't be in at once");
        InnRegister x = inn("3;3;4", "");
        due("count(4)", x.count(4), 0);
        due("in at once", x.evening(3), 1);
        x.strict(1);
        due("not any more", x.evening(3), 0);
        due("one of each", x.evening(6), 1);
        due("all", x.evening(7), 0);
    }

    private static void toldToHaveMetInOneRoom() {
        says("Terms 1", "they can be told to have MET: then no order fits");
        InnRegister x = inn("3;3", "");
        x.strict(1);
        due("tells", x.tells(0, 1, 1), 12);
        due("orders", x.orders(), 0);
        x.strict(0);
        due("not STRICT", x.orders(), 4);
    }

    private static void comesOnceAndGoesOnceLater() {
        says("Terms 1", "each GUEST comes once and goes once, later; all that is one behind the other");
        long orders = 1;
        for (int n = 0; n <= 7; n++) {
            // one more: its two EVENTS stand anywhere among 2n others, the coming first
            orders *= n == 0 ? 1 : n * (2L * n - 1);
            due(n + " guests", allAlike(n, 2).orders(), orders);
        }
    }

    private static void meetIfOneComesWhileTheOtherIsIn() {
        says("Terms 1", "Two MEET by it, if one comes while the other one is in");
        InnRegister x = inn("0;0", "01+");
        due("either may come first, either may go first", x.orders(), 4);
        due("most", x.most(), 2);
        x.before(1, 0);
        row(x, 1, 2);
        x.tells(0, 1, 0);
        due("who comes just behind a going meets nobody", x.orders(), 2);
        due("most", x.most(), 1);
    }

    private static void eventsByTwiceTheGuest() {
        says("Terms 1", "An EVENT is told by twice the GUEST, and 1 more, if it goes");
        InnRegister x = allAlike(7, 0);
        due("first", x.first(), 14);
        row(x, 0, 1, 2, 3, 4, 5, 6, 7, 8, 9, 10, 11, 12, 13);
    }

    private static void rowIsToldByACallThatSaysSo() {
        says("Terms 2", "ROW: numbers told last by a call that says so");
        InnRegister x = inn("0;1", "01+");
        x.first();
        x.orders();
        x.guest(0, 1);
        x.pair(0, 1);
        x.sheet(2, 2, 4, 1);
        x.tells(0, 1, 0);
        x.hides(0);
        x.copies(0, 1);
        x.moves(0, 9);
        x.strict(1);
        x.undo();
        x.keep(0);
        x.again(0);
        x.game(5, 3);
        x.count(7);
        meetings(x, "01-");
        rule(x, "x");
        guests(x, "3");
        row(x, 0, 2, 1, 3);
        x.sure();
        row(x);
        x.rests(0);
        row(x, 0, 0);
    }

    private static void fractionsInLowestTerms() {
        says("Terms 2", "Fractions are told in lowest terms, upper and lower number (0 by 1)");
        InnRegister x = inn("0;0;0", "01-");
        x.met(0, 1);
        row(x, 0, 1);
        x.evening(7);
        row(x, 0, 1);
        x.place(0, 0);
        row(x, 1, 3);
        x.evening(0);
        row(x, 1, 1);
        x.before(0, 1);
        row(x, 1, 2);
        x.tells(0, 2, 0);
        x.tells(1, 2, 0);
        x.likely(0);
        row(x, 1, 1);
        InnRegister y = noneFits();
        y.likely(5);
        row(y, 0, 1);
        InnRegister z = inn("0;0", "");
        z.strict(1);
        z.likely(10);
        row(z, 0, 1);
    }

    private static void questionsChangeNothing() {
        says("Terms 2", "Questions change nothing");
        InnRegister x = inn("0;0;1;2;3", "01+;12-;23+;34-");
        x.tells(0, 4, 1);
        x.undo();
        x.moves(0, 7);
        x.keep(1);
        text(x, "01-");
        String ahead = state(x);
        askAll(x);
        same("all", state(x), ahead);
        due("THE TEXT is what it was", x.meetings(), 1);
        due("what was kept is", x.again(1), true);
        due("pair", x.pair(0, 1), 1);
        due("room", x.guest(0, 0), 7);
    }

    private static void askAll(InnRegister x) {
        x.orders();
        x.first();
        x.before(0, 1);
        x.met(0, 1);
        x.sure();
        x.known();
        x.place(0, 0);
        x.beds();
        x.most();
        x.evening(3);
        x.longest(0);
        x.cheapest();
        x.dearest();
        x.lies();
        x.alone();
        x.clash();
        x.ring();
        x.threes();
        x.rooms();
        x.circle();
        x.hears(0, 1);
        x.asks();
        x.likely(5);
        x.game(9, 3);
        x.rests(9);
        x.years(77, 60);
        x.count(0);
        x.guest(0, 0);
        x.pair(0, 1);
    }

    private static void refusedCallsChangeNothing() {
        says("Terms 2", "Refused calls answer NONE, or false, and change nothing");
        InnRegister x = inn("0;1;2", "01+;12-");
        x.keep(0);
        text(x, "01-");
        x.first();
        due("NONE", InnRegister.NONE, -1);
        leaves(x, "end(-1)", () -> x.end(-1) ? 1 : 0, 0);
        leaves(x, "end(4)", () -> x.end(4) ? 1 : 0, 0);
        leaves(x, "sheet(4, ..)", () -> x.sheet(4, 1, 5, 5), -1);
        leaves(x, "sheet of 8", () -> x.sheet(2, 8, 5, 5), -1);
        leaves(x, "tells(0, 0, 1)", () -> x.tells(0, 0, 1), -1);
        leaves(x, "tells(0, 3, 1)", () -> x.tells(0, 3, 1), -1);
        leaves(x, "tells(0, 1, 3)", () -> x.tells(0, 1, 3), -1);
        leaves(x, "hides(3)", () -> x.hides(3), -1);
        leaves(x, "copies(1, 1)", () -> x.copies(1, 1), -1);
        leaves(x, "copies(3, 0)", () -> x.copies(3, 0), -1);
        leaves(x, "moves(3, 0)", () -> x.moves(3, 0), -1);
        leaves(x, "moves(0, 10)", () -> x.moves(0, 10), -1);
        leaves(x, "strict(2)", () -> x.strict(2), -1);
        leaves(x, "before(0, 3)", () -> x.before(0, 3), -1);
        leaves(x, "met(2, 2)", () -> x.met(2, 2), -1);
        leaves(x, "place(0, 3)", () -> x.place(0, 3), -1);
        leaves(x, "evening(8)", () -> x.evening(8), -1);
        leaves(x, "longest(3)", () -> x.longest(3), -1);
        leaves(x, "hears(3, 3)", () -> x.hears(3, 3), -1);
        leaves(x, "likely(11)", () -> x.likely(11), -1);
        leaves(x, "game(61, 2)", () -> x.game(61, 2), -1);
        leaves(x, "rests(21)", () -> x.rests(21), -1);
        leaves(x, "years(1, 61)", () -> x.years(1, 61), -1);
        leaves(x, "keep(3)", () -> x.keep(3) ? 1 : 0, 0);
        leaves(x, "again(1)", () -> x.again(1) ? 1 : 0, 0);
        leaves(x, "count(9)", () -> x.count(9), -100);
        due("what was kept is", x.again(0), true);
        leaves(x, "undo()", x::undo, -1);
    }

    private static void textIsEmptiedByACallThatReadsIt() {
        says("Terms 2", ".. but THE TEXT, which a call that reads it empties");
        InnRegister x = inn("0;1", "");
        Asked[] reading = {x::guests, x::meetings, x::rule, x::story, x::law};
        long[] want = {-1, -1, -1, -1, -100000};
        for (int i = 0; i < reading.length; i++) {
            text(x, "?");
            due("call " + i + " refused", reading[i].answer(), want[i]);
            due("THE TEXT", x.count(8), 0);
            due("call " + i + " of the empty one", reading[i].answer(), i == 4 ? 10000 : 0);
        }
        String[] good = {"1", "01+", "m", "s1", "m"};
        for (int i = 0; i < reading.length; i++) {
            text(x, good[i]);
            due("call " + i + " done", reading[i].answer() >= 0, true);
            due("THE TEXT", x.count(8), 0);
        }
        text(x, "01+");
        x.orders();
        x.undo();
        x.sheet(2, 1, 1, 1);
        due("others leave it", x.count(8), 3);
    }

    private static void upToTheLastCall() {
        says("What it is", "An object is used for at most 512 calls");
        InnRegister x = new InnRegister();
        x.sign('4' << 24 | ';' << 16 | '4' << 8);
        x.end(3);
        x.guests();
        for (int call = 4; call <= 506; call += 2) {
            x.tells(0, 1, call / 2 % 3);
            x.orders();
        }
        due("call 508", x.tells(0, 1, 2), 11);
        due("call 509", x.strict(1), 0);
        due("call 510", x.orders(), 2);
        due("call 511", x.moves(0, 9), 4);
        due("call 512", x.orders(), 6);
    }

    // ---- rules

    private static void edgesOfRules() {
        fortySignsOfARule();
        atFirstNone();
        comparisonsAnswerOneOrNought();
        comparisonsNotBehindOneAnother();
        bindingAndTurn();
        byNoughtNought();
        cutToNought();
        anyManySignsOfMinus();
        numbersOfOneToThreeDigits();
        fourInOneAnother();
        thingsOfAnEvent();
        asInts();
        putToNinetyNine();
    }

    /** One guest of ROOM 3 alone: it comes (m 0, t 0) and goes (m 1, t 1), so numbers count twice. */
    private static void worth(String rule, int both) {
        InnRegister x = inn("3", "");
        due("rule " + rule, rule(x, rule), 0);
        due("WORTH by " + rule, x.cheapest(), 10000 + both);
        due("WORTH by " + rule, x.dearest(), 10000 + both);
    }

    private static void fortySignsOfARule() {
        says("Terms 1 and 6", "at most 40 signs; 40, if it has more and the first 40 could go on or end");
        InnRegister x = inn("3", "");
        due("40 signs", rule(x, times("0+", 18) + "0+-7"), 0);
        due("worth", x.cheapest(), 10000 - 14);
        due("40 signs that end too early", rule(x, times("1+", 20)), -41);
        due("41, the 40 could end", rule(x, times("1+", 19) + "11" + "1"), -41);
        due("41, the 40 could go on", rule(x, times("1+", 20) + "1"), -41);
        due("41, the 41st could never stand", rule(x, times("1+", 19) + "11" + "?"), -41);
        due("80, the 40 could go on", rule(x, times("1+", 40)), -41);
        due("41, the 40th can't stand", rule(x, times("1+", 19) + "1m" + "1"), -40);
        due("40, the 40th can't stand", rule(x, times("1+", 19) + "1m"), -40);
        due("80, the first can't stand", rule(x, times("+1", 40)), -1);
        due("THE RULE is what it was", x.cheapest(), 10000 - 14);
    }

    private static void atFirstNone() {
        says("Terms 1 and 6", "at first none: m; an empty one: none");
        InnRegister x = inn("3", "");
        due("at first", x.cheapest(), 10001);
        due("rule x", rule(x, "x"), 0);
        due("x", x.cheapest(), 10006);
        due("an empty one", rule(x, ""), 0);
        due("none again", x.cheapest(), 10001);
    }

    private static void comparisonsAnswerOneOrNought() {
        says("Terms 1", "< > = bind least (two; 1 or 0)");
        String[] ones = {"2<3", "3>2", "3=3", "-1<0", "0>-1", "2=1+1", "1+1=2", "99<3*99", "-9=-9"};
        for (String one : ones) {
            worth(one, 2);
        }
        String[] noughts = {"3<3", "3>3", "2=3", "3<2", "2>3", "0<-1", "-9=9", "1+1<2"};
        for (String one : noughts) {
            worth(one, 0);
        }
    }

    private static void comparisonsNotBehindOneAnother() {
        says("Terms 1 and 6", "not one behind the other");
        InnRegister x = new InnRegister();
        String[] signs = {"<", ">", "="};
        for (String one : signs) {
            for (String other : signs) {
                due("1" + one + "1" + other + "1", rule(x, "1" + one + "1" + other + "1"), -4);
                due("beside", rule(x, "1" + one + other + "1"), -3);
            }
        }
        due("in ( )", rule(x, "(1<2<3)"), -5);
        worth("(1<2)<3", 2);
        worth("3<(1<2)", 0);
        worth("(1=1)=(2=2)", 2);
    }

    private static void bindingAndTurn() {
        says("Terms 1", "+ - (from the left), then * / (from the left), then - ahead of a thing");
        worth("9-3-2", 8);
        worth("9-3+2", 16);
        worth("8/2*4", 32);
        worth("8/4/2", 2);
        worth("9*3/2", 26);
        worth("2+3*4", 28);
        worth("8-6/2", 10);
        worth("1+1<1*3", 2);
        worth("-2+5", 6);
        worth("-2*3", -12);
        worth("2*-3", -12);
        worth("7-(2-1)", 12);
    }

    private static void byNoughtNought() {
        says("Terms 1", "by 0: 0");
        worth("7/0", 0);
        worth("0/0", 0);
        worth("-7/0", 0);
        worth("5+7/0", 10);
        worth("7/(2-2)", 0);
        worth("7/0*2+1", 2);
        // m is 0, then 1
        worth("7/m", 7);
    }

    private static void cutToNought() {
        says("Terms 1", "cut to 0");
        worth("7/2", 6);
        worth("-7/2", -6);
        worth("7/-2", -6);
        worth("-7/-2", 6);
        worth("1/2", 0);
        worth("-1/2", 0);
    }

    private static void anyManySignsOfMinus() {
        says("Terms 1", "- ahead of a thing (any many)");
        worth(times("-", 39) + "x", -6);
        worth(times("-", 38) + "x", 6);
        worth("1--1", 4);
        worth("1---1", 0);
        worth("-(x-1)", -4);
        worth("--(x-1)", 4);
        InnRegister x = new InnRegister();
        due("no thing", rule(x, "-"), -2);
        due("no thing in 40 signs", rule(x, times("-", 40)), -41);
        due("+ is none ahead of a thing", rule(x, "1-+1"), -3);
    }

    private static void numbersOfOneToThreeDigits() {
        says("Terms 1 and 6", "a NUMBER of 1 to 3 digits");
        worth("9", 18);
        worth("98", 196);
        worth("100-50", 100);
        worth("999-998", 2);
        worth("007", 14);
        worth("000", 0);
        InnRegister x = new InnRegister();
        due("4 digits", rule(x, "1000"), -4);
        due("4 digits", rule(x, "m+0001"), -6);
        due("4 digits in ( )", rule(x, "(1234)"), -5);
    }

    private static void fourInOneAnother() {
        says("Terms 1 and 6", "an EXPRESSION in ( ) (at most 4 in one another)");
        worth("((((7))))", 14);
        worth("(1)+(1)+(1)+(1)+(1)+(1)", 12);
        worth("((((1))))+((((2))))", 6);
        worth("-(-(-(-(5))))", 10);
        InnRegister x = new InnRegister();
        due("5", rule(x, "(((((7)))))"), -5);
        due("5 behind 4", rule(x, "((((1))))+(((((1)))))"), -15);
        due("5 behind some that were closed", rule(x, "((((1)+((1)))))"), -9);
        due("open", rule(x, "((((1)))"), -9);
        due("closed too often", rule(x, "((((1)))))"), -10);
        due("nothing in it", rule(x, "(())"), -3);
    }

    /** By all 4 ORDERS of two who MET: two comings (t 0, 1), two goings (t 2, 3). */
    private static void thingsOfAnEvent() {
        says("Terms 1", "i the GUEST, x its ROOM, c 1 if it comes, m in ahead, k gone ahead, t EVENTS ahead, f MET");
        String[] rules = {"i*t", "x*c", "c*t", "m*t", "k*t", "f*t", "t", "m", "k", "c", "(1-c)*m", "(1-c)*k", "c*m", "c*k"};
        int[] least = {2, 14, 1, 8, 3, 6, 6, 4, 1, 2, 3, 1, 1, 0};
        int[] most = {4, 14, 1, 8, 3, 6, 6, 4, 1, 2, 3, 1, 1, 0};
        for (int i = 0; i < rules.length; i++) {
            InnRegister x = inn("9;5", "01+");
            rule(x, rules[i]);
            due("least by " + rules[i], x.cheapest(), 10000 + least[i]);
            due("most by " + rules[i], x.dearest(), 10000 + most[i]);
        }
        InnRegister x = allAlike(7, 1);
        rule(x, "f");
        due("f of 6", x.cheapest(), 10000 + 14 * 6);
        rule(x, "m/7*9");
        due("7 are in ahead of one EVENT alone", x.cheapest(), 10009);
        rule(x, "k/6*9");
        due("6 have gone ahead of one EVENT alone", x.cheapest(), 10009);
        rule(x, "t/13*9");
        due("13 EVENTS were ahead of one alone", x.cheapest(), 10009);
        rule(x, "i/6*9");
        due("GUEST 6", x.cheapest(), 10018);
    }

    private static void asInts() {
        says("Terms 1", "As ints");
        worth("512*512*512*16", -198);
        worth("512*512*512*16-1", 198);
        worth("-(512*512*512*16)", -198);
        worth("512*512*512*16/-1", -198);
        worth("512*512*512*32+5", 10);
        worth("512*512*512*16+512*512*512*16", 0);
        worth("512*512*512*16-1<0", 0);
        worth("512*512*512*16<0", 2);
        worth("-(512*512*512*16)=512*512*512*16", 2);
    }

    private static void putToNinetyNine() {
        says("Terms 1", "put to -99 .. 99: WORTH");
        worth("98", 196);
        worth("99", 198);
        worth("100", 198);
        worth("-98", -196);
        worth("-99", -198);
        worth("-100", -198);
        // the whole of it alone
        worth("100-10", 180);
        worth("200/2-50", 100);
    }

    // ---- texts

    private static void edgesOfTexts() {
        newObjectHasNoGuests();
        highestByteFirst();
        moreThanEighty();
        firstSignsAlone();
        emptyTextOfGuests();
        howManyLines();
        guestsEndTooEarly();
        lineWithoutRoom();
        moreThanThirteen();
        nothingOfItComes();
        emptyTextOfMeetings();
        pairsOtherwiseThanAhead();
        guestThatIsNotThere();
        meetingsEndTooEarly();
        moreThanSeventyNine();
        nothingOfMeetingsComes();
        signsOfARule();
        ruleEndsTooEarly();
        ruleStaysIfRefused();
        eachSignOfGuests();
        eachSignOfMeetings();
        eachSignOfARule();
        eachSignOfAStory();
    }

    private static void newObjectHasNoGuests() {
        says("1", "No GUESTS");
        InnRegister x = new InnRegister();
        for (int what = 0; what <= 8; what++) {
            due("count(" + what + ")", x.count(what), 0);
        }
        none("row(0)", () -> x.row(0));
        due("two objects are two", inn("3", "").count(0) + x.count(0), 1);
    }

    private static void highestByteFirst() {
        says("2", "of v the highest byte first");
        InnRegister x = inn("0;0", "");
        due("sign", x.sign('0' << 24 | '1' << 16 | '-' << 8 | ';'), 4);
        due("sign", x.sign('1' << 24 | '0' << 16 | '+' << 8), 8);
        x.end(7);
        due("meetings", x.meetings(), 1);
        due("pair", x.pair(0, 1), 1);
        due("the highest bit", x.sign(-1), 4);
        due("255 is no digit", x.guests(), -1);
        due("the highest bit", x.sign(MIN), 4);
        due("128 is no digit", x.guests(), -1);
        due("THE TEXT starts anew", x.sign(0x30303030), 4);
    }

    private static void moreThanEighty() {
        says("2", "Refused: there would be more than 80");
        InnRegister x = inn("0;0", "");
        for (int many = 4; many <= 80; many += 4) {
            due("sign", x.sign('0' << 24 | '1' << 16 | '+' << 8 | ';'), many);
        }
        due("beyond 80", x.sign(0), -1);
        for (int many = 80; many >= 77; many--) {
            due("end", x.end(many), true);
            due("beyond 80 from " + many, x.sign(0x30303030), -1);
            due("count(8)", x.count(8), many);
        }
        due("end", x.end(76), true);
        due("up to 80", x.sign('0' << 24 | '1' << 16 | '-' << 8 | ';'), 80);
        due("refused", x.sign(0), -1);
        x.end(79);
        due("nothing of it stood behind", x.meetings(), 1);
        due("pair", x.pair(0, 1), 0);
    }

    private static void firstSignsAlone() {
        says("3", "its first n signs alone: true; false if it has not so many, or n is below 0");
        InnRegister x = new InnRegister();
        due("of none 0", x.end(0), true);
        due("of none 1", x.end(1), false);
        x.sign('7' << 24 | ';' << 16 | '8' << 8 | '!');
        due("one more than it has", x.end(5), false);
        due("below 0", x.end(-1), false);
        due("far below 0", x.end(MIN), false);
        due("far too many", x.end(MAX), false);
        due("count(8)", x.count(8), 4);
        due("all", x.end(4), true);
        due("count(8)", x.count(8), 4);
        due("3", x.end(3), true);
        due("4 of 3", x.end(4), false);
        due("guests", x.guests(), 2);
        due("the first ones", x.guest(1, 0), 8);
    }

    private static void emptyTextOfGuests() {
        says("4", "an empty one: nothing");
        InnRegister x = inn("0;0", "01+");
        x.keep(0);
        due("guests", guests(x, ""), 0);
        due("count(0)", x.count(0), 2);
        due("count(6)", x.count(6), 1);
        due("again", x.again(0), true);
        due("full", guests(seven(), ""), 0);
        due("new", new InnRegister().guests(), 0);
    }

    private static void howManyLines() {
        says("4", "THE TEXT tells of GUESTS: how many LINES");
        for (int lines = 1; lines <= 7; lines++) {
            InnRegister x = new InnRegister();
            due(lines + " lines", guests(x, SEVEN.substring(0, 2 * lines - 1)), lines);
            due("count(0)", x.count(0), lines);
        }
        InnRegister x = inn("4;5", "");
        due("behind others", guests(x, "9;8"), 2);
        due("room", x.guest(0, 0), 4);
        due("room", x.guest(2, 0), 9);
        due("room", x.guest(3, 0), 8);
    }

    private static void guestsEndTooEarly() {
        says("4", "the sign at p can't stand there (its end, if it ends too early)");
        InnRegister x = new InnRegister();
        for (int lines = 1; lines <= 6; lines++) {
            due(lines + " lines", guests(x, SEVEN.substring(0, 2 * lines)), -1 - 2 * lines);
        }
        due("no ;", guests(x, "12"), -2);
        due("; twice", guests(x, "1;;2"), -3);
        due("; first", guests(x, ";"), -1);
        due("no digit", guests(x, "1;+"), -3);
        due("the first of two", guests(x, "1x;y"), -2);
    }

    private static void lineWithoutRoom() {
        says("4", "the first sign of a LINE for which there is no room");
        for (int there = 1; there <= 7; there++) {
            InnRegister x = inn(SEVEN.substring(0, 2 * there - 1), "");
            int at = 2 * (7 - there);
            String fills = SEVEN.substring(0, at);
            due("a digit", guests(x, fills + "1"), -1 - at);
            due("no digit", guests(x, fills + "x"), -1 - at);
            due("more behind it", guests(x, fills + "1;1"), -1 - at);
            due("a long text", guests(x, fills + times("1;", (78 - at) / 2)), -1 - at);
            due("a fault ahead of it", at == 0 ? -1 : guests(x, "x" + fills.substring(1) + "1"), -1);
            due("nothing came", x.count(0), there);
        }
    }

    private static void moreThanThirteen() {
        says("4", "13, if it has more and the first 13 could go on or end");
        InnRegister x = new InnRegister();
        due("14 signs", guests(x, SEVEN + ";"), -14);
        due("14 signs, another one", guests(x, SEVEN + "x"), -14);
        due("15 signs", guests(x, SEVEN + ";7"), -14);
        due("80 signs", guests(x, times("1;", 40)), -14);
        due("the 13th can't stand", guests(x, "0;1;2;3;4;5;x;7"), -13);
        due("the 12th can't stand", guests(x, "0;1;2;3;4;566;7"), -12);
        due("nothing came", x.count(0), 0);
        due("13 signs", guests(x, SEVEN), 7);
    }

    private static void nothingOfItComes() {
        says("4", "Nothing of it comes, if a LINE can't");
        InnRegister x = inn("0;0", "01+");
        x.keep(2);
        due("the last one", guests(x, "1;2;x"), -5);
        due("too many", guests(x, "1;2;3;4;5;6"), -11);
        due("count(0)", x.count(0), 2);
        due("count(6)", x.count(6), 1);
        due("again", x.again(2), true);
    }

    private static void emptyTextOfMeetings() {
        says("5", "an empty one: nothing");
        InnRegister x = inn("0;0", "01+");
        due("meetings", meetings(x, ""), 0);
        due("pair", x.pair(0, 1), 1);
        due("count(6)", x.count(6), 1);
        due("without GUESTS", meetings(new InnRegister(), ""), 0);
    }

    private static void pairsOtherwiseThanAhead() {
        says("5", "of how many pairs it is told otherwise than ahead");
        InnRegister x = inn("0;0;0", "");
        due("as it was told", meetings(x, "01?;12?"), 0);
        due("one of two pairs, twice", meetings(x, "01+;10-;12?"), 1);
        due("from NOT to MET", meetings(x, "01+"), 1);
        due("from MET to OPEN", meetings(x, "01?"), 1);
        due("all", meetings(x, "01+;02-;21+"), 3);
        due("all once more", meetings(x, "10+;20-;12+"), 0);
        InnRegister y = seven();
        due("20 pairs", meetings(y, "01+;02+;03+;04+;05+;06+;12-;13-;14-;15-;16-;23+;24+;25+;26+;34-;35-;36-;45+;46+"), 20);
        due("count(3)", y.count(3), 1);
    }

    private static void guestThatIsNotThere() {
        says("5", "a GUEST that is not there, or is the first one: at its digit");
        InnRegister x = inn("0;0;0", "");
        due("first", meetings(x, "30+"), -1);
        due("first, 9", meetings(x, "90+"), -1);
        due("second", meetings(x, "03+"), -2);
        due("like ones", meetings(x, "22+"), -2);
        due("in a later LINE, first", meetings(x, "01+;31+"), -5);
        due("in a later LINE, second", meetings(x, "01+;13+"), -6);
        due("in a later LINE, like ones", meetings(x, "01+;11+"), -6);
        due("the last GUEST is there", meetings(x, "20+"), 1);
        due("one GUEST alone", meetings(inn("0", ""), "00+"), -2);
        due("one GUEST alone", meetings(inn("0", ""), "01+"), -2);
        due("without GUESTS", meetings(new InnRegister(), "01+"), -1);
        due("the seventh", meetings(seven(), "65-"), 1);
        due("the eighth", meetings(seven(), "75-"), -1);
        due("the eighth", meetings(seven(), "57-"), -2);
    }

    private static void meetingsEndTooEarly() {
        says("5", "-1 - p: likewise (its end, if it ends too early)");
        InnRegister x = inn("0;0", "");
        due("0", meetings(x, "0"), -2);
        due("01", meetings(x, "01"), -3);
        due("01+;", meetings(x, "01+;"), -5);
        due("01+;0", meetings(x, "01+;0"), -6);
        due("01+;01", meetings(x, "01+;01"), -7);
        due("a sign that tells nothing", meetings(x, "01*"), -3);
        due("no ;", meetings(x, "01+0"), -4);
        due("; first", meetings(x, ";01+"), -1);
        due("no digit", meetings(x, "0;+"), -2);
        due("no digit", meetings(x, "+01"), -1);
    }

    private static void moreThanSeventyNine() {
        says("5", "likewise (79 signs)");
        InnRegister x = inn("0;0", "");
        String most = times("01+;", 19);
        due("79 signs", meetings(x, most + "01-"), 1);
        due("79 signs that end too early", meetings(x, most.substring(0, 76) + "01"), -79);
        due("80 signs, the 79 could go on", meetings(x, most + "01+;"), -80);
        due("80 signs, another one", meetings(x, most + "01+x"), -80);
        due("80 signs, the 79th can't stand", meetings(x, most + "01;+"), -79);
        due("80 signs, the first can't stand", meetings(x, "x" + most.substring(1) + "01+;"), -1);
        due("pair", x.pair(0, 1), 0);
    }

    private static void nothingOfMeetingsComes() {
        says("5", "Nothing of it comes, if a LINE can't");
        InnRegister x = inn("0;0;0", "01+");
        due("the last one", meetings(x, "02+;12-;01?;0"), -14);
        due("pair", x.pair(0, 1), 1);
        due("pair", x.pair(0, 2), 2);
        due("count(6)", x.count(6), 1);
    }

    private static void signsOfARule() {
        says("6", "the sign at p can't stand there");
        InnRegister x = new InnRegister();
        String[] bad = {"z", "mm", "1m", "m1", ")", "m)", "+m", "*m", "/m", "<m", "m**m", "m m", "()", "(m", "(m+)", "1<", "m+(",
            "I", "m;m"};
        int[] at = {0, 1, 1, 1, 0, 1, 0, 0, 0, 0, 2, 1, 1, 2, 3, 2, 3, 0, 1};
        for (int i = 0; i < bad.length; i++) {
            due("rule " + bad[i], rule(x, bad[i]), -1 - at[i]);
        }
        due("a sign above 127", rule(x, String.valueOf((char) ('m' + 128))), -1);
        due("a sign 0", rule(x, "m" + (char) 0), -2);
    }

    private static void ruleEndsTooEarly() {
        says("6", "its end, if it ends too early");
        InnRegister x = new InnRegister();
        String[] early = {"-", "m+", "m-", "m*", "m/", "m<", "m>", "m=", "(", "(m", "((m)", "m+(1", "--"};
        for (String one : early) {
            due("rule " + one, rule(x, one), -1 - one.length());
        }
    }

    private static void ruleStaysIfRefused() {
        says("6", "THE TEXT is THE RULE: 0; refused, it changes nothing");
        InnRegister x = inn("3", "");
        due("rule", rule(x, "x"), 0);
        due("refused", rule(x, "7+"), -3);
        due("refused, 41 signs", rule(x, times("7+", 20) + "7"), -41);
        due("x", x.cheapest(), 10006);
        due("rule", rule(x, "7"), 0);
        due("7", x.cheapest(), 10014);
        due("no step", x.count(6), 0);
    }

    private interface Reader {
        int read(InnRegister x, String text);
    }

    /** Behind what is there each of the 256 signs is tried; fault: the answer if the first sign can't stand. */
    private static void eachSign(String guests, Reader reader, int fault, String there, String good) {
        for (char sign = 0; sign < 256; sign++) {
            InnRegister x = guests.isEmpty() ? new InnRegister() : inn(guests, "");
            int answer = reader.read(x, there + sign);
            int here = fault - there.length();
            if (good.indexOf(sign) < 0) {
                due("'" + there + "' and sign " + (int) sign, answer, here);
            } else {
                due("'" + there + "' and " + sign + " can stand", answer == here - 1 || answer > fault, true);
            }
        }
    }

    private static void eachSignOfGuests() {
        says("4", "a digit (ROOM); LINES with ; between; the sign at p can't stand there");
        String digits = "0123456789";
        String[][] places = {{"", digits}, {"1", ";"}, {"1;", digits}, {"0;9", ";"}, {"1;2;3;4;5;6;", digits}};
        for (String[] one : places) {
            eachSign("", Checks::guests, -1, one[0], one[1]);
        }
        eachSign("1;2;3;4;5", Checks::guests, -1, "1;2", ";");
        eachSign("1;2;3;4;5", Checks::guests, -1, "1;2;", "");
        eachSign("1;2;3;4;5;6;7", Checks::guests, -1, "", "");
    }

    private static void eachSignOfMeetings() {
        says("5", "two digits (GUESTS that are there, not the same), and + - or ?; the sign at p can't stand there");
        String[][] places = {{"", "012"}, {"0", "12"}, {"1", "02"}, {"2", "01"}, {"10", "+-?"}, {"10+", ";"},
            {"10+;", "012"}, {"10+;2", "01"}, {"10+;21", "+-?"}, {"10+;21?", ";"}};
        for (String[] one : places) {
            eachSign("0;0;0", Checks::meetings, -1, one[0], one[1]);
        }
        eachSign("", Checks::meetings, -1, "", "");
        eachSign("0", Checks::meetings, -1, "", "0");
        eachSign("0", Checks::meetings, -1, "0", "");
        eachSign(SEVEN, Checks::meetings, -1, "", "0123456");
        eachSign(SEVEN, Checks::meetings, -1, "6", "012345");
    }

    private static void eachSignOfARule() {
        String digits = "0123456789";
        String start = digits + "ixcmktf-(";
        String sums = "+-*/";
        String deeds = sums + "<>=";
        String[][] places = {{"", start}, {"m", deeds}, {"1", digits + deeds}, {"12", digits + deeds}, {"123", deeds},
            {"m+", start}, {"m-", start}, {"m*", start}, {"m/-", start}, {"m<", start}, {"--", start}, {"-1", digits + deeds},
            {"(", start}, {"(m", deeds + ")"}, {"(1", digits + deeds + ")"}, {"(m)", deeds}, {"(m<", start},
            {"m<m", sums}, {"m=12", digits + sums}, {"m>123", sums}, {"m<1+f", sums}, {"(m=m", sums + ")"}, {"(m=m)", deeds},
            {"(m)>1", digits + sums}, {"(((", start}, {"((((", start.replace("(", "")}, {"((((-", start.replace("(", "")},
            {"((((m", deeds + ")"}, {"((((m)", deeds + ")"}, {"((((m))))", deeds}};
        for (String[] one : places) {
            says("6", "the sign at p can't stand there");
            eachSign("", Checks::rule, -1, one[0], one[1]);
            says("41", "the sign at p can't stand there (as rule())");
            eachSign("", Checks::law, -100000, one[0], one[1]);
        }
    }

    private static void eachSignOfAStory() {
        says("15", "the sign at p can't stand there");
        String digits = "0123456789";
        String letters = "mhcrs";
        String[][] places = {{"", letters}, {"m", digits}, {"m0", digits}, {"m01", "+-?"}, {"m01+", letters}, {"h", digits},
            {"h0", letters}, {"c", digits}, {"c0", digits}, {"c01", letters}, {"r", digits}, {"r0", digits}, {"r01", letters},
            {"s", "01"}, {"s1", letters}, {"s0m", digits}, {"m99?", letters}};
        for (String[] one : places) {
            eachSign("0;0;0", Checks::story, -1, one[0], one[1]);
        }
    }

    // ---- guests and acts

    private static void edgesOfGuestsAndActs() {
        noSuchGuestOrWhat();
        noSuchPair();
        lowestBitsWithTheirSign();
        putToNoughtToNine();
        entriesWrapAround();
        shortSheets();
        sheetBelowNought();
        missingSheet();
        anotherKindOrTooMany();
        toldSoOrOthers();
        openOfAll();
        copiesOfNone();
        movesToNine();
        strictOrOthers();
    }

    private static void noSuchGuestOrWhat() {
        says("7", "NoSuchElementException: none such, another what");
        InnRegister x = inn("4;5;6", "01+;02-");
        int[] others = {-1, 3, 7, MIN, MAX};
        for (int other : others) {
            none("guest(" + other + ", 0)", () -> x.guest(other, 0));
        }
        int[] whats = {-1, 4, MIN, MAX};
        for (int what : whats) {
            none("guest(0, " + what + ")", () -> x.guest(0, what));
        }
        none("without GUESTS", () -> new InnRegister().guest(0, 0));
        due("room of the last one", x.guest(2, 0), 6);
        due("met", x.guest(0, 1), 2);
        due("not", x.guest(0, 2), 4);
        due("open", x.guest(2, 3), 2);
        due("one alone", inn("8", "").guest(0, 3), 0);
    }

    private static void noSuchPair() {
        says("8", "NoSuchElementException: none such, like ones");
        InnRegister x = inn("4;5;6", "01+;02-");
        int[] others = {-1, 3, 7, MIN, MAX};
        for (int other : others) {
            none("pair(0, " + other + ")", () -> x.pair(0, other));
            none("pair(" + other + ", 0)", () -> x.pair(other, 0));
        }
        for (int g = 0; g < 3; g++) {
            int like = g;
            none("like ones", () -> x.pair(like, like));
        }
        due("pair(2, 1)", x.pair(2, 1), 2);
        due("pair(2, 0)", x.pair(2, 0), 0);
        due("pair(1, 0)", x.pair(1, 0), 1);
    }

    private static void sheetOfOne(int kind, int entry, int room) {
        InnRegister x = inn("4", "");
        due("sheet(" + kind + ", 1, " + entry + ", 0)", x.sheet(kind, 1, entry, 0), room);
        due("room", x.guest(0, 0), room);
    }

    private static void lowestBitsWithTheirSign() {
        says("9", "of bytes, shorts the lowest bits, with their sign");
        int[] bytes = {127, 128, 255, 256, 257, 264, 383, 384, -1, -128, -129, -255, -256, 65536 + 3, MIN, MAX, MIN + 6};
        int[] asBytes = {9, 0, 0, 0, 1, 8, 9, 0, 0, 0, 9, 1, 0, 3, 0, 0, 6};
        for (int i = 0; i < bytes.length; i++) {
            sheetOfOne(0, bytes[i], asBytes[i]);
        }
        int[] shorts = {127, 128, 255, 256, 32767, 32768, 65535, 65536, 65537, 98303, -1, -32768, -32769, -65535, MIN, MAX, MIN + 6};
        int[] asShorts = {9, 9, 9, 9, 9, 0, 0, 0, 1, 9, 0, 0, 9, 1, 0, 0, 6};
        for (int i = 0; i < shorts.length; i++) {
            sheetOfOne(1, shorts[i], asShorts[i]);
        }
    }

    private static void putToNoughtToNine() {
        says("9", "put to 0 .. 9");
        int[] ints = {-1, 0, 1, 8, 9, 10, 128, 32768, 65536, MIN, MAX};
        int[] rooms = {0, 0, 1, 8, 9, 9, 9, 9, 9, 0, 9};
        for (int i = 0; i < ints.length; i++) {
            sheetOfOne(2, ints[i], rooms[i]);
        }
        InnRegister x = inn("0;0;0;0", "");
        due("down", x.sheet(2, 4, 11, -4), 9 + 7 + 3);
        due("room", x.guest(3, 0), 0);
    }

    private static void entriesWrapAround() {
        says("9", "n entries f, f + step, .. (as ints)");
        InnRegister x = inn("0;0;0", "");
        due("behind MAX comes MIN", x.sheet(2, 3, MAX, 1), 9);
        due("room", x.guest(1, 0), 0);
        due("ahead of MIN comes MAX", x.sheet(2, 3, MIN, -1), 18);
        due("room", x.guest(2, 0), 9);
        due("twice MIN is 0", x.sheet(2, 3, 5, MIN), 5 + 0 + 5);
        due("bytes", x.sheet(0, 3, 127, 1), 9);
        due("bytes of a step", x.sheet(0, 3, 1, 256), 3);
        due("shorts of a step", x.sheet(1, 3, 2, 65536), 6);
    }

    private static void shortSheets() {
        says("9", "those behind it have 0: the sum of all");
        InnRegister x = inn("7;7;7", "");
        due("of 1", x.sheet(2, 1, 4, 1), 4);
        due("behind it", x.guest(1, 0) + x.guest(2, 0), 0);
        x.sheet(2, 3, 7, 0);
        due("of 0", x.sheet(2, 0, 4, 1), 0);
        due("count(5)", x.count(5), 0);
        due("of 7 for 3", x.sheet(2, 7, 4, 1), 4 + 5 + 6);
        due("without GUESTS", new InnRegister().sheet(2, 7, 1, 1), 0);
        InnRegister full = seven();
        due("of 7 for 7", full.sheet(2, 7, 3, 1), 3 + 4 + 5 + 6 + 7 + 8 + 9);
        due("of 6 for 7", full.sheet(2, 6, 9, 0), 54);
        due("the last one", full.guest(6, 0), 0);
    }

    private static void sheetBelowNought() {
        says("9", "-2: n below 0 (of kinds 0 .. 2; nothing changes)");
        InnRegister x = inn("7;7", "");
        x.first();
        for (int kind = 0; kind <= 2; kind++) {
            int k = kind;
            leaves(x, "kind " + k, () -> x.sheet(k, -1, 1, 1), -2);
            leaves(x, "kind " + k, () -> x.sheet(k, MIN, 1, 1), -2);
        }
    }

    private static void missingSheet() {
        says("9", "-3: missing (all 0)");
        int[] many = {-1, 0, 7, MIN};
        for (int n : many) {
            InnRegister x = inn("7;7", "");
            due("n " + n, x.sheet(3, n, 5, 5), -3);
            due("count(5)", x.count(5), 0);
        }
        due("without GUESTS", new InnRegister().sheet(3, 1, 5, 5), -3);
    }

    private static void anotherKindOrTooMany() {
        says("9", "NONE: another kind, n above 7 (these first)");
        InnRegister x = inn("7;7", "");
        x.first();
        int[] kinds = {-1, 4, MIN, MAX};
        for (int kind : kinds) {
            leaves(x, "kind " + kind, () -> x.sheet(kind, 1, 1, 1), -1);
            leaves(x, "kind " + kind + ", n below 0", () -> x.sheet(kind, -1, 1, 1), -1);
        }
        for (int kind = 0; kind <= 3; kind++) {
            int k = kind;
            leaves(x, "8 of kind " + k, () -> x.sheet(k, 8, 1, 1), -1);
            leaves(x, "far too many of kind " + k, () -> x.sheet(k, MAX, 1, 1), -1);
        }
    }

    private static void toldSoOrOthers() {
        says("10", "what was told 10 more. -2: it is told so; NONE: others, like ones");
        InnRegister x = inn("0;0;0", "");
        x.first();
        leaves(x, "OPEN is told so", () -> x.tells(0, 1, 2), -2);
        due("from OPEN", x.tells(0, 1, 1), 12);
        leaves(x, "MET is told so", () -> x.tells(1, 0, 1), -2);
        due("from MET", x.tells(1, 0, 0), 11);
        leaves(x, "NOT is told so", () -> x.tells(0, 1, 0), -2);
        due("from NOT", x.tells(0, 1, 2), 10);
        int[] others = {-1, 3, MIN, MAX};
        for (int other : others) {
            leaves(x, "v " + other, () -> x.tells(0, 1, other), -1);
            leaves(x, "the first one", () -> x.tells(other, 1, 1), -1);
            leaves(x, "the second one", () -> x.tells(1, other, 1), -1);
        }
        leaves(x, "like ones", () -> x.tells(2, 2, 1), -1);
        leaves(x, "like ones, OPEN", () -> x.tells(2, 2, 2), -1);
    }

    private static void openOfAll() {
        says("11", "of how many it was not. -2: it is OPEN of all; NONE: none such");
        InnRegister x = inn("0;0;0;0", "01+;02-;12+");
        x.first();
        leaves(x, "OPEN of all", () -> x.hides(3), -2);
        due("of two", x.hides(0), 2);
        due("of others it stays", x.pair(1, 2), 1);
        leaves(x, "once more", () -> x.hides(0), -2);
        leaves(x, "below", () -> x.hides(-1), -1);
        leaves(x, "beyond", () -> x.hides(4), -1);
        leaves(x, "far below", () -> x.hides(MIN), -1);
        due("one alone", inn("0", "").hides(0), -2);
        due("of 6", allAlike(7, 0).hides(6), 6);
    }

    private static void copiesOfNone() {
        says("12", "of these two it stays; of how many that changes. -2: of none; NONE: none such, like ones");
        InnRegister x = inn("0;0;0;0", "01+;02-;03+");
        x.first();
        due("of two", x.copies(0, 1), 2);
        due("of these two", x.pair(0, 1), 1);
        due("copied", x.pair(1, 2), 0);
        leaves(x, "of none", () -> x.copies(0, 1), -2);
        leaves(x, "of none", () -> x.copies(1, 0), -2);
        leaves(x, "like ones", () -> x.copies(1, 1), -1);
        leaves(x, "below", () -> x.copies(-1, 1), -1);
        leaves(x, "beyond", () -> x.copies(1, 4), -1);
        due("OPEN is copied too", inn("0;0;0", "12+").copies(0, 1), 1);
        due("two alone", inn("0;0", "01+").copies(0, 1), -2);
        due("all others of seven", meetAllOf(seven(), 0).copies(0, 6), 5);
    }

    private static InnRegister meetAllOf(InnRegister x, int one) {
        for (int g = 0; g < x.count(0); g++) {
            x.tells(one, g, 1);
        }
        return x;
    }

    private static void movesToNine() {
        says("13", "another ROOM (0 .. 9): the one that it had. -2: it has it; NONE: others");
        InnRegister x = inn("4;4", "");
        x.first();
        due("to 0", x.moves(0, 0), 4);
        due("to 9", x.moves(0, 9), 0);
        leaves(x, "it has it", () -> x.moves(0, 9), -2);
        leaves(x, "10", () -> x.moves(0, 10), -1);
        leaves(x, "-1", () -> x.moves(0, -1), -1);
        leaves(x, "none such", () -> x.moves(2, 3), -1);
        leaves(x, "none such", () -> x.moves(-1, 3), -1);
        due("the other one", x.guest(1, 0), 4);
        due("room", x.guest(0, 0), 9);
    }

    private static void strictOrOthers() {
        says("14", "STRICT (1) or not (0): what they were. Refused: others");
        InnRegister x = inn("4;4", "");
        x.first();
        due("not, as they are", x.strict(0), 0);
        due("STRICT", x.strict(1), 0);
        due("STRICT, as they are", x.strict(1), 1);
        leaves(x, "2", () -> x.strict(2), -1);
        leaves(x, "-1", () -> x.strict(-1), -1);
        leaves(x, "far", () -> x.strict(MIN), -1);
        due("not", x.strict(0), 1);
        due("each that was done is a step", x.count(6), 4);
    }

    // ---- stories, steps

    private static void edgesOfStoriesAndSteps() {
        emptyStory();
        tillOneIsRefused();
        allActsOfAStory();
        signsOfAStory();
        storyEndsTooEarly();
        moreThanSixty();
        nothingToUndo();
        fifteenAreKept();
        suchAsWereDone();
        storyAsOneStep();
        eachIsUndoneAlone();
        asAheadOfIt();
        guestsForgetSteps();
        againForgetsSteps();
    }

    private static void emptyStory() {
        says("15", "an empty one: nothing");
        InnRegister x = inn("0;0;0", "01+");
        due("story", story(x, ""), 0);
        row(x, 0, 2);
        due("no step", x.count(6), 1);
    }

    private static void tillOneIsRefused() {
        says("15", "done one by one, till one is refused: how many were done; the ROW: 1 if one was refused, else 0; OPEN then");
        InnRegister x = inn("0;0;0", "");
        due("all", story(x, "m01+m12-"), 2);
        row(x, 0, 1);
        due("the last one", story(x, "h0m12-"), 1);
        row(x, 1, 2);
        due("the first one", story(x, "h0m01+"), 0);
        row(x, 1, 2);
        due("none behind it", x.pair(0, 1), 2);
        String[] refused = {"m12-", "m03+", "m30+", "m11+", "h0", "h3", "c12", "c00", "c03", "c30", "r00", "r30"};
        for (String one : refused) {
            due("refused " + one, story(x, one + "s1"), 0);
            row(x, 1, 2);
            due("none behind it", x.count(4), 0);
        }
        due("STRICT as they are is done", story(x, "s0s0"), 2);
        row(x, 0, 2);
    }

    private static void allActsOfAStory() {
        says("15", "m (tells()), h (hides()), c (copies()), r (moves()), s (strict())");
        InnRegister x = inn("0;0;0;0", "");
        due("story", story(x, "m01+m02-m13+h3c01r29r20r35s1"), 9);
        row(x, 0, 3);
        due("pair", x.pair(0, 1), 1);
        due("pair", x.pair(0, 2), 0);
        due("copied", x.pair(1, 2), 0);
        due("hidden", x.guest(3, 3), 7);
        due("room", x.guest(2, 0), 0);
        due("room", x.guest(3, 0), 5);
        due("STRICT", x.count(4), 1);
        due("OPEN", story(x, "m10?s0"), 2);
        row(x, 0, 4);
    }

    private static void signsOfAStory() {
        says("15", "-1 - p: the sign at p can't stand there; nothing is done then");
        InnRegister x = inn("0;0;0", "");
        x.first();
        String[] bad = {"x", "0", "mx", "m0x", "m01x", "m01;", "m01+x", "hx", "h00", "cx", "c0x", "c01+", "rx", "r0x", "r00;",
            "sx", "s2", "s-", "s11", "M01+", "m+"};
        int[] at = {0, 0, 1, 2, 3, 3, 4, 1, 2, 1, 2, 3, 1, 2, 3, 1, 1, 1, 2, 0, 1};
        for (int i = 0; i < bad.length; i++) {
            int want = -1 - at[i];
            int start = i;
            text(x, bad[i]);
            due("story " + bad[i], x.story(), want);
            due("behind an act, story " + bad[start], story(x, "m01+" + bad[start]), want - 4);
            due("nothing is done", x.pair(0, 1), 2);
            due("no step", x.count(6), 0);
        }
        row(x, 0, 1, 2, 3, 4, 5);
        due("digits of none such can stand", story(x, "h9"), 0);
        row(x, 1, 3);
        due("digits of none such can stand", story(x, "m89+"), 0);
    }

    private static void storyEndsTooEarly() {
        says("15", "its end, if it ends too early");
        InnRegister x = inn("0;0;0", "");
        String[] early = {"m", "m0", "m01", "h", "c", "c0", "r", "r0", "s"};
        for (String one : early) {
            due("story " + one, story(x, one), -1 - one.length());
            due("behind acts, story " + one, story(x, "s1h0" + one), -5 - one.length());
        }
        due("nothing is done", x.count(4), 0);
    }

    private static void moreThanSixty() {
        says("15", "60, if it has more and the first 60 could go on or end");
        InnRegister x = inn("0;0", "");
        due("60 signs", story(x, times("s1", 30)), 30);
        due("60 signs, ends too early", story(x, times("s0", 29) + "r0"), -61);
        due("61 signs, the 60 could end", story(x, times("s0", 30) + "s"), -61);
        due("61 signs, another one", story(x, times("s0", 30) + "?"), -61);
        due("61 signs, the 60 could go on", story(x, times("s0", 29) + "r0" + "1"), -61);
        due("61 signs, the 60 could go on, another one", story(x, times("s0", 29) + "r0" + "x"), -61);
        due("80 signs", story(x, times("s0", 40)), -61);
        due("61 signs, the 60th can't stand", story(x, times("s0", 29) + "s2" + "s"), -60);
        due("80 signs, the first can't stand", story(x, "x" + times("s0", 39)), -1);
        due("nothing is done", x.count(4), 1);
    }

    private static void nothingToUndo() {
        says("16", "how many are left that can be. Refused: none");
        InnRegister x = new InnRegister();
        due("a new object", x.undo(), -1);
        InnRegister y = inn("0;0", "");
        y.first();
        leaves(y, "behind guests()", y::undo, -1);
        y.tells(0, 1, 1);
        due("the last one", y.undo(), 0);
        leaves(y, "once more", y::undo, -1);
    }

    private static void fifteenAreKept() {
        says("16", "of 15 that are kept, the latest ones");
        InnRegister x = inn("0;0", "");
        for (int room = 1; room <= 9; room++) {
            x.moves(0, room);
        }
        for (int room = 1; room <= 6; room++) {
            x.moves(1, room);
        }
        due("15", x.count(6), 15);
        x.moves(1, 7);
        due("16", x.count(6), 15);
        x.moves(1, 8);
        x.moves(1, 9);
        due("18", x.count(6), 15);
        // the earliest 3 stay: ROOM 3 of the first one
        for (int left = 14; left >= 0; left--) {
            due("undo", x.undo(), left);
            due("ROOM of the first one", x.guest(0, 0), Math.min(9, 3 + left));
            due("ROOM of the second one", x.guest(1, 0), Math.max(0, left - 6));
        }
        due("none", x.undo(), -1);
    }

    private static void suchAsWereDone() {
        says("16", "the latest meetings() (if something changed), tells(), hides(), .. such as were done");
        InnRegister x = inn("0;0;0", "01+");
        due("meetings()", x.count(6), 1);
        meetings(x, "01+");
        meetings(x, "01-;01+");
        meetings(x, "01");
        x.tells(0, 1, 1);
        x.tells(0, 0, 1);
        x.hides(2);
        x.hides(3);
        x.copies(2, 2);
        x.moves(0, 0);
        x.moves(0, 10);
        x.strict(2);
        x.sheet(2, 3, 1, 1);
        x.sheet(3, 3, 1, 1);
        x.years(5, 9);
        x.keep(0);
        rule(x, "x");
        law(x, "x");
        story(x, "");
        story(x, "m01+");
        story(x, "m02");
        due("none of these is one", x.count(6), 1);
        x.tells(0, 2, 1);
        x.hides(0);
        x.tells(0, 1, 1);
        x.copies(0, 2);
        x.moves(0, 5);
        x.strict(1);
        meetings(x, "01?");
        story(x, "s0");
        due("each of these is one", x.count(6), 9);
    }

    private static void storyAsOneStep() {
        says("16", "story() of which one act was done, as one");
        InnRegister x = inn("0;0;0", "");
        due("three acts", story(x, "m01+r25s1"), 3);
        due("one act, then one refused", story(x, "m02-m02-h1"), 1);
        due("none", story(x, "m02-h1"), 0);
        due("count(6)", x.count(6), 2);
        due("undo", x.undo(), 1);
        due("pair", x.pair(0, 2), 2);
        due("pair", x.pair(0, 1), 1);
        due("undo", x.undo(), 0);
        due("pair", x.pair(0, 1), 2);
        due("room", x.guest(2, 0), 0);
        due("STRICT", x.count(4), 0);
    }

    private static void eachIsUndoneAlone() {
        says("16", "the latest .. is undone: how many are left that can be");
        InnRegister x = inn("0;0;0;0", "01+;02-");
        Asked[] acts = {() -> x.moves(3, 4), () -> x.tells(2, 3, 1), () -> x.tells(1, 2, 0), () -> x.moves(1, 8),
            () -> x.moves(2, 5), () -> x.copies(0, 3), () -> x.hides(0), () -> x.hides(1), () -> x.strict(1), () -> x.strict(0),
            () -> meetings(x, "01-;13+"), () -> meetings(x, "13-"), () -> story(x, "m01+r39"), () -> story(x, "s1")};
        String[] ahead = new String[acts.length];
        for (int i = 0; i < acts.length; i++) {
            x.end(0);
            ahead[i] = state(x);
            due("act " + i, acts[i].answer() >= 0, true);
        }
        for (int i = acts.length - 1; i >= 0; i--) {
            due("undo " + i, x.undo(), i + 1);
            same("undone " + i, state(x), ahead[i]);
        }
    }

    private static void asAheadOfIt() {
        says("16", "what is told of all pairs, ROOMS, STRICT are as ahead of it");
        InnRegister x = inn("1;2;3", "01+");
        x.strict(1);
        x.moves(2, 9);
        x.sheet(2, 3, 4, 0);
        rule(x, "5");
        x.undo();
        due("ROOMS", x.count(5), 1 + 2 + 3);
        due("STRICT", x.count(4), 1);
        x.sheet(2, 3, 4, 0);
        x.undo();
        due("STRICT", x.count(4), 0);
        due("ROOMS", x.count(5), 1 + 2 + 3);
        due("pair", x.pair(0, 1), 1);
        x.undo();
        due("pair", x.pair(0, 1), 2);
        due("THE RULE is not", x.cheapest(), 10030);
    }

    private static void guestsForgetSteps() {
        says("16", "guests() and again() forget them, if they are not refused; an empty guests() does not");
        InnRegister x = inn("0;0", "01+");
        guests(x, "");
        due("an empty one", x.count(6), 1);
        guests(x, "x");
        guests(x, "1;1;1;1;1;1");
        due("refused ones", x.count(6), 1);
        guests(x, "1");
        due("one", x.count(6), 0);
        leaves(x, "undo", x::undo, -1);
        due("what was told stays", x.pair(0, 1), 1);
    }

    private static void againForgetsSteps() {
        says("16", "again() forgets them, if it is not refused");
        InnRegister x = inn("0;0", "01+");
        x.again(0);
        x.again(3);
        due("refused ones", x.count(6), 1);
        x.keep(0);
        due("keep() does not", x.count(6), 1);
        x.again(0);
        due("again", x.count(6), 0);
        due("undo", x.undo(), -1);
        due("pair", x.pair(0, 1), 1);
    }

    // ---- orders that fit

    private static void edgesOfOrders() {
        withoutGuests();
        oneGuestAlone();
        fewestAndMostOrders();
        beginningsThatLeadNowhere();
        noneFitsLeavesTheRow();
        shareOfNoneSuch();
        surePairs();
        knownPairs();
        placesOfGuests();
    }

    private static void withoutGuests() {
        says("17 to 43", "1 without GUESTS; nothing without");
        InnRegister x = new InnRegister();
        due("orders", x.orders(), 1);
        due("first", x.first(), 0);
        row(x);
        due("beds", x.beds(), 0);
        row(x, 1, 1);
        due("sure", x.sure(), 0);
        row(x);
        due("most", x.most(), 0);
        row(x, 0);
        due("known", x.known(), 0);
        row(x);
        due("evening(0)", x.evening(0), 1);
        row(x, 1, 1);
        due("cheapest", x.cheapest(), 10000);
        row(x);
        due("dearest", x.dearest(), 10000);
        row(x, 1, 1);
        due("lies", x.lies(), 0);
        row(x);
        due("alone", x.alone(), 0);
        row(x, 0);
        due("rooms", x.rooms(), 0);
        row(x);
        due("circle", x.circle(), 0);
        row(x, 0, 1);
        due("threes", x.threes(), 0);
        row(x);
        due("likely", x.likely(3), 0);
        row(x, 1, 1);
        due("law", x.law(), 10000);
        row(x, 10000, 10000);
        due("years", x.years(9, 60), 0);
        row(x, 0, 60);
        leaves(x, "clash", x::clash, -2);
        leaves(x, "ring", x::ring, -2);
        leaves(x, "asks", x::asks, -2);
        leaves(x, "before", () -> x.before(0, 1), -1);
        leaves(x, "met", () -> x.met(0, 1), -1);
        leaves(x, "place", () -> x.place(0, 0), -1);
        leaves(x, "evening(1)", () -> x.evening(1), -1);
        leaves(x, "longest", () -> x.longest(0), -1);
        leaves(x, "hears", () -> x.hears(0, 0), -1);
        x.strict(1);
        due("orders, STRICT", x.orders(), 1);
    }

    private static void oneGuestAlone() {
        says("17 to 43", "one GUEST alone");
        InnRegister x = inn("3", "");
        due("orders", x.orders(), 1);
        due("first", x.first(), 2);
        row(x, 0, 1);
        due("sure", x.sure(), 0);
        row(x);
        due("place", x.place(0, 0), 0);
        row(x, 1, 1);
        due("beds", x.beds(), 1);
        row(x, 1, 1);
        due("most", x.most(), 1);
        row(x, 1);
        due("evening(1)", x.evening(1), 1);
        row(x, 1, 1);
        due("longest", x.longest(0), 0);
        row(x, 0);
        due("lies", x.lies(), 0);
        row(x, 0, 1);
        due("alone", x.alone(), 1);
        row(x, 1);
        due("rooms", x.rooms(), 1);
        row(x, 0);
        due("circle", x.circle(), 1);
        row(x, 1, 1);
        due("hears", x.hears(0, 0), 1);
        row(x, 0);
        due("likely", x.likely(0), 0);
        row(x, 1, 1);
        due("years", x.years(9, 7), 0);
        row(x, 0, 7);
        leaves(x, "asks", x::asks, -2);
        leaves(x, "clash", x::clash, -2);
        x.known();
        row(x);
        x.strict(1);
        due("orders, STRICT", x.orders(), 1);
    }

    private static void fewestAndMostOrders() {
        says("17", "How many ORDERS FIT");
        due("all of seven", seven().orders(), 681080400L);
        due("seven, all MET", allAlike(7, 1).orders(), 5040L * 5040);
        due("seven, all NOT", allAlike(7, 0).orders(), 5040);
        InnRegister x = inn("1;1;1;1;1;1;1", "");
        x.strict(1);
        due("seven of one ROOM", x.orders(), 5040);
        x.tells(0, 6, 1);
        due("two of whom MET", x.orders(), 0);
        due("a ring of four", net(4, "01+;12+;23+;30+").orders(), 0);
    }

    /** 2 met 0, 0 met 1, 1 met 3: if 0 and 1 come first of all, neither of the other two can come any more. */
    private static void beginningsThatLeadNowhere() {
        says("18, 25 and 27 to 29", "an ORDER that FITS, to its end");
        InnRegister x = net(4, "02+;01+;13+");
        due("orders", x.orders(), 8);
        due("first", x.first(), 8);
        row(x, 0, 4, 5, 2, 1, 6, 3, 7);
        due("most", x.most(), 2);
        row(x, 3);
        due("longest(0)", x.longest(0), 3);
        row(x, 2);
        due("longest(3)", x.longest(3), 1);
        row(x, 0);
        due("cheapest", x.cheapest(), 10010);
        row(x, 0, 4, 5, 2, 1, 6, 3, 7);
        due("rule", rule(x, "-m"), 0);
        due("dearest", x.dearest(), 9990);
        row(x, 1, 1);
    }

    private static void noneFitsLeavesTheRow() {
        says("18 to 41", "-2: none FITS");
        InnRegister x = noneFits();
        row(x, 0, 2, 1, 3);
        leaves(x, "first", x::first, -2);
        leaves(x, "before", () -> x.before(0, 1), -2);
        leaves(x, "met", () -> x.met(0, 1), -2);
        leaves(x, "sure", x::sure, -2);
        leaves(x, "known", x::known, -2);
        leaves(x, "place", () -> x.place(0, 0), -2);
        leaves(x, "beds", x::beds, -2);
        leaves(x, "most", x::most, -2);
        leaves(x, "evening", () -> x.evening(0), -2);
        leaves(x, "longest", () -> x.longest(0), -2);
        leaves(x, "cheapest", x::cheapest, -2);
        leaves(x, "dearest", x::dearest, -2);
        leaves(x, "asks", x::asks, -2);
        leaves(x, "law", x::law, -2);
        leaves(x, "before, none such", () -> x.before(0, 2), -1);
        leaves(x, "met, like ones", () -> x.met(1, 1), -1);
        leaves(x, "place, others", () -> x.place(0, 2), -1);
        leaves(x, "evening, none such", () -> x.evening(4), -1);
        leaves(x, "longest, none such", () -> x.longest(2), -1);
        due("orders", x.orders(), 0);
    }

    private static void shareOfNoneSuch() {
        says("19 and 20", "how many by all, as a fraction; NONE: none such, like ones");
        InnRegister x = inn("0;0;0", "01+;12+;02-");
        int[] others = {-1, 3, 7, MIN, MAX};
        for (int other : others) {
            leaves(x, "before(0, " + other + ")", () -> x.before(0, other), -1);
            leaves(x, "before(" + other + ", 0)", () -> x.before(other, 0), -1);
            leaves(x, "met(0, " + other + ")", () -> x.met(0, other), -1);
            leaves(x, "met(" + other + ", 0)", () -> x.met(other, 0), -1);
        }
        leaves(x, "before(2, 2)", () -> x.before(2, 2), -1);
        leaves(x, "met(0, 0)", () -> x.met(0, 0), -1);
        due("before", x.before(2, 1), 0);
        row(x, 1, 4);
        due("MET in all", x.met(1, 2), 0);
        row(x, 1, 1);
        due("MET in none", x.met(2, 0), 0);
        row(x, 0, 1);
    }

    private static void surePairs() {
        says("21", "how many; the ROW: the least such pair (nothing without)");
        InnRegister x = seven();
        x.first();
        due("sure of nobody", x.sure(), 0);
        row(x);
        // a comb: 1 met 0, 2, 3; 0 also 4, 3 also 5: 2 came and went while 1 was in
        InnRegister y = net(6, "10+;12+;13+;04+;35+");
        due("sure", y.sure(), 1);
        row(y, 1, 2);
        // 2 and 3 both came and went while 1 was in
        InnRegister z = net(7, "10+;12+;13+;16+;04+;65+");
        due("sure of two", z.sure(), 2);
        row(z, 1, 2);
    }

    private static void knownPairs() {
        says("22", "Pairs of which it is OPEN, and who MEET in all ORDERS that FIT, or in none (nothing without)");
        InnRegister x = seven();
        x.first();
        due("nothing is known", x.known(), 0);
        row(x);
        due("what is told is not OPEN", inn("0;0", "01+").known(), 0);
        InnRegister y = inn("0;0;0;0;1", "01-");
        y.moves(2, 2);
        y.moves(3, 2);
        y.strict(1);
        due("in none: of one ROOM", y.known(), 1);
        row(y, 2, 3, 0);
        y.tells(0, 1, 2);
        due("two such", y.known(), 2);
        row(y, 0, 1, 0);
        InnRegister z = inn("0;0;0;0", "01+;12+;23+;30+;13-");
        due("in all: else a ring", z.known(), 1);
        row(z, 0, 2, 1);
    }

    private static void placesOfGuests() {
        says("23", "NONE: others (v 0 .. GUESTS less 1)");
        InnRegister x = seven();
        x.first();
        int[] others = {-1, 7, MIN, MAX};
        for (int other : others) {
            leaves(x, "v " + other, () -> x.place(0, other), -1);
            leaves(x, "GUEST " + other, () -> x.place(other, 0), -1);
        }
        for (int v = 0; v < 7; v++) {
            due("place", x.place(6, v), 0);
            row(x, 1, 7);
        }
        InnRegister y = inn("0;0;0", "01+;12+;02-");
        y.place(1, 0);
        row(y, 1, 2);
        y.place(1, 1);
        row(y, 1, 2);
        y.place(1, 2);
        row(y, 0, 1);
    }

    // ---- beds, stays

    private static void edgesOfStays() {
        fewestBeds();
        mostInAtOnce();
        eveningsOfBits();
        longestAndShortestStay();
        tenThousandAndThat();
        leastRowOfTheCheapest();
        dearestByAll();
    }

    private static void fewestBeds() {
        says("24", "The fewest beds (as many as are in at once at most): of how many ORDERS so few are enough, by all");
        InnRegister x = seven();
        due("one bed", x.beds(), 1);
        // 7! of 14! by 2 to the 7th
        row(x, 1, 681080400 / 5040);
        InnRegister y = allAlike(7, 1);
        due("seven beds", y.beds(), 7);
        row(y, 1, 1);
        InnRegister z = inn("0;0;0", "01+;02+");
        due("two beds", z.beds(), 2);
        // of 44: 1 and 2 one behind the other (8), or all in at once (36)
        row(z, 2, 11);
    }

    private static void mostInAtOnce() {
        says("25", "they (bits: of as many the least)");
        InnRegister x = inn("0;0;0;0", "01-;23-;03-");
        due("most", x.most(), 2);
        row(x, 5);
        InnRegister y = allAlike(7, 0);
        due("one at once", y.most(), 1);
        row(y, 1);
        InnRegister z = seven();
        due("all", z.most(), 7);
        row(z, 127);
        z.tells(0, 1, 0);
        due("all but one", z.most(), 6);
        row(z, 125);
        // a line 3, 0, 1, 2: the least two are in neither at its beginning nor at its end
        InnRegister line = net(4, "30+;01+;12+");
        due("two of the line", line.most(), 2);
        row(line, 3);
    }

    private static void eveningsOfBits() {
        says("26", "GUESTS told as bits were in at once, and nobody else, at some time; NONE: bits of none such");
        InnRegister x = inn("0;0;0", "");
        x.first();
        int[] others = {8, 9, 15, 16, 128, -1, -8, MIN, MAX, 1 << 30};
        for (int other : others) {
            leaves(x, "evening(" + other + ")", () -> x.evening(other), -1);
        }
        due("nobody is in ahead of all", x.evening(0), 1);
        row(x, 1, 1);
        due("all", x.evening(7), 1);
        row(x, 2, 5);
        InnRegister y = allAlike(7, 1);
        due("all seven", y.evening(127), 1);
        row(y, 1, 1);
        // it came first, or it went last
        due("one of seven alone", y.evening(64), 1);
        row(y, 13, 49);
        // the two came ahead of the third one, or it went ahead of them
        InnRegister z = allAlike(3, 1);
        due("two of three", z.evening(3), 1);
        row(z, 5, 9);
        due("not in that ROOM", allAlike(3, 0).evening(3), 0);
    }

    private static void longestAndShortestStay() {
        says("27", "The most EVENTS of others between the coming and the going; the ROW: the fewest");
        InnRegister x = seven();
        int[] others = {-1, 7, MIN, MAX};
        for (int other : others) {
            leaves(x, "longest(" + other + ")", () -> x.longest(other), -1);
        }
        for (int g = 0; g < 7; g++) {
            due("12 EVENTS of others", x.longest(g), 12);
            row(x, 0);
        }
        InnRegister y = allAlike(7, 0);
        due("none", y.longest(6), 0);
        row(y, 0);
        InnRegister z = net(7, "01+;02+;03+;04+;05+;06+");
        due("all of them one behind the other", z.longest(0), 12);
        // the first one may have come ahead of it, the last one may go behind it
        row(z, 10);
        InnRegister all = allAlike(3, 1);
        due("comes first, goes last", all.longest(1), 4);
        row(all, 0);
    }

    private static void tenThousandAndThat() {
        says("28 and 29", "10000 and that");
        InnRegister x = seven();
        rule(x, "99");
        due("14 EVENTS of 99", x.cheapest(), 11386);
        due("14 EVENTS of 99", x.dearest(), 11386);
        row(x, 1, 1);
        rule(x, "-99");
        due("14 EVENTS of -99", x.cheapest(), 8614);
        due("14 EVENTS of -99", x.dearest(), 8614);
        rule(x, "0");
        due("14 EVENTS of 0", x.cheapest(), 10000);
        due("14 EVENTS of 0", x.dearest(), 10000);
    }

    private static void leastRowOfTheCheapest() {
        says("28", "the ROW: EVENTS (the least row of these)");
        InnRegister x = inn("0;0;0", "");
        rule(x, "0");
        x.cheapest();
        row(x, 0, 1, 2, 3, 4, 5);
        // nobody is in ahead of the first EVENT; in the least row somebody always is from then on
        rule(x, "(m=0)*9");
        due("cheapest", x.cheapest(), 10009);
        row(x, 0, 2, 1, 4, 3, 5);
        // of two the later ones by number come first
        rule(x, "t*i*c");
        due("cheapest", x.cheapest(), 10001);
        row(x, 4, 2, 0, 1, 3, 5);
        due("behind lies() it is as ahead of it", x.lies(), 0);
        due("cheapest", x.cheapest(), 10001);
        x.lies();
        due("dearest", x.dearest(), 10010);
        x.longest(0);
        due("cheapest", x.cheapest(), 10001);
    }

    private static void dearestByAll() {
        says("29", "in how many ORDERS that FIT it is so much, by all, as a fraction");
        InnRegister x = inn("0;0;0", "");
        rule(x, "t*i*c");
        // 2 must come at the fifth EVENT, 1 at the third at the latest: 8 + 2
        due("dearest", x.dearest(), 10010);
        row(x, 1, 90);
        rule(x, "m/3");
        due("all in at once", x.dearest(), 10001);
        row(x, 2, 5);
        rule(x, "-(m/3)");
        due("never all in at once", x.dearest(), 10000);
        row(x, 3, 5);
    }

    // ---- lies

    private static void edgesOfLies() {
        fewestLies();
        allAlone();
        clashOfAsFewTheLeast();
        ringsOfFourAtLeast();
        ringsWithoutChords();
        ringsOfAsFewTheLeastRow();
        noThrees();
    }

    private static void fewestLies() {
        says("30", "The fewest pairs of which it is told wrongly by an ORDER that FITS else (STRICT ROOMS as they are)");
        InnRegister x = inn("0;0;0;0;0;0;0", "");
        due("nothing is told", x.lies(), 0);
        row(x, 0, 1, 2, 3, 4, 5, 6, 7, 8, 9, 10, 11, 12, 13);
        for (int a = 0; a < 7; a++) {
            for (int b = a + 1; b < 7; b++) {
                x.tells(a, b, 1);
            }
        }
        due("all is true", x.lies(), 0);
        row(x, 0, 2, 4, 6, 8, 10, 12, 1, 3, 5, 7, 9, 11, 13);
        x.strict(1);
        due("all is a lie", x.lies(), 21);
        row(x, 0, 1, 2, 3, 4, 5, 6, 7, 8, 9, 10, 11, 12, 13);
        due("a ring of four", net(4, "01+;12+;23+;30+").lies(), 1);
        InnRegister y = net(7, "01+;12+;23+;30+;45+;56+");
        due("a ring of four beside a path", y.lies(), 1);
        y.tells(4, 6, 1);
        due("a ring of four beside three", y.lies(), 1);
    }

    private static void allAlone() {
        says("31", "each of whom can have lied alone; the ROW: how many. (All, if one FITS as it is.)");
        InnRegister x = seven();
        due("all", x.alone(), 127);
        row(x, 7);
        InnRegister y = net(5, "01+;12+;23+;30+");
        due("those of the ring", y.alone(), 15);
        row(y, 4);
        // two rings that share the pair 0, 1
        InnRegister z = net(6, "01+;12+;23+;30+;14+;45+;50+");
        due("those of both rings", z.alone(), 3);
        row(z, 2);
        InnRegister two = inn("0;0;1;1", "01+;23+");
        two.strict(1);
        due("none", two.alone(), 0);
        row(two, 0);
        two.tells(2, 3, 2);
        due("two of one ROOM", two.alone(), 3);
        row(two, 2);
        InnRegister far = net(7, "01+;02+;03+;14+;25+;36+");
        due("any of the three legs, and the middle one", far.alone(), 127);
        row(far, 7);
    }

    private static void clashOfAsFewTheLeast() {
        says("32", "they (bits: of as few the least). -2: one FITS");
        InnRegister x = seven();
        x.first();
        leaves(x, "one FITS", x::clash, -2);
        InnRegister y = inn("0;0;1;1;2;2", "01+;23+;45+");
        y.strict(1);
        due("clash", y.clash(), 2);
        row(y, 3);
        y.tells(0, 1, 0);
        due("clash", y.clash(), 2);
        row(y, 12);
        InnRegister ring = net(7, "01+;12+;23+;34+;45+;56+;60+");
        due("all seven", ring.clash(), 7);
        row(ring, 127);
        // a ring of five, a lesser one of four with greater bits
        InnRegister z = net(7, "01+;12+;23+;34+;40+;35+;56+;64+");
        due("of four", z.clash(), 4);
        row(z, 8 + 16 + 32 + 64);
    }

    private static void ringsOfFourAtLeast() {
        says("33", "The fewest GUESTS (4 at least) who MET in a ring. -2: there is no ring");
        InnRegister x = allAlike(7, 1);
        x.first();
        leaves(x, "all MET", x::ring, -2);
        InnRegister three = net(3, "01+;12+;20+");
        three.first();
        leaves(three, "three", three::ring, -2);
        InnRegister two = net(6, "01+;12+;20+;34+;45+;53+");
        two.first();
        leaves(two, "two of three", two::ring, -2);
        for (int many = 4; many <= 7; many++) {
            StringBuilder meetings = new StringBuilder();
            long[] turn = new long[many];
            for (int g = 0; g < many; g++) {
                meetings.append(g > 0 ? ";" : "").append(g).append((g + 1) % many).append("+");
                turn[g] = g;
            }
            InnRegister ring = net(many, meetings.toString());
            due("ring of " + many, ring.ring(), many);
            row(ring, turn);
        }
        InnRegister more = net(7, "01+;12+;23+;34+;40+;35+;56+;64+");
        due("a ring of four beside one of five", more.ring(), 4);
        row(more, 3, 4, 6, 5);
    }

    private static void ringsWithoutChords() {
        says("33", "of whom no two others did MET, but NOT");
        InnRegister x = inn("0;0;0;0", "01+;12+;23+;30+;02-");
        x.rests(0);
        leaves(x, "OPEN", x::ring, -2);
        x.tells(1, 3, 1);
        x.rests(0);
        leaves(x, "MET", x::ring, -2);
        x.tells(1, 3, 0);
        due("NOT", x.ring(), 4);
        x.tells(0, 2, 2);
        x.rests(0);
        leaves(x, "OPEN", x::ring, -2);
    }

    private static void ringsOfAsFewTheLeastRow() {
        says("33", "in turn, from the least one on, its lesser neighbour next (of as few the least row)");
        InnRegister x = net(5, "43+;31+;12+;24+");
        due("ring", x.ring(), 4);
        row(x, 1, 2, 4, 3);
        InnRegister y = inn(SEVEN, "12+;23+;34+;41+;13-;24-;05+;51+;16+;60+;01-;56-");
        due("the least row, not the least bits", y.ring(), 4);
        row(y, 0, 5, 1, 6);
        InnRegister z = inn(SEVEN, "03+;31+;12+;20+;01-;23-;04+;41+;24-;34-");
        due("of three rings through 0 and 1", z.ring(), 4);
        row(z, 0, 2, 1, 3);
    }

    private static void noThrees() {
        says("34", "without the third one and any whom that one MET: how many threes; the least (rising; nothing without)");
        InnRegister x = seven();
        x.first();
        due("nothing is told", x.threes(), 0);
        row(x);
        InnRegister star = net(4, "01+;02+;03+");
        due("each way leads by one whom the third one MET", star.threes(), 0);
        row(star);
        InnRegister spider = net(7, "01+;02+;03+;14+;25+;36+");
        due("three legs", spider.threes(), 1);
        row(spider, 4, 5, 6);
        InnRegister ring = net(7, "01+;12+;23+;34+;45+;56+;60+");
        due("a ring of seven", ring.threes(), 7);
        row(ring, 0, 2, 4);
        due("a ring of five", net(5, "01+;12+;23+;34+;40+").threes(), 0);
        // who MET is no three: the two ways are there, but 4 and 5 MET
        InnRegister met = net(7, "01+;02+;03+;14+;25+;36+;45+");
        due("two MET", met.threes(), 0);
    }

    // ---- who knows whom

    private static void edgesOfNets() {
        fewestRooms();
        greatestCircles();
        likeOnesAreOne();
        leastRowOfAWay();
    }

    private static void fewestRooms() {
        says("35", "no two who MET are in one (whatever ROOMS they have); by GUESTS which (0, 1, ..: the least row)");
        InnRegister x = inn("7;7;7;7;7;7;7", "");
        x.strict(1);
        due("nobody MET", x.rooms(), 1);
        row(x, 0, 0, 0, 0, 0, 0, 0);
        InnRegister y = allAlike(7, 1);
        due("all MET", y.rooms(), 7);
        row(y, 0, 1, 2, 3, 4, 5, 6);
        InnRegister z = inn("0;0;0;0;0;0", "05+;14+;23+;45+;35+");
        // 0 in the first one puts 5 into the second one, so 3 and 4 into the first one, 1 and 2 into the second one
        due("two", z.rooms(), 2);
        row(z, 0, 1, 1, 0, 0, 1);
        InnRegister ring = net(7, "01+;12+;23+;34+;45+;56+;60+");
        due("an odd ring", ring.rooms(), 3);
        row(ring, 0, 1, 0, 1, 0, 1, 2);
        due("the ROOMS stay", ring.count(5), 21);
    }

    private static void greatestCircles() {
        says("36", "they (bits: of as many the least), how many sets of as many there are");
        InnRegister x = seven();
        due("nobody MET", x.circle(), 1);
        row(x, 1, 7);
        InnRegister y = allAlike(7, 1);
        due("all MET", y.circle(), 7);
        row(y, 127, 1);
        y.tells(0, 6, 2);
        due("all but two", y.circle(), 6);
        row(y, 63, 2);
        InnRegister z = inn(SEVEN, "45+;56+;64+;13+;32+;21+;01+");
        due("two of three", z.circle(), 3);
        row(z, 14, 2);
    }

    private static void likeOnesAreOne() {
        says("37", "both counted; like ones 1. -2: there is no way; NONE: none such");
        InnRegister x = inn("0;0;0", "01+;12-");
        for (int g = 0; g < 3; g++) {
            due("like ones", x.hears(g, g), 1);
            row(x, g);
        }
        due("two", x.hears(1, 0), 2);
        row(x, 1, 0);
        leaves(x, "NOT is no way", () -> x.hears(1, 2), -2);
        leaves(x, "OPEN is no way", () -> x.hears(2, 0), -2);
        InnRegister full = seven();
        full.first();
        leaves(full, "seven of whom nobody MET", () -> full.hears(0, 6), -2);
        full.tells(5, 6, 1);
        leaves(full, "seven, the last two MET", () -> full.hears(6, 0), -2);
        int[] others = {-1, 3, MIN, MAX};
        for (int other : others) {
            leaves(x, "from none such", () -> x.hears(other, 0), -1);
            leaves(x, "to none such", () -> x.hears(0, other), -1);
            leaves(x, "none such, like ones", () -> x.hears(other, other), -1);
        }
    }

    private static void leastRowOfAWay() {
        says("37", "of as few the least row");
        InnRegister x = inn(SEVEN, "01+;12+;23+;34+;45+;56+");
        due("all", x.hears(6, 0), 7);
        row(x, 6, 5, 4, 3, 2, 1, 0);
        due("all", x.hears(0, 6), 7);
        row(x, 0, 1, 2, 3, 4, 5, 6);
        InnRegister y = inn(SEVEN, "06+;05+;04+;63+;52+;41+;31+;13+;32+;43+");
        // to 3 by 4 or by 6
        due("three", y.hears(0, 3), 3);
        row(y, 0, 4, 3);
        due("a lesser next one that leads away is none", y.hears(6, 0), 2);
        row(y, 6, 0);
        due("four", y.hears(6, 5), 3);
        row(y, 6, 0, 5);
    }

    // ---- what to ask, chances, a game

    private static void edgesOfChances() {
        nothingToAsk();
        leastPairToAsk();
        tenthsFromNoughtToTen();
        moreThanSixOpen();
        hidesNoughtToSixty();
        gamesByHand();
    }

    private static void nothingToAsk() {
        says("38", "-2: none FITS, or nothing is OPEN");
        InnRegister x = inn("0;0", "01+");
        x.first();
        leaves(x, "nothing is OPEN", x::asks, -2);
        InnRegister y = inn("0;0;0", "01+");
        y.first();
        y.strict(1);
        leaves(y, "none FITS", y::asks, -2);
    }

    private static void leastPairToAsk() {
        says("38", "the pair (the lesser first; of equal ones the least row), in how many they MET");
        InnRegister x = inn("0;0;0;0", "");
        // of 2520 two of three MET
        due("all alike", x.asks(), 1680);
        row(x, 0, 1, 1680);
        x.tells(0, 1, 1);
        x.tells(0, 2, 0);
        x.tells(0, 3, 0);
        x.tells(1, 2, 0);
        x.tells(1, 3, 0);
        // 0 and 1 MET (4 ways) stay together, 2 and 3 come ahead of them, behind them, or about them
        long all = x.orders();
        x.met(2, 3);
        long share = x.row(0) * (all / x.row(1));
        due("the one that is left", x.asks(), Math.max(share, all - share));
        row(x, 2, 3, share);
        InnRegister y = inn("0;0", "");
        y.strict(1);
        due("asked in vain", y.asks(), 2);
        row(y, 0, 1, 0);
        InnRegister z = inn("0;0;0;0", "01+;12+;23+;30+;02-");
        due("asked in vain", z.asks(), z.orders());
        row(z, 1, 3, z.orders());
    }

    private static void tenthsFromNoughtToTen() {
        says("39", "by p tenths (0 .. 10); NONE: another p");
        InnRegister x = inn("0;0", "");
        x.strict(1);
        for (int p = 0; p <= 10; p++) {
            due("likely(" + p + ")", x.likely(p), 0);
            int common = p == 10 ? 10 : BigInteger.valueOf(10 - p).gcd(BigInteger.TEN).intValue();
            row(x, (10 - p) / common, 10 / common);
        }
        int[] others = {-1, 11, MIN, MAX};
        for (int other : others) {
            leaves(x, "likely(" + other + ")", () -> x.likely(other), -1);
        }
        InnRegister many = seven();
        many.first();
        leaves(many, "another p ahead of too many", () -> many.likely(11), -1);
    }

    private static void moreThanSixOpen() {
        says("39", "-2: more than 6 pairs are OPEN");
        InnRegister x = net(7, "01+;02+");
        due("none", x.likely(5), 0);
        row(x, 1, 1);
        for (int g = 1; g <= 6; g++) {
            x.tells(0, g, 2);
        }
        due("6", x.likely(1), 0);
        // 0 meets any of six strangers: it can be
        row(x, 1, 1);
        x.tells(1, 2, 2);
        leaves(x, "7", () -> x.likely(1), -2);
        due("p is none", x.likely(-1), -1);
        InnRegister four = inn("0;0;0;0", "");
        due("all 6 of four", four.likely(1), 0);
        // 3 rings, each of 4 who MET and 2 who did NOT: 3 * 81 of a million
        row(four, 999757, 1000000);
        due("by 0", four.likely(0), 0);
        row(four, 1, 1);
        due("by 10", four.likely(10), 0);
        row(four, 1, 1);
    }

    private static void hidesNoughtToSixty() {
        says("40", "n (0 .. 60), 1 .. k (2 .. 9); NONE: others");
        InnRegister x = new InnRegister();
        x.rests(0);
        int[] ns = {-1, 61, MIN, MAX};
        for (int n : ns) {
            leaves(x, "n " + n, () -> x.game(n, 2), -1);
            leaves(x, "n " + n, () -> x.game(n, 9), -1);
        }
        int[] ks = {-1, 0, 1, 10, MIN, MAX};
        for (int k : ks) {
            leaves(x, "k " + k, () -> x.game(0, k), -1);
            leaves(x, "k " + k, () -> x.game(60, k), -1);
        }
        for (int k = 2; k <= 9; k++) {
            for (int n = 0; n <= 60; n++) {
                int asked = n;
                int most = k;
                leaves(x, "game(" + n + ", " + k + ")", () -> x.game(asked, most), leastThatWins(n, k));
            }
        }
    }

    /** Row by row: lost[left][last] is so, if whoever is to ask has lost behind that last number. */
    private static int leastThatWins(int n, int k) {
        boolean[][] lost = new boolean[n + 1][k + 1];
        for (int left = 0; left <= n; left++) {
            for (int last = 0; last <= k; last++) {
                lost[left][last] = true;
                for (int ask = 1; ask <= Math.min(k, left); ask++) {
                    lost[left][last] &= ask == last || !lost[left - ask][ask];
                }
            }
        }
        for (int ask = 1; ask <= Math.min(k, n); ask++) {
            if (lost[n - ask][ask]) {
                return ask;
            }
        }
        return 0;
    }

    private static void gamesByHand() {
        says("40", "not for as many as the other one did just now; who asks for the last one has won, who can't ask has lost");
        InnRegister x = new InnRegister();
        due("none is hidden: who can't ask has lost", x.game(0, 2), 0);
        due("the last one", x.game(1, 2), 1);
        due("one is left, but not for as many", x.game(2, 2), 1);
        due("by none", x.game(3, 2), 0);
        due("1 leaves the other one 3, not 1", x.game(4, 2), 1);
        due("1 leaves it 3 of 3, 2 leaves it 1 and then nothing, 3 leaves it 1", x.game(4, 3), 0);
        due("4 of 4", x.game(4, 4), 4);
    }

    // ---- laws, rests, years

    private static void edgesOfLaws() {
        lawOfAnEmptyText();
        lawFaults();
        lawWithNoneThatFits();
        lawLeavesTheRule();
        restsFromNoughtToTwenty();
        oneToSixtyYears();
        yearsOfLikeOnes();
        drawsAsInts();
        someOrderFitted();
    }

    private static void lawOfAnEmptyText() {
        says("41", "an empty one: none");
        InnRegister x = inn("3;3", "01+");
        rule(x, "x");
        due("law", law(x, ""), 10000 + 4 - 12);
        row(x, 10004, 10012);
        rule(x, "");
        due("both none", law(x, ""), 10000);
        row(x, 10004, 10004);
    }

    private static void lawFaults() {
        says("41", "-100000 - p: the sign at p can't stand there (as rule())");
        InnRegister x = inn("3", "");
        x.first();
        String[] bad = {"z", "+", "mm", "m+", "1234", "(((((1", "1<2<3", times("m+", 20), times("m+", 20) + "m",
            times("m+", 19) + "11z", times("m+", 19) + "1m"};
        int[] at = {0, 0, 1, 2, 3, 4, 3, 40, 40, 40, 39};
        for (int i = 0; i < bad.length; i++) {
            text(x, bad[i]);
            due("law " + bad[i], x.law(), -100000 - at[i]);
            due("THE TEXT", x.count(8), 0);
        }
        row(x, 0, 1);
        due("40 signs", law(x, times("0+", 19) + "77"), 10000 + 154 - 1);
        row(x, 10154, 10001);
        due("THE RULE is none", x.cheapest(), 10001);
    }

    private static void lawWithNoneThatFits() {
        says("41", "-2: none FITS (asked behind THE TEXT)");
        InnRegister x = noneFits();
        text(x, "z");
        due("a fault is told first", x.law(), -100000);
        text(x, "x");
        due("none FITS", x.law(), -2);
        due("THE TEXT is empty", x.count(8), 0);
        row(x, 0, 2, 1, 3);
        x.strict(0);
        due("THE RULE is what it was", x.cheapest(), 10004);
    }

    private static void lawLeavesTheRule() {
        says("41", "the least WORTH by it, less that by THE RULE: 10000 and that; the ROW: both, 10000 more");
        InnRegister x = seven();
        rule(x, "99");
        due("the least", law(x, "-99"), 10000 - 2772);
        row(x, 8614, 11386);
        rule(x, "-99");
        due("the most", law(x, "99"), 10000 + 2772);
        row(x, 11386, 8614);
        due("THE RULE", x.cheapest(), 8614);
        // each by its own cheapest ORDER
        InnRegister y = inn("0;0", "");
        rule(y, "m");
        due("the other way", law(y, "-m"), 10000 - 4 - 2);
        row(y, 9996, 10002);
    }

    private static void restsFromNoughtToTwenty() {
        says("42", "v (0 .. 20); NONE: another v");
        InnRegister x = new InnRegister();
        x.first();
        int[] others = {-1, 21, MIN, MAX};
        for (int other : others) {
            leaves(x, "rests(" + other + ")", () -> x.rests(other), -1);
        }
        for (int v = 0; v <= 20; v++) {
            int found = 0;
            long[] least = new long[0];
            for (int xy = 99; xy >= 0; xy--) {
                if (atRest(xy / 10, xy % 10, v)) {
                    found++;
                    least = new long[] {xy / 10, xy % 10};
                }
            }
            due("rests(" + v + ")", x.rests(v), found);
            row(x, least);
        }
    }

    private static int has(int own, int other, int v) {
        int left = v - own - other;
        return left >= 0 ? own + left / 2 : own > other ? -1 : 0;
    }

    private static boolean atRest(int x, int y, int v) {
        boolean rest = true;
        for (int z = 0; z <= 9; z++) {
            rest &= has(z, y, v) <= has(x, y, v) && has(z, x, v) <= has(y, x, v);
        }
        return rest;
    }

    private static void oneToSixtyYears() {
        says("43", "n times (1 .. 60); NONE: another n");
        InnRegister x = inn("0;0;0", "01+");
        x.first();
        int[] others = {-1, 0, 61, MIN, MAX};
        for (int other : others) {
            leaves(x, "n " + other, () -> x.years(1, other), -1);
        }
        int[] seeds = {0, 1, -1, 12345, -12345, MIN, MAX};
        for (int seed : seeds) {
            for (int n = 1; n <= 60; n++) {
                yearsAsDrawn(x, seed, n);
            }
        }
        due("nothing is told by it", x.pair(0, 1), 1);
    }

    /** Three who are of three ROOMS: some ORDER FITS each time. */
    private static void yearsAsDrawn(InnRegister x, int seed, int n) {
        int guests = x.count(0);
        int[][] told = new int[guests][guests];
        for (int a = 0; a < guests; a++) {
            for (int b = 0; b < guests; b++) {
                told[a][b] = a == b ? 3 : x.pair(a, b);
            }
        }
        Draws draws = new Draws(seed);
        for (int i = 0; i < n; i++) {
            int a = draws.of(guests);
            int b = draws.of(guests);
            int v = draws.of(3);
            if (a != b) {
                told[a][b] = v;
                told[b][a] = v;
            }
        }
        int[] many = new int[4];
        for (int a = 0; a < guests; a++) {
            for (int b = a + 1; b < guests; b++) {
                many[told[a][b]]++;
            }
        }
        due("years(" + seed + ", " + n + ")", x.years(seed, n), many[2]);
        row(x, many[1], n);
    }

    /** R as a number without sign below 2 to the 32nd. */
    private static final class Draws {
        private static final BigInteger ALL = BigInteger.ONE.shiftLeft(32);
        private BigInteger r;

        Draws(int seed) {
            r = BigInteger.valueOf(seed).mod(ALL);
        }

        int of(int n) {
            r = r.multiply(BigInteger.valueOf(1103515245)).add(BigInteger.valueOf(12345)).mod(ALL);
            return r.divide(BigInteger.valueOf(65536)).mod(BigInteger.valueOf(n)).intValue();
        }
    }

    private static void yearsOfLikeOnes() {
        says("43", "like ones: nothing; no DRAWS without GUESTS");
        InnRegister none = new InnRegister();
        due("without GUESTS", none.years(1, 1), 0);
        row(none, 0, 1);
        InnRegister one = inn("0", "");
        due("one alone", one.years(-7, 60), 0);
        row(one, 0, 60);
        // of two about every second time like ones are drawn; the third DRAW is made all the same
        InnRegister two = inn("0;0", "01+");
        for (int seed = 0; seed < 40; seed++) {
            yearsAsDrawn(two, seed, 1);
            yearsAsDrawn(two, seed, 2);
        }
    }

    private static void drawsAsInts() {
        says("43", "R = R times 1103515245 + 12345 (as ints; R is seed at first), (R without sign, by 65536) % n");
        InnRegister x = inn("0;1;2;3", "01+;12-");
        int[] seeds = {MIN, MIN + 1, -65536, -65535, -1, 0, 1, 65535, 65536, MAX - 1, MAX};
        for (int seed : seeds) {
            InnRegister y = inn("0;1;2", "01+;12-");
            yearsAsDrawn(y, seed, 1);
            yearsAsDrawn(y, seed, 60);
            // of four a ring can come, so only what is OPEN is told for sure
            Draws draws = new Draws(seed);
            int a = draws.of(4);
            int b = draws.of(4);
            int v = draws.of(3);
            int open = a == b ? 4 : 4 - (x.pair(a, b) == 2 ? 1 : 0) + (v == 2 ? 1 : 0);
            due("years(" + seed + ", 1)", x.years(seed, 1), open);
        }
    }

    private static void someOrderFitted() {
        says("43", "how many MET then, behind how many of these n some ORDER FITTED");
        for (int seed = 0; seed < 30; seed++) {
            InnRegister x = inn("0;0", "01+");
            x.strict(1);
            Draws draws = new Draws(seed);
            int told = 1;
            int fitted = 0;
            for (int i = 0; i < 20; i++) {
                int a = draws.of(2);
                int b = draws.of(2);
                int v = draws.of(3);
                told = a == b ? told : v;
                fitted += told == 1 ? 0 : 1;
            }
            due("years", x.years(seed, 20), told == 2 ? 1 : 0);
            row(x, told == 1 ? 1 : 0, fitted);
            due("STRICT as ahead", x.count(4), 1);
            x.moves(1, 9);
            x.years(seed, 20);
            row(x, told == 1 ? 1 : 0, 20);
        }
    }

    // ---- kept

    private static void edgesOfWhatIsKept() {
        numbersNoughtToTwo();
        nothingKept();
        guestsCameSince();
        asItWasKept();
        anotherWhat();
        noSuchNumber();
    }

    private static void numbersNoughtToTwo() {
        says("44", "kept under a number 0 .. 2: true. Refused: others");
        InnRegister x = inn("0;0", "01+");
        x.first();
        int[] others = {-1, 3, 31, 32, 33, MIN, MAX};
        for (int other : others) {
            leaves(x, "keep(" + other + ")", () -> x.keep(other) ? 1 : 0, 0);
        }
        for (int i = 0; i <= 2; i++) {
            int number = i;
            leaves(x, "keep(" + number + ")", () -> x.keep(number) ? 1 : 0, 1);
        }
        due("without GUESTS", new InnRegister().keep(0), true);
    }

    private static void nothingKept() {
        says("45", "Refused: nothing kept");
        InnRegister x = inn("0;0", "01+");
        x.first();
        int[] all = {-1, 0, 1, 2, 3, 32, 33, MIN, MAX};
        for (int i : all) {
            leaves(x, "again(" + i + ")", () -> x.again(i) ? 1 : 0, 0);
        }
        x.keep(1);
        for (int i : all) {
            if (i != 1) {
                leaves(x, "another number, again(" + i + ")", () -> x.again(i) ? 1 : 0, 0);
            }
        }
        due("again(1)", x.again(1), true);
        due("again(1) once more", x.again(1), true);
    }

    private static void guestsCameSince() {
        says("45", "Refused: GUESTS came since");
        InnRegister x = new InnRegister();
        x.keep(0);
        due("nobody came", x.again(0), true);
        guests(x, "");
        due("an empty one", x.again(0), true);
        guests(x, "x");
        due("a refused one", x.again(0), true);
        x.keep(2);
        guests(x, "0");
        x.first();
        leaves(x, "one came", () -> x.again(0) ? 1 : 0, 0);
        leaves(x, "one came", () -> x.again(2) ? 1 : 0, 0);
        x.keep(2);
        leaves(x, "another number", () -> x.again(0) ? 1 : 0, 0);
        due("kept since", x.again(2), true);
        due("they stay", x.count(0), 1);
    }

    private static void asItWasKept() {
        says("44 and 45", "What undo() brings back is kept; it is as it was kept under a number");
        InnRegister x = inn("1;2;3", "01+");
        x.keep(0);
        x.tells(0, 1, 0);
        x.moves(2, 9);
        x.keep(1);
        x.strict(1);
        x.hides(0);
        x.sheet(3, 0, 0, 0);
        x.keep(2);
        rule(x, "5");
        x.first();
        String row = numbers(x);
        due("again(1)", x.again(1), true);
        due("pair", x.pair(0, 1), 0);
        due("ROOM", x.guest(2, 0), 9);
        due("STRICT", x.count(4), 0);
        due("again(2)", x.again(2), true);
        due("pair", x.pair(0, 1), 2);
        due("ROOMS", x.count(5), 0);
        due("STRICT", x.count(4), 1);
        due("again(0)", x.again(0), true);
        due("pair", x.pair(0, 1), 1);
        due("ROOMS", x.count(5), 6);
        due("STRICT", x.count(4), 0);
        same("the ROW", numbers(x), row);
        due("THE RULE is not", x.cheapest(), 10030);
        x.moves(0, 5);
        x.keep(0);
        x.moves(0, 6);
        x.again(0);
        due("kept anew under it", x.guest(0, 0), 5);
    }

    private static void anotherWhat() {
        says("46", "-100 for another what");
        InnRegister x = inn("1;2", "");
        int[] others = {-1, 9, 100, MIN, MAX};
        for (int other : others) {
            due("count(" + other + ")", x.count(other), -100);
        }
        InnRegister y = allAlike(7, 1);
        y.strict(1);
        y.sheet(2, 7, 9, 0);
        y.lies();
        for (int i = 0; i < 20; i++) {
            y.sign(i);
        }
        int[] want = {7, 21, 0, 0, 1, 63, 15, 14, 80};
        for (int what = 0; what < want.length; what++) {
            due("full: count(" + what + ")", y.count(what), want[what]);
        }
        due("all NOT", allAlike(7, 0).count(2), 21);
        due("all OPEN", seven().count(3), 21);
    }

    private static void noSuchNumber() {
        says("47", "NoSuchElementException: none such");
        InnRegister x = new InnRegister();
        none("a new object", () -> x.row(0));
        InnRegister y = seven();
        y.first();
        int[] others = {-1, 14, 15, MIN, MAX};
        for (int other : others) {
            none("row(" + other + ")", () -> y.row(other));
        }
        due("the last one", y.row(13), 13);
        due("the first one", y.row(0), 0);
        y.most();
        due("a shorter ROW", y.row(0), 127);
        none("what the longer one had", () -> y.row(1));
    }
}
