/** For each promise of the document: ordinary inputs, the edges it names, wrong inputs. */
public final class PromiseTests extends Checks {
    public static void main(String[] args) {
        newObject();
        signAndEnd();
        guests();
        meetings();
        rule();
        ruleWorths();
        guestAndPair();
        sheet();
        tells();
        hides();
        copies();
        moves();
        strict();
        story();
        undo();
        orders();
        first();
        before();
        met();
        sure();
        known();
        place();
        beds();
        most();
        evening();
        longest();
        cheapest();
        dearest();
        lies();
        alone();
        clash();
        ring();
        threes();
        rooms();
        circle();
        hears();
        asks();
        likely();
        game();
        law();
        rests();
        years();
        keepAndAgain();
        countAndRow();
        refusedChangesNothing();
        answersKeepUp();
        exampleOfTheReadme();
        finish("promises");
    }

    private static void newObject() {
        promise = "1";
        InnRegister x = new InnRegister();
        for (int what = 0; what <= 8; what++) {
            due("count(" + what + ")", x.count(what), 0);
        }
        due("orders()", x.orders(), 1);
        due("undo()", x.undo(), -1);
        due("again(0)", x.again(0) ? 1 : 0, 0);
        none("guest(0, 0)", () -> x.guest(0, 0));
    }

    private static void signAndEnd() {
        promise = "2";
        InnRegister x = new InnRegister();
        for (int i = 1; i <= 20; i++) {
            due("sign " + i, x.sign(0x303b303b), 4 * i);
        }
        due("sign 21", x.sign(0), -1);
        due("count(8)", x.count(8), 80);
        promise = "3";
        due("end(81)", x.end(81) ? 1 : 0, 0);
        due("end(-1)", x.end(-1) ? 1 : 0, 0);
        due("end(80)", x.end(80) ? 1 : 0, 1);
        due("end(77)", x.end(77) ? 1 : 0, 1);
        promise = "2";
        due("sign beyond 80", x.sign(0), -1);
        due("count(8)", x.count(8), 77);
        promise = "3";
        due("end(76)", x.end(76) ? 1 : 0, 1);
        promise = "2";
        due("sign up to 80", x.sign(0), 80);
        promise = "3";
        due("end(5)", x.end(5) ? 1 : 0, 1);
        due("guests of 0;0;0", x.guests(), 3);
        due("end(0)", x.end(0) ? 1 : 0, 1);
        due("end(1)", x.end(1) ? 1 : 0, 0);
        promise = "2";
        // the highest byte comes first, and signs above 127 are no digits
        due("sign", x.sign(0xb17b3132), 4);
        due("end(1)", x.end(1) ? 1 : 0, 1);
        due("guests()", x.guests(), -1);
    }

    private static void guests() {
        promise = "4";
        InnRegister x = new InnRegister();
        due("empty", guests(x, ""), 0);
        due("a digit missing at the end", guests(x, "1;"), -3);
        due("no digit", guests(x, ";"), -1);
        due("two digits", guests(x, "12"), -2);
        due("letter behind", guests(x, "1;2x"), -4);
        due("nothing came", x.count(0), 0);
        due("three", guests(x, "9;0;4"), 3);
        due("room", x.guest(2, 0), 4);
        due("count(5)", x.count(5), 13);
        due("too many", guests(x, "1;1;1;1;1"), -9);
        due("nothing came", x.count(0), 3);
        due("too many, no digit there", guests(x, "1;1;1;1;x"), -9);
        due("too many, the end there", guests(x, "1;1;1;1;"), -9);
        due("too long, but no room before", guests(x, "1;1;1;1;1;1;1;1"), -9);
        due("four more", guests(x, "1;2;3;5"), 4);
        due("room of 6", x.guest(6, 0), 5);
        due("full", guests(x, "1"), -1);
        due("full, empty", guests(x, ""), 0);
        due("open to all", x.guest(6, 3), 63);
        x = new InnRegister();
        due("14 signs", guests(x, "1;1;1;1;1;1;1;"), -14);
        due("15 signs", guests(x, "1;1;1;1;1;1;1;1"), -14);
        due("14 signs, a fault ahead", guests(x, "1;1;1;1;1;1;;1"), -13);
        due("13 signs", guests(x, "1;1;1;1;1;1;1"), 7);
        due("THE TEXT is empty", x.count(8), 0);
        x = inn("1;2", "01+");
        due("one more", guests(x, "3"), 1);
        due("told stays", x.pair(0, 1), 1);
        due("new one is open", x.guest(2, 3), 3);
    }

    private static void meetings() {
        promise = "5";
        InnRegister x = inn("1;2;3", "");
        due("two", meetings(x, "01+;12-"), 2);
        due("the same", meetings(x, "01+;21-"), 0);
        due("later ones instead", meetings(x, "01-;01?;10+"), 0);
        due("open", meetings(x, "01?"), 1);
        due("count(6)", x.count(6), 2);
        due("empty", meetings(x, ""), 0);
        due("first not there", meetings(x, "31+"), -1);
        due("second not there", meetings(x, "13+"), -2);
        due("like ones", meetings(x, "11+"), -2);
        due("no such sign", meetings(x, "12*"), -3);
        due("ends", meetings(x, "12"), -3);
        due("ends behind ;", meetings(x, "12+;"), -5);
        due("no ;", meetings(x, "12+02+"), -4);
        due("second line", meetings(x, "12+;02+;0:"), -10);
        due("nothing came", x.pair(1, 2), 0);
        due("79 signs", meetings(x, times("01+;", 19) + "01-"), 1);
        due("80 signs", meetings(x, times("01+;", 20)), -80);
        due("80 signs, a fault at 78", meetings(x, times("01+;", 19) + "01;;"), -79);
        due("nothing came", x.pair(0, 1), 0);
        InnRegister one = inn("5", "");
        due("one guest", meetings(one, "00+"), -2);
        due("one guest", meetings(one, "01+"), -2);
        due("one guest", meetings(one, "10+"), -1);
    }

    private static void rule() {
        promise = "6";
        InnRegister x = new InnRegister();
        String[] good = {"", "m", "0", "999", "-m", "---m", "1<2", "(1<2)<3", "1+2-3*4/5", "((((1))))", "1--1",
            "i+x+c+m+k+t+f", "2*-3", "(m)", "-(1)", "1<-2", "(1=1)=(2=2)", "007"};
        for (String one : good) {
            due("rule " + one, rule(x, one), 0);
        }
        due("unknown", rule(x, "z"), -1);
        due("end behind +", rule(x, "m+"), -3);
        due("4 digits", rule(x, "1234"), -4);
        due("5 in one another", rule(x, "(((((1)))))"), -5);
        due("comparison behind comparison", rule(x, "1<2<3"), -4);
        due("comparison behind comparison", rule(x, "1<2=3"), -4);
        due("open (", rule(x, "(m"), -3);
        due("empty ( )", rule(x, "()"), -2);
        due("lonely )", rule(x, "m)"), -2);
        due("two things", rule(x, "mm"), -2);
        due("thing behind number", rule(x, "1m"), -2);
        due("number behind thing", rule(x, "m1"), -2);
        due("+ ahead", rule(x, "+m"), -1);
        due("* twice", rule(x, "m**m"), -3);
        due("- alone", rule(x, "-"), -2);
        due("blank", rule(x, "m +m"), -2);
        due("2 in ( )", rule(x, "(1<2<3)"), -5);
        due("40 signs", rule(x, times("m+", 19) + "mm"), -40);
        due("40 signs", rule(x, times("m+", 19) + "-m"), 0);
        due("40 signs, ends early", rule(x, times("m+", 20)), -41);
        due("41 signs", rule(x, times("m+", 20) + "m"), -41);
        due("41 signs, could end", rule(x, times("m+", 19) + "-m" + "+"), -41);
        due("41 signs, bad one behind", rule(x, times("m+", 19) + "-m" + "z"), -41);
        due("50 signs, a fault ahead", rule(x, times("m+", 10) + "z" + times("+m", 15)), -21);
        due("THE TEXT is empty", x.count(8), 0);
        InnRegister y = inn("3", "");
        rule(y, "7");
        due("refused", rule(y, "7+"), -3);
        due("THE RULE is what it was", y.cheapest(), 10014);
        due("none", rule(y, ""), 0);
        due("m again", y.cheapest(), 10001);
    }

    /** One guest of room 3 comes (m 0, k 0, t 0) and goes (m 1, k 0, t 1). */
    private static void ruleWorths() {
        promise = "6";
        InnRegister x = inn("3", "");
        String[] rules = {"i", "x", "c", "m", "k", "t", "f", "1+2*3", "(1+2)*3", "7-2-1", "7/2", "-7/2", "7/0",
            "8/2/2", "2-3", "-x", "--x", "1<2", "2<1", "2>1", "2=2", "2=1", "3+4>6", "999", "-999",
            "999*999*999*999", "1-1=0", "2*-3", "t-c", "-(x-1)", "7-(2-1)", "x*x>8", "-2*-2"};
        int[] worths = {0, 6, 1, 1, 0, 1, 0, 14, 18, 8, 6, -6, 0, 4, -2, -6, 6, 2, 0, 2, 2, 0, 2, 198, -198,
            2 * Math.max(-99, Math.min(99, 999 * 999 * 999 * 999)), 2, -12, 0, -4, 12, 2, 8};
        for (int i = 0; i < rules.length; i++) {
            due("rule " + rules[i], rule(x, rules[i]), 0);
            due("worth by " + rules[i], x.cheapest(), 10000 + worths[i]);
        }
        // two who met, rooms 2 and 5: i x of each, f of both, k and t as they come and go
        InnRegister y = inn("2;5", "01+");
        rule(y, "f");
        due("worth by f", y.cheapest(), 10004);
        rule(y, "k");
        due("worth by k", y.cheapest(), 10001);
        rule(y, "t");
        due("worth by t", y.cheapest(), 10006);
        rule(y, "x*c");
        due("worth by x*c", y.cheapest(), 10007);
        rule(y, "i");
        due("worth by i", y.cheapest(), 10002);
    }

    private static void guestAndPair() {
        promise = "7";
        InnRegister x = inn("4;5;6", "01+;02-");
        due("room", x.guest(1, 0), 5);
        due("met", x.guest(0, 1), 2);
        due("not", x.guest(0, 2), 4);
        due("open", x.guest(0, 3), 0);
        due("open", x.guest(1, 3), 4);
        due("open", x.guest(2, 3), 2);
        none("guest(3, 0)", () -> x.guest(3, 0));
        none("guest(-1, 0)", () -> x.guest(-1, 0));
        none("guest(0, -1)", () -> x.guest(0, -1));
        none("guest(0, 4)", () -> x.guest(0, 4));
        promise = "8";
        due("pair", x.pair(1, 0), 1);
        due("pair", x.pair(2, 0), 0);
        due("pair", x.pair(1, 2), 2);
        none("pair(1, 1)", () -> x.pair(1, 1));
        none("pair(0, 3)", () -> x.pair(0, 3));
        none("pair(-1, 0)", () -> x.pair(-1, 0));
        none("pair(0, MAX)", () -> x.pair(0, Integer.MAX_VALUE));
    }

    private static void sheet() {
        promise = "9";
        InnRegister x = inn("4;5;6", "");
        due("bytes", x.sheet(0, 3, 255, 3), 0 + 2 + 5);
        due("room", x.guest(0, 0), 0);
        due("room", x.guest(2, 0), 5);
        due("bytes", x.sheet(0, 3, 257, 1), 1 + 2 + 3);
        due("shorts", x.sheet(1, 3, 65536 + 7, 1), 7 + 8 + 9);
        due("shorts", x.sheet(1, 3, 32768, 1), 0);
        due("ints", x.sheet(2, 3, 65536 + 7, 1), 27);
        due("ints", x.sheet(2, 3, Integer.MAX_VALUE, 1), 9);
        due("fewer", x.sheet(2, 1, 3, 0), 3);
        due("the rest 0", x.guest(1, 0), 0);
        due("more", x.sheet(2, 7, 3, 0), 9);
        due("none", x.sheet(2, 0, 3, 0), 0);
        x.sheet(2, 3, 3, 0);
        due("n above 7", x.sheet(0, 8, 1, 1), -1);
        due("kind 3, n above 7", x.sheet(3, 8, 1, 1), -1);
        due("kind 4", x.sheet(4, 1, 1, 1), -1);
        due("kind -1, n below 0", x.sheet(-1, -1, 1, 1), -1);
        due("n below 0", x.sheet(1, -1, 1, 1), -2);
        due("nothing changed", x.count(5), 9);
        due("missing, n below 0", x.sheet(3, -1, 1, 1), -3);
        due("all 0", x.count(5), 0);
        due("it can't be undone", x.count(6), 0);
    }

    private static void tells() {
        promise = "10";
        InnRegister x = inn("1;2;3", "");
        due("tells", x.tells(0, 1, 1), 12);
        due("tells", x.tells(1, 0, 0), 11);
        due("tells", x.tells(0, 1, 2), 10);
        due("told so", x.tells(0, 1, 2), -2);
        due("v", x.tells(0, 1, 3), -1);
        due("v", x.tells(0, 1, -1), -1);
        due("like", x.tells(1, 1, 1), -1);
        due("others", x.tells(0, 3, 1), -1);
        due("others", x.tells(-1, 0, 1), -1);
        due("steps", x.count(6), 3);
    }

    private static void hides() {
        promise = "11";
        InnRegister x = inn("1;2;3", "01+;12-");
        due("hides", x.hides(1), 2);
        due("open", x.count(3), 3);
        due("open of all", x.hides(1), -2);
        due("none such", x.hides(3), -1);
        due("none such", x.hides(-1), -1);
        due("steps", x.count(6), 2);
        InnRegister one = inn("1", "");
        due("alone", one.hides(0), -2);
    }

    private static void copies() {
        promise = "12";
        InnRegister x = inn("1;2;3;4", "01+;02-;03+;13+");
        due("copies", x.copies(0, 1), 1);
        due("copied", x.pair(1, 2), 0);
        due("stays", x.pair(0, 1), 1);
        due("same", x.pair(1, 3), 1);
        due("of none", x.copies(0, 1), -2);
        due("of open ones", x.copies(2, 3), 2);
        due("open is copied: nothing of 2", x.pair(3, 0), 0);
        due("like", x.copies(1, 1), -1);
        due("none such", x.copies(0, 4), -1);
        due("none such", x.copies(-1, 0), -1);
        InnRegister two = inn("1;2", "01+");
        due("no others", two.copies(0, 1), -2);
    }

    private static void moves() {
        promise = "13";
        InnRegister x = inn("1;2", "");
        due("moves", x.moves(0, 9), 1);
        due("has it", x.moves(0, 9), -2);
        due("moves", x.moves(0, 0), 9);
        due("room 10", x.moves(0, 10), -1);
        due("room -1", x.moves(0, -1), -1);
        due("none such", x.moves(2, 1), -1);
        due("room", x.guest(0, 0), 0);
        due("steps", x.count(6), 2);
    }

    private static void strict() {
        promise = "14";
        InnRegister x = inn("1;1", "");
        due("strict(1)", x.strict(1), 0);
        due("strict(1)", x.strict(1), 1);
        due("orders", x.orders(), 2);
        due("strict(0)", x.strict(0), 1);
        due("orders", x.orders(), 6);
        due("strict(2)", x.strict(2), -1);
        due("strict(-1)", x.strict(-1), -1);
        due("steps", x.count(6), 3);
        x.tells(0, 1, 1);
        x.strict(1);
        due("told to have met in one room", x.orders(), 0);
    }

    private static void story() {
        promise = "15";
        InnRegister x = inn("1;2;3", "");
        due("all", story(x, "m01+m12-c01m02-h2r05s1"), 7);
        row(x, 0, 2);
        due("one step", x.count(6), 1);
        due("refused", story(x, "m01-m01-m02+"), 1);
        row(x, 1, 2);
        due("told", x.pair(0, 1), 0);
        due("not told", x.pair(0, 2), 2);
        due("refused at once", story(x, "m03+"), 0);
        row(x, 1, 2);
        due("like ones", story(x, "m11+"), 0);
        due("no step", x.count(6), 2);
        due("strict again is done", story(x, "s1"), 1);
        due("a step", x.count(6), 3);
        due("empty", story(x, ""), 0);
        row(x, 0, 2);
        String[] bad = {"x", "m", "m0", "m01", "m01*", "mx", "m0x", "h", "hx", "c1", "c1x", "r", "r1x", "s2", "s", "h0x",
            "m01-;", "h11"};
        int[] at = {0, 1, 2, 3, 3, 1, 2, 1, 1, 2, 2, 1, 2, 1, 1, 2, 4, 2};
        for (int i = 0; i < bad.length; i++) {
            due("story " + bad[i], story(x, bad[i]), -1 - at[i]);
        }
        due("nothing is done", story(x, "m02+x"), -5);
        due("not told", x.pair(0, 2), 2);
        row(x, 0, 2);
        due("60 signs", story(x, times("m02+m02-", 7) + "m02?"), 15);
        due("60 signs, ends early", story(x, times("s0", 29) + "m0"), -61);
        due("62 signs", story(x, times("s0", 31)), -61);
        due("61 signs, bad one behind", story(x, times("s0", 30) + "x"), -61);
        due("62 signs in the middle", story(x, times("s0", 29) + "m01+"), -61);
        due("62 signs, a fault ahead", story(x, times("s0", 20) + "z" + times("s0", 11)), -41);
        due("THE TEXT is empty", x.count(8), 0);
    }

    private static void undo() {
        promise = "16";
        InnRegister x = inn("1;2;3", "01+;02-");
        x.tells(1, 2, 1);
        x.hides(0);
        x.copies(2, 0);
        x.moves(1, 7);
        x.strict(1);
        story(x, "m01-r25s0");
        due("count(6)", x.count(6), 7);
        due("undo story", x.undo(), 6);
        due("pair", x.pair(0, 1), 1);
        due("room", x.guest(2, 0), 3);
        due("strict", x.count(4), 1);
        due("undo strict", x.undo(), 5);
        due("strict", x.count(4), 0);
        due("undo moves", x.undo(), 4);
        due("room", x.guest(1, 0), 2);
        due("undo copies", x.undo(), 3);
        due("pair", x.pair(0, 1), 2);
        due("undo hides", x.undo(), 2);
        due("pair", x.pair(0, 2), 0);
        due("undo tells", x.undo(), 1);
        due("pair", x.pair(1, 2), 2);
        due("undo meetings", x.undo(), 0);
        due("open", x.count(3), 3);
        due("none", x.undo(), -1);
        for (int i = 0; i < 20; i++) {
            x.moves(0, i % 2 == 0 ? 5 : 6);
        }
        due("15 are kept", x.count(6), 15);
        for (int i = 14; i >= 0; i--) {
            due("undo", x.undo(), i);
        }
        due("room of the fifth", x.guest(0, 0), 5);
        due("none", x.undo(), -1);
        x.tells(0, 1, 1);
        due("empty guests()", guests(x, ""), 0);
        due("kept", x.count(6), 1);
        due("refused guests()", guests(x, "x"), -1);
        due("kept", x.count(6), 1);
        due("guests()", guests(x, "1"), 1);
        due("forgotten", x.count(6), 0);
        x.tells(0, 1, 0);
        x.sheet(2, 4, 9, 0);
        due("undo brings ROOMS back as they were ahead of it", x.undo(), 0);
        due("rooms", x.count(5), 5 + 2 + 3 + 1);
        rule(x, "5");
        due("rule() is no step", x.count(6), 0);
    }

    private static void orders() {
        promise = "17";
        due("without", new InnRegister().orders(), 1);
        due("1", inn("0", "").orders(), 1);
        due("2", inn("0;0", "").orders(), 6);
        due("3", inn("0;0;0", "").orders(), 90);
        due("7", inn("0;0;0;0;0;0;0", "").orders(), 681080400L);
        due("met", inn("0;0", "01+").orders(), 4);
        due("not", inn("0;0", "01-").orders(), 2);
        due("ring", inn("0;0;0;0", "01+;12+;23+;30+;02-;13-").orders(), 0);
        // a path 0 - 1 - 2: 0 and 2 at both ends of 1, each of whom may come or go on either side
        due("path", inn("0;0;0", "01+;12+;02-").orders(), 8);
        InnRegister x = inn("0;0;0;0;0;0;0", "");
        x.strict(1);
        due("all in one room", x.orders(), 5040);
    }

    private static void first() {
        promise = "18";
        InnRegister x = inn("0;0", "01+");
        due("first", x.first(), 4);
        row(x, 0, 2, 1, 3);
        x.tells(0, 1, 0);
        due("first", x.first(), 4);
        row(x, 0, 1, 2, 3);
        InnRegister y = inn("0;0;0", "02+;12+;01-");
        due("first", y.first(), 6);
        row(y, 0, 4, 1, 2, 3, 5);
        InnRegister z = inn("0;0", "01+");
        z.first();
        z.strict(1);
        due("none", z.first(), -2);
        row(z, 0, 2, 1, 3);
        InnRegister none = new InnRegister();
        due("without", none.first(), 0);
        row(none);
    }

    private static void before() {
        promise = "19";
        InnRegister x = inn("0;0;0", "01+;12+;02-");
        due("before", x.before(0, 2), 0);
        row(x, 1, 2);
        // by the path 1 comes ahead of both in 4 of 8 (either end first): 0 first in 4, 2 first in 4
        due("before", x.before(1, 0), 0);
        row(x, 3, 4);
        due("before", x.before(0, 1), 0);
        row(x, 1, 4);
        due("like", x.before(1, 1), -1);
        due("none such", x.before(0, 3), -1);
        due("none such", x.before(-1, 0), -1);
        InnRegister y = inn("0;0", "01+");
        y.strict(1);
        due("none fits", y.before(0, 1), -2);
        due("none such first", y.before(0, 2), -1);
    }

    private static void met() {
        promise = "20";
        InnRegister x = inn("0;0;0", "");
        due("met", x.met(0, 1), 0);
        row(x, 2, 3);
        due("met", x.met(2, 1), 0);
        row(x, 2, 3);
        x.tells(0, 1, 0);
        due("met", x.met(0, 1), 0);
        row(x, 0, 1);
        x.tells(0, 1, 1);
        due("met", x.met(0, 1), 0);
        row(x, 1, 1);
        due("like", x.met(0, 0), -1);
        due("none such", x.met(0, 7), -1);
        x.strict(1);
        due("none fits", x.met(0, 1), -2);
    }

    private static void sure() {
        promise = "21";
        InnRegister x = inn("0;0", "");
        due("sure", x.sure(), 0);
        row(x);
        // 0 met 1, 2 and 3, strangers to one another; 1 and 3 met others whom 0 did not: so 2 was in
        // between them, and only while 0 was
        InnRegister y = inn("0;0;0;0;0;0", "01+;02+;03+;14+;35+");
        for (int a = 0; a < 6; a++) {
            for (int b = a + 1; b < 6; b++) {
                if (y.pair(a, b) == 2) {
                    y.tells(a, b, 0);
                }
            }
        }
        due("sure", y.sure(), 1);
        row(y, 0, 2);
        // the same with 0 and 2 changed
        InnRegister z = inn("0;0;0;0;0;0", "21+;20+;23+;14+;35+");
        for (int a = 0; a < 6; a++) {
            for (int b = a + 1; b < 6; b++) {
                if (z.pair(a, b) == 2) {
                    z.tells(a, b, 0);
                }
            }
        }
        due("sure", z.sure(), 1);
        row(z, 2, 0);
        y.strict(1);
        due("none fits", y.sure(), -2);
        due("none", new InnRegister().sure(), 0);
    }

    private static void known() {
        promise = "22";
        InnRegister x = inn("0;0;1", "");
        due("known", x.known(), 0);
        row(x);
        x.strict(1);
        due("in one room", x.known(), 1);
        row(x, 0, 1, 0);
        // a ring of four with one pair across told NOT: the other one must have met
        InnRegister y = inn("0;0;0;0", "01+;12+;23+;30+;02-");
        due("known", y.known(), 1);
        row(y, 1, 3, 1);
        y.tells(1, 3, 0);
        due("none fits", y.known(), -2);
        row(y, 1, 3, 1);
    }

    private static void place() {
        promise = "23";
        InnRegister x = inn("0;0;0", "");
        due("place", x.place(0, 0), 0);
        row(x, 1, 3);
        due("place", x.place(2, 2), 0);
        row(x, 1, 3);
        InnRegister y = inn("0;0;0", "01+;12+;02-");
        due("the middle one is never last", y.place(1, 2), 0);
        row(y, 0, 1);
        due("an end", y.place(0, 2), 0);
        row(y, 1, 2);
        due("v", x.place(0, 3), -1);
        due("v", x.place(0, -1), -1);
        due("guest", x.place(3, 0), -1);
        y.tells(0, 2, 1);
        y.strict(1);
        due("none fits", y.place(0, 0), -2);
    }

    private static void beds() {
        promise = "24";
        InnRegister x = inn("0;0;0", "");
        due("beds", x.beds(), 1);
        row(x, 1, 15);
        x.tells(0, 1, 1);
        due("beds", x.beds(), 2);
        // of the 60 orders by which 0 and 1 meet, 3 are in at once in 36
        row(x, 2, 5);
        x.strict(1);
        due("none fits", x.beds(), -2);
        InnRegister y = inn("0;0;0", "01+;12+;02+");
        due("beds", y.beds(), 3);
        row(y, 1, 1);
    }

    private static void most() {
        promise = "25";
        InnRegister x = inn("0;0;0", "01-");
        due("most", x.most(), 2);
        row(x, 5);
        x.tells(0, 2, 0);
        due("most", x.most(), 2);
        row(x, 6);
        x.tells(1, 2, 0);
        due("most", x.most(), 1);
        row(x, 1);
        InnRegister y = inn("0;0;0;0;0;0;0", "");
        due("most", y.most(), 7);
        row(y, 127);
        y.tells(0, 1, 1);
        y.strict(1);
        due("none fits", y.most(), -2);
    }

    private static void evening() {
        promise = "26";
        InnRegister x = inn("0;0", "");
        due("nobody", x.evening(0), 1);
        row(x, 1, 1);
        due("0 alone", x.evening(1), 1);
        row(x, 5, 6);
        due("both", x.evening(3), 1);
        row(x, 2, 3);
        x.tells(0, 1, 0);
        due("both", x.evening(3), 0);
        row(x, 0, 1);
        due("none such", x.evening(4), -1);
        due("none such", x.evening(-1), -1);
        x.tells(0, 1, 1);
        x.strict(1);
        due("none fits", x.evening(0), -2);
    }

    private static void longest() {
        promise = "27";
        InnRegister x = inn("0;0;0", "01+;12+;02-");
        due("the middle one", x.longest(1), 4);
        row(x, 2);
        // 1 came while it was in, or ahead of it
        due("an end", x.longest(0), 1);
        row(x, 0);
        InnRegister y = inn("0;0;0;0;0;0;0", "");
        due("all others", y.longest(6), 12);
        row(y, 0);
        due("none such", y.longest(7), -1);
        due("none such", y.longest(-1), -1);
        y.tells(0, 1, 1);
        y.strict(1);
        due("none fits", y.longest(0), -2);
    }

    private static void cheapest() {
        promise = "28";
        InnRegister x = inn("0;0;0", "");
        due("cheapest", x.cheapest(), 10003);
        row(x, 0, 1, 2, 3, 4, 5);
        rule(x, "-m");
        due("cheapest", x.cheapest(), 10000 - 9);
        row(x, 0, 2, 4, 1, 3, 5);
        rule(x, "-i*t*c");
        due("late ones first", x.cheapest(), 10000 - 10);
        row(x, 0, 1, 2, 3, 4, 5);
        rule(x, "i*t*c");
        due("late ones first", x.cheapest(), 10001);
        row(x, 4, 2, 0, 1, 3, 5);
        x.tells(0, 1, 1);
        x.strict(1);
        due("none fits", x.cheapest(), -2);
        InnRegister none = new InnRegister();
        due("without", none.cheapest(), 10000);
        row(none);
    }

    private static void dearest() {
        promise = "29";
        InnRegister x = inn("0;0;0", "");
        due("dearest", x.dearest(), 10009);
        row(x, 2, 5);
        rule(x, "1");
        due("all alike", x.dearest(), 10006);
        row(x, 1, 1);
        rule(x, "-m");
        due("below 0", x.dearest(), 10000 - 3);
        row(x, 1, 15);
        x.tells(0, 1, 1);
        x.strict(1);
        due("none fits", x.dearest(), -2);
    }

    private static void lies() {
        promise = "30";
        InnRegister x = inn("0;0;0;0", "01+;12+;23+;30+;02-;13-");
        due("lies", x.lies(), 1);
        row(x, 0, 2, 1, 4, 3, 6, 5, 7);
        InnRegister y = inn("0;0", "01+");
        due("none", y.lies(), 0);
        row(y, 0, 2, 1, 3);
        y.strict(1);
        due("rooms stay strict", y.lies(), 1);
        row(y, 0, 1, 2, 3);
        InnRegister z = new InnRegister();
        due("without", z.lies(), 0);
        row(z);
    }

    private static void alone() {
        promise = "31";
        InnRegister x = inn("0;0;0;0;0", "01+;12+;23+;30+;02-;13-");
        due("alone", x.alone(), 15);
        row(x, 4);
        x.tells(0, 1, 2);
        due("all", x.alone(), 31);
        row(x, 5);
        InnRegister y = inn("0;0;1;1", "01+;23+");
        y.strict(1);
        due("none alone", y.alone(), 0);
        row(y, 0);
    }

    private static void clash() {
        promise = "32";
        InnRegister x = inn("0;0;0;0;0", "01+;12+;23+;30+;02-;13-");
        due("clash", x.clash(), 4);
        row(x, 15);
        x.tells(3, 4, 1);
        x.moves(3, 1);
        x.moves(4, 1);
        x.strict(1);
        // in room 0: 0, 1, 2, of whom 0 and 1 met, and so did 1 and 2
        due("clash", x.clash(), 2);
        row(x, 3);
        x.tells(0, 1, 2);
        due("clash", x.clash(), 2);
        row(x, 6);
        x.tells(1, 2, 2);
        due("clash", x.clash(), 2);
        row(x, 24);
        x.tells(3, 4, 0);
        due("fits", x.clash(), -2);
        row(x, 24);
    }

    private static void ring() {
        promise = "33";
        InnRegister x = inn("0;0;0;0;0", "13+;32+;20+;01+;03-");
        due("open across", x.ring(), -2);
        x.tells(1, 2, 0);
        due("ring", x.ring(), 4);
        row(x, 0, 1, 3, 2);
        InnRegister five = inn("0;0;0;0;0", "02+;24+;41+;13+;30+;01-;04-;21-;23-;43-");
        due("ring of 5", five.ring(), 5);
        row(five, 0, 2, 4, 1, 3);
        InnRegister three = inn("0;0;0;0", "01+;12+;20+");
        due("three are no ring", three.ring(), -2);
        InnRegister two = inn("0;0;0;0;0;0", "01+;12+;20+;34+;45+;53+;03-;04-;05-;13-;14-;15-;23-;24-;25-");
        due("two threes are no ring", two.ring(), -2);
        InnRegister seven = inn("0;0;0;0;0;0;0", "01+;12+;23+;34+;45+;56+;60+");
        for (int a = 0; a < 7; a++) {
            for (int b = a + 2; b < 7; b++) {
                if (a != 0 || b != 6) {
                    seven.tells(a, b, 0);
                }
            }
        }
        due("ring of 7", seven.ring(), 7);
        row(seven, 0, 1, 2, 3, 4, 5, 6);
        // {0, 1, 4, 5} comes ahead by its bits, {0, 1, 2, 3} in turn 0 1 2 3 by its row
        InnRegister both = inn("0;0;0;0;0;0", "01+;12+;23+;30+;02-;13-;14+;45+;50+;04-;15-");
        due("least row", both.ring(), 4);
        row(both, 0, 1, 2, 3);
    }

    private static void threes() {
        promise = "34";
        // a spider: 0 in the middle, legs 1-4, 2-5, 3-6
        InnRegister x = inn("0;0;0;0;0;0;0", "01+;02+;03+;14+;25+;36+");
        due("nothing told NOT", x.threes(), 0);
        row(x);
        for (int a = 0; a < 7; a++) {
            for (int b = a + 1; b < 7; b++) {
                if (x.pair(a, b) == 2) {
                    x.tells(a, b, 0);
                }
            }
        }
        due("threes", x.threes(), 1);
        row(x, 4, 5, 6);
        due("no order fits", x.orders(), 0);
        due("no ring", x.ring(), -2);
        int[][] open = {{4, 5}, {4, 6}, {5, 6}};
        for (int[] two : open) {
            x.tells(two[0], two[1], 2);
            due("open", x.threes(), 0);
            row(x);
            x.tells(two[0], two[1], 0);
        }
        InnRegister six = inn("0;0;0;0;0;0", "01+;12+;23+;34+;45+;50+;02-;24-;40-;13-;35-;51-");
        due("a ring of 6", six.threes(), 2);
        row(six, 0, 2, 4);
    }

    private static void rooms() {
        promise = "35";
        InnRegister x = inn("7;7;7;7;7", "01+;12+;23+;34+;40+");
        due("ring of 5", x.rooms(), 3);
        row(x, 0, 1, 0, 1, 2);
        InnRegister y = inn("7;7;7", "");
        due("nobody met", y.rooms(), 1);
        row(y, 0, 0, 0);
        InnRegister z = inn("7;7;7;7", "02+;13+;03+");
        due("two", z.rooms(), 2);
        row(z, 0, 0, 1, 1);
        InnRegister all = inn("1;2;3", "01+;12+;02+");
        due("all met", all.rooms(), 3);
        row(all, 0, 1, 2);
        InnRegister none = new InnRegister();
        due("without", none.rooms(), 0);
        row(none);
    }

    private static void circle() {
        promise = "36";
        InnRegister x = inn("0;0;0;0", "");
        due("circle", x.circle(), 1);
        row(x, 1, 4);
        x.tells(2, 3, 1);
        due("circle", x.circle(), 2);
        row(x, 12, 1);
        x.tells(1, 3, 1);
        due("circle", x.circle(), 2);
        row(x, 10, 2);
        x.tells(1, 2, 1);
        due("circle", x.circle(), 3);
        row(x, 14, 1);
    }

    private static void hears() {
        promise = "37";
        InnRegister x = inn("0;0;0;0;0", "02+;01+;13+;23+;34-");
        due("hears", x.hears(0, 3), 3);
        row(x, 0, 1, 3);
        due("hears", x.hears(3, 0), 3);
        row(x, 3, 1, 0);
        due("hears", x.hears(1, 2), 3);
        row(x, 1, 0, 2);
        due("like", x.hears(4, 4), 1);
        row(x, 4);
        due("no way", x.hears(0, 4), -2);
        row(x, 4);
        due("none such", x.hears(0, 5), -1);
        due("none such", x.hears(-1, 0), -1);
        due("none such", x.hears(5, 5), -1);
    }

    private static void asks() {
        promise = "38";
        InnRegister x = inn("0;0;0", "");
        due("asks", x.asks(), 60);
        row(x, 0, 1, 60);
        x.tells(0, 1, 1);
        x.tells(0, 2, 1);
        due("asks", x.asks(), 36);
        row(x, 1, 2, 36);
        x.tells(1, 2, 0);
        due("nothing open", x.asks(), -2);
        InnRegister y = inn("0;0;1", "01+");
        y.strict(1);
        due("none fits", y.asks(), -2);
        y.tells(0, 1, 2);
        // 0 and 1 one behind the other: of 15 places of 2 it met the first one by 8, and so the second one
        due("one room tells nothing", y.asks(), 16);
        row(y, 0, 2, 16);
        due("without", new InnRegister().asks(), -2);
    }

    private static void likely() {
        promise = "39";
        InnRegister x = inn("0;0;0;0", "01+;12+;23+;30+");
        due("likely", x.likely(3), 0);
        row(x, 51, 100);
        due("likely", x.likely(0), 0);
        row(x, 0, 1);
        due("likely", x.likely(10), 0);
        row(x, 1, 1);
        due("p", x.likely(-1), -1);
        due("p", x.likely(11), -1);
        x.hides(0);
        // of these 4 one way makes a ring
        due("4 open", x.likely(5), 0);
        row(x, 15, 16);
        x.hides(2);
        due("6 open", x.likely(5), 0);
        // 3 of the 64 nets of four are rings
        row(x, 61, 64);
        InnRegister y = inn("0;0;0;0;0", "01+;02+;03+");
        due("7 open", y.likely(5), -2);
        due("p first", y.likely(12), -1);
        InnRegister z = inn("0;0", "");
        z.strict(1);
        due("one room", z.likely(4), 0);
        row(z, 3, 5);
    }

    private static void game() {
        promise = "40";
        InnRegister x = new InnRegister();
        due("n", x.game(61, 2), -1);
        due("n", x.game(-1, 2), -1);
        due("k", x.game(5, 1), -1);
        due("k", x.game(5, 10), -1);
        due("0", x.game(0, 9), 0);
        due("1", x.game(1, 9), 1);
        // of 2: by 1 the other one can't ask for 1 again
        due("2", x.game(2, 9), 1);
        due("3 by 1 or 2", x.game(3, 2), 0);
        // of 3 by up to 3: by 1 two are left, taken at once; by 2 one is left, taken; by 3 won
        due("3", x.game(3, 3), 3);
        // of 4 by 1 or 2: by 1 the other one must ask for 2, and the last one is left
        due("4", x.game(4, 2), 1);
        due("60", x.game(60, 9) >= 0 ? 1 : 0, 1);
    }

    private static void law() {
        promise = "41";
        InnRegister x = inn("3;3", "01+");
        rule(x, "x");
        due("law", law(x, "m"), 10000 + 4 - 12);
        row(x, 10004, 10012);
        due("law, none", law(x, ""), 10000 + 4 - 12);
        due("THE RULE is what it was", x.cheapest(), 10012);
        due("fault", law(x, "m+"), -100002);
        due("fault", law(x, "z"), -100000);
        due("41 signs", law(x, times("m+", 20) + "m"), -100040);
        due("THE TEXT is empty", x.count(8), 0);
        law(x, "m");
        x.strict(1);
        due("none fits", law(x, "m"), -2);
        due("a fault is told ahead of that", law(x, "("), -100001);
        row(x, 10004, 10012);
        due("THE TEXT is empty", x.count(8), 0);
    }

    private static void rests() {
        promise = "42";
        InnRegister x = new InnRegister();
        due("v", x.rests(-1), -1);
        due("v", x.rests(21), -1);
        due("0", x.rests(0), 10);
        row(x, 0, 0);
        // of 20 all is never asked for; against 9 alone 9 is best, against 8 both 8 and 9 are (half is cut)
        due("20", x.rests(20), 2);
        row(x, 8, 8);
        // of 1: 0 and 1, 1 and 0, and like ones from 1 on, by whom nobody pays
        due("1", x.rests(1), 11);
        row(x, 0, 1);
    }

    private static void years() {
        promise = "43";
        InnRegister x = new InnRegister();
        due("n", x.years(1, 0), -1);
        due("n", x.years(1, 61), -1);
        due("without", x.years(1, 60), 0);
        row(x, 0, 60);
        InnRegister y = inn("0;0;0", "01+");
        int seed = 12345;
        int[][] told = {{2, 1, 2}, {1, 2, 2}, {2, 2, 2}};
        for (int i = 0; i < 20; i++) {
            int[] drawn = new int[3];
            for (int j = 0; j < 3; j++) {
                seed = seed * 1103515245 + 12345;
                drawn[j] = (seed >>> 16) % 3;
            }
            told[drawn[0]][drawn[1]] = drawn[2];
            told[drawn[1]][drawn[0]] = drawn[2];
        }
        int met = 0;
        int open = 0;
        for (int a = 0; a < 3; a++) {
            for (int b = a + 1; b < 3; b++) {
                met += told[a][b] == 1 ? 1 : 0;
                open += told[a][b] == 2 ? 1 : 0;
            }
        }
        due("years", y.years(12345, 20), open);
        // any three can have been
        row(y, met, 20);
        due("nothing changes", y.pair(0, 1), 1);
        due("nothing changes", y.count(3), 2);
        due("no step", y.count(6), 1);
        y.strict(1);
        due("n", y.years(7, 1) >= 0 ? 1 : 0, 1);
        due("met in one room", y.row(1) <= 1 ? 1 : 0, 1);
    }

    private static void keepAndAgain() {
        promise = "44";
        InnRegister x = inn("1;2;3", "01+");
        due("keep(0)", x.keep(0) ? 1 : 0, 1);
        due("keep(2)", x.keep(2) ? 1 : 0, 1);
        due("keep(3)", x.keep(3) ? 1 : 0, 0);
        due("keep(-1)", x.keep(-1) ? 1 : 0, 0);
        promise = "45";
        x.tells(0, 1, 0);
        x.moves(2, 9);
        x.strict(1);
        rule(x, "5");
        due("again(1)", x.again(1) ? 1 : 0, 0);
        due("again(3)", x.again(3) ? 1 : 0, 0);
        due("again(-1)", x.again(-1) ? 1 : 0, 0);
        due("steps stay", x.count(6), 4);
        due("again(0)", x.again(0) ? 1 : 0, 1);
        due("pair", x.pair(0, 1), 1);
        due("room", x.guest(2, 0), 3);
        due("strict", x.count(4), 0);
        due("steps", x.count(6), 0);
        due("THE RULE stays", x.cheapest(), 10030);
        x.tells(1, 2, 1);
        due("again(0) once more", x.again(0) ? 1 : 0, 1);
        due("pair", x.pair(1, 2), 2);
        due("no guests", guests(x, ""), 0);
        due("again(2)", x.again(2) ? 1 : 0, 1);
        due("refused", guests(x, "1;"), -3);
        due("again(2)", x.again(2) ? 1 : 0, 1);
        due("one more", guests(x, "4"), 1);
        due("guests came", x.again(0) ? 1 : 0, 0);
        due("guests came", x.again(2) ? 1 : 0, 0);
        due("keep anew", x.keep(0) ? 1 : 0, 1);
        due("again(0)", x.again(0) ? 1 : 0, 1);
        due("four", x.count(0), 4);
    }

    private static void countAndRow() {
        promise = "46";
        InnRegister x = inn("1;2;3;4", "01+;12+;23-");
        x.strict(1);
        x.sign(0);
        x.first();
        int[] want = {4, 2, 1, 3, 1, 10, 2, 8, 4};
        for (int what = 0; what < want.length; what++) {
            due("count(" + what + ")", x.count(what), want[what]);
        }
        due("count(9)", x.count(9), -100);
        due("count(-1)", x.count(-1), -100);
        promise = "47";
        due("row(7)", x.row(7) >= 0 ? 1 : 0, 1);
        none("row(8)", () -> x.row(8));
        none("row(-1)", () -> x.row(-1));
        none("row(MIN)", () -> x.row(Integer.MIN_VALUE));
        none("row(MAX)", () -> x.row(Integer.MAX_VALUE));
    }

    /** What was reckoned ahead of a change is not told behind it. */
    private static void answersKeepUp() {
        promise = "17";
        InnRegister x = new InnRegister();
        due("without", x.orders(), 1);
        guests(x, "1;1");
        due("guests()", x.orders(), 6);
        x.met(0, 1);
        row(x, 2, 3);
        meetings(x, "01-");
        due("meetings()", x.orders(), 2);
        x.met(0, 1);
        row(x, 0, 1);
        x.tells(0, 1, 1);
        due("tells()", x.orders(), 4);
        x.met(0, 1);
        row(x, 1, 1);
        x.hides(0);
        due("hides()", x.orders(), 6);
        x.keep(0);
        x.strict(1);
        due("strict()", x.orders(), 2);
        x.moves(1, 2);
        due("moves()", x.orders(), 6);
        x.sheet(2, 2, 5, 0);
        due("sheet()", x.orders(), 2);
        x.sheet(2, 2, 5, 1);
        due("sheet()", x.orders(), 6);
        x.sheet(3, 0, 0, 0);
        due("sheet()", x.orders(), 2);
        story(x, "r05m01+");
        due("story()", x.orders(), 4);
        x.undo();
        due("undo()", x.orders(), 2);
        x.again(0);
        due("again()", x.orders(), 6);
        guests(x, "1");
        due("guests()", x.orders(), 90);
        meetings(x, "02+");
        due("meetings()", x.orders(), 60);
        x.copies(0, 1);
        due("copies()", x.orders(), 44);
        x.years(5, 50);
        due("years()", x.orders(), 44);
        sharesKeepUp();
    }

    private static void sharesKeepUp() {
        InnRegister x = inn("0;0;0", "01+;12+;02-");
        x.before(0, 1);
        row(x, 1, 4);
        x.place(1, 2);
        row(x, 0, 1);
        x.tells(0, 1, 2);
        x.tells(1, 2, 2);
        x.tells(0, 2, 2);
        x.before(0, 1);
        row(x, 1, 2);
        x.place(1, 2);
        row(x, 1, 3);
        x.met(0, 1);
        row(x, 2, 3);
        x.undo();
        x.undo();
        x.undo();
        x.before(0, 1);
        row(x, 1, 4);
        x.place(1, 2);
        row(x, 0, 1);
        x.met(0, 2);
        row(x, 0, 1);
    }

    private static void exampleOfTheReadme() {
        promise = "README";
        InnRegister x = new InnRegister();
        due("guests()", guests(x, "3;3;5"), 3);
        due("meetings()", meetings(x, "01+;12-"), 2);
        due("orders()", x.orders(), 16);
        due("first()", x.first(), 6);
        row(x, 0, 2, 1, 3, 4, 5);
        due("met(0, 2)", x.met(0, 2), 0);
        row(x, 1, 2);
        due("tells(0, 2, 1)", x.tells(0, 2, 1), 12);
        due("orders()", x.orders(), 8);
        due("strict(1)", x.strict(1), 0);
        due("first()", x.first(), -2);
        row(x, 1, 2);
        due("undo()", x.undo(), 2);
        due("tells(0, 9, 1)", x.tells(0, 9, 1), InnRegister.NONE);
    }

    private static void refusedChangesNothing() {
        promise = "Terms 2";
        InnRegister x = inn("1;1;2", "01+");
        x.first();
        long last = x.row(5);
        x.before(0, 0);
        x.met(0, 9);
        x.place(0, 9);
        x.evening(-1);
        x.longest(9);
        x.hears(9, 0);
        x.likely(99);
        x.rests(99);
        x.years(0, 0);
        x.ring();
        due("count(7)", x.count(7), 6);
        due("row(5)", x.row(5), last);
        due("steps", x.count(6), 1);
        text(x, "01+");
        x.first();
        x.count(8);
        due("questions leave THE TEXT", x.count(8), 3);
        due("a call that reads it empties it", x.meetings(), 0);
        due("count(8)", x.count(8), 0);
        text(x, "0x");
        due("refused", x.meetings(), -2);
        due("count(8)", x.count(8), 0);
    }
}
