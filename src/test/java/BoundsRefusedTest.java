import java.util.function.Supplier;

/** Refused calls, as the part "==== 3." tells them: their codes, that they change nothing, and which code is first. */
public final class BoundsRefusedTest {
    private static final String PART = "==== 3.";
    private static final int MIN = Integer.MIN_VALUE;
    private static final int MAX = Integer.MAX_VALUE;

    private interface Call {
        long on(WarabandiDesk desk);
    }

    public static void main(String[] args) {
        noneSuch();
        badNumbers();
        badNumbersAsked();
        tooMany();
        cannotBe();
        weekFails();
        faults();
        tapeStays();
        tellsFirstByHand();
        tellsFirstAsked();
        tellsFirstOfBest();
        aheadOfNone();
        questionsChangeNothing();
        Check.end();
    }

    /** Three fields, with something of each kind told, ten acts that can be undone, and 20 bytes on the tape. */
    private static WarabandiDesk busy() {
        WarabandiDesk x = Check.desk("reach 10 5 100;reach 20 10 200;field a 0 100;field b 1 300;field c 0 50;crop a 3000 900;"
                + "night 20 5;start 77;rotate 2 1;swap 1 a b;lend 0 a b 100;shut 0 100 200;");
        x.move(2, 0);
        x.swap(0, 1, 2);
        x.lend(1, 2, 0, 50);
        x.shut(1, 5, 10);
        x.line(0);
        x.flow(77);
        x.turn(1, 2);
        x.mode(1);
        x.land(1, 301);
        x.move(0, 0);
        x.feed(0x666c6f77, 0x20393b20, 0x666c6f77, 0x20383b20, 0x20202020);
        return x;
    }

    /** As many swaps, lends and shuts as there can be; the acts of the latest ones can be undone. */
    private static WarabandiDesk crowded() {
        WarabandiDesk x = Check.desk("reach 1 1 1;field a 0 5;field b 0 6;"
                + "swap 0 a b;".repeat(10) + "lend 0 a b 5;".repeat(9) + "shut 0 1 2;".repeat(2));
        x.swap(1, 0, 1);
        x.swap(0, 0, 1);
        x.lend(1, 0, 1, 7);
        x.lend(0, 1, 0, 8);
        x.lend(51, 1, 0, 9);
        for (int k = 0; k < 4; k++) {
            x.shut(1, 10 * k, 10 * k + 5);
        }
        return x;
    }

    /** Week 0 FAILS, week 1 does not. */
    private static WarabandiDesk failing() {
        WarabandiDesk x = Check.desk("reach 0 60 0;field a 0 999;field b 0 1;lend 0 a b 5;");
        x.turn(1, 1);
        return x;
    }

    private static WarabandiDesk empty() {
        WarabandiDesk x = Check.desk("reach 1 2 3;shut 0 1 2;");
        x.flow(5);
        return x;
    }

    private static void refused(Supplier<WarabandiDesk> make, String call, long code, Call run) {
        WarabandiDesk x = make.get();
        Check.due(call, run.on(x), code);
        Whole.same("behind " + call, x, make);
    }

    private static void busyRefuses(String call, long code, Call run) {
        refused(BoundsRefusedTest::busy, call, code, run);
    }

    private static void codeIs(WarabandiDesk x, String call, long code, Call run) {
        Check.due(call, run.on(x), code);
    }

    private static void noneSuch() {
        Check.says(PART, "Refused calls answer by a code and change nothing: -2 there is none such (FIELD, REACH, what)");
        for (int f : new int[] {-1, 3, 8, MIN, MAX}) {
            busyRefuses("move(" + f + ", 0)", -2, x -> x.move(f, 0));
            busyRefuses("swap(0, " + f + ", 0)", -2, x -> x.swap(0, f, 0));
            busyRefuses("swap(0, 0, " + f + ")", -2, x -> x.swap(0, 0, f));
            busyRefuses("lend(0, " + f + ", 0, 1)", -2, x -> x.lend(0, f, 0, 1));
            busyRefuses("lend(0, 0, " + f + ", 1)", -2, x -> x.lend(0, 0, f, 1));
            busyRefuses("land(" + f + ", 1)", -2, x -> x.land(f, 1));
            busyRefuses("field(" + f + ", 0)", -2, x -> x.field(f, 0));
            busyRefuses("name(" + f + ", 0)", -2, x -> x.name(f, 0));
            busyRefuses("inTurn(0, " + f + ", 0)", -2, x -> x.inTurn(0, f, 0));
            busyRefuses("weight(" + f + ")", -2, x -> x.weight(f));
            busyRefuses("water(0, " + f + ")", -2, x -> x.water(0, f));
            busyRefuses("when(" + f + ", 0)", -2, x -> x.when(f, 0));
            busyRefuses("depth(0, " + f + ")", -2, x -> x.depth(0, f));
            busyRefuses("soil(0, " + f + ")", -2, x -> x.soil(0, f));
            busyRefuses("dry(0, " + f + ", 0)", -2, x -> x.dry(0, f, 0));
            busyRefuses("partners(0, " + f + ")", -2, x -> x.partners(0, f));
            busyRefuses("nights(0, 0, " + f + ")", -2, x -> x.nights(0, 0, f));
            busyRefuses("balance(0, " + f + ", 0)", -2, x -> x.balance(0, f, 0));
            busyRefuses("balance(0, 0, " + f + ")", -2, x -> x.balance(0, 0, f));
        }
        for (int f : new int[] {-2, 3, 8, MIN, MAX}) {
            busyRefuses("matched(0, " + f + ")", -2, x -> x.matched(0, f));
        }
        for (int r : new int[] {-1, 2, 10, MIN, MAX}) {
            busyRefuses("line(" + r + ")", -2, x -> x.line(r));
            busyRefuses("reach(" + r + ", 0)", -2, x -> x.reach(r, 0));
        }
        for (int what : new int[] {-1, 10, MIN, MAX}) {
            busyRefuses("field(0, " + what + ")", -2, x -> x.field(0, what));
            busyRefuses("reach(0, " + what + ")", -2, x -> x.reach(0, what));
            busyRefuses("setting(" + what + ")", -2, x -> x.setting(what));
            busyRefuses("inTurn(0, 0, " + what + ")", -2, x -> x.inTurn(0, 0, what));
            busyRefuses("at(77, " + what + ")", -2, x -> x.at(77, what));
            busyRefuses("dry(0, 0, " + what + ")", -2, x -> x.dry(0, 0, what));
            busyRefuses("even(1, " + what + ")", -2, x -> x.even(1, what));
        }
    }

    private static void badNumbers() {
        Check.says(PART, "-3 a number can't be");
        for (int w : new int[] {-1, 52, MIN, MAX}) {
            busyRefuses("swap(" + w + ", 0, 1)", -3, x -> x.swap(w, 0, 1));
            busyRefuses("lend(" + w + ", 0, 1, 1)", -3, x -> x.lend(w, 0, 1, 1));
            busyRefuses("shut(" + w + ", 0, 1)", -3, x -> x.shut(w, 0, 1));
        }
        for (int n : new int[] {-1, 3, MIN, MAX}) {
            busyRefuses("move(0, " + n + ")", -3, x -> x.move(0, n));
            busyRefuses("mode(" + n + ")", -3, x -> x.mode(n));
        }
        for (int n : new int[] {-1, 0, 1000, MIN, MAX}) {
            busyRefuses("lend(0, 0, 1, " + n + ")", -3, x -> x.lend(0, 0, 1, n));
            busyRefuses("flow(" + n + ")", -3, x -> x.flow(n));
            busyRefuses("land(0, " + n + ")", -3, x -> x.land(0, n));
            busyRefuses("turn(" + n + ", 0)", -3, x -> x.turn(n, 0));
        }
        for (int n : new int[] {-1, 8, MIN, MAX}) {
            busyRefuses("turn(1, " + n + ")", -3, x -> x.turn(1, n));
        }
        busyRefuses("turn(53, 0)", -3, x -> x.turn(53, 0));
        for (int n : new int[] {-1, 10080, MIN, MAX}) {
            busyRefuses("shut(0, " + n + ", 10080)", -3, x -> x.shut(0, n, 10080));
        }
        for (int n : new int[] {-1, 0, 4, 5, 10081, MIN, MAX}) {
            busyRefuses("shut(0, 5, " + n + ")", -3, x -> x.shut(0, 5, n));
        }
        for (int n : new int[] {-1, 21, MIN, MAX}) {
            busyRefuses("tell(" + n + ")", -3, x -> x.tell(n));
        }
    }

    private static void badNumbersAsked() {
        Check.says(PART, "-3 a number can't be");
        for (int w : new int[] {-1, 52, MIN, MAX}) {
            busyRefuses("roster(" + w + ", 0)", -3, x -> x.roster(w, 0));
            busyRefuses("inTurn(" + w + ", 0, 0)", -3, x -> x.inTurn(w, 0, 0));
            busyRefuses("net(" + w + ")", -3, x -> x.net(w));
            busyRefuses("fails(" + w + ")", -3, x -> x.fails(w));
            busyRefuses("water(" + w + ", 0)", -3, x -> x.water(w, 0));
            busyRefuses("all(" + w + ")", -3, x -> x.all(w));
            busyRefuses("depth(" + w + ", 0)", -3, x -> x.depth(w, 0));
            busyRefuses("first(" + w + ", true)", -3, x -> x.first(w, true));
            busyRefuses("soil(" + w + ", 0)", -3, x -> x.soil(w, 0));
            busyRefuses("dry(" + w + ", 0, 0)", -3, x -> x.dry(w, 0, 0));
            busyRefuses("tail(" + w + ")", -3, x -> x.tail(w));
            busyRefuses("leastFlow(" + w + ")", -3, x -> x.leastFlow(w));
            busyRefuses("lining(" + w + ")", -3, x -> x.lining(w));
            busyRefuses("even(" + (w == -1 ? 0 : w == 52 ? 53 : w) + ", 0)", -3,
                    x -> x.even(w == -1 ? 0 : w == 52 ? 53 : w, 0));
            busyRefuses("partners(" + w + ", 0)", -3, x -> x.partners(w, 0));
            busyRefuses("matched(" + w + ", 0)", -3, x -> x.matched(w, 0));
            busyRefuses("nights(" + w + ", 51, 0)", -3, x -> x.nights(w, 51, 0));
            busyRefuses("nights(0, " + w + ", 0)", -3, x -> x.nights(0, w, 0));
            busyRefuses("fairest(" + w + ")", -3, x -> x.fairest(w));
            busyRefuses("balance(" + w + ", 0, 1)", -3, x -> x.balance(w, 0, 1));
            busyRefuses("settles(" + w + ")", -3, x -> x.settles(w));
        }
        for (int n : new int[] {-1, MIN}) {
            busyRefuses("roster(0, " + n + ")", -3, x -> x.roster(0, n));
            busyRefuses("isVoid(" + n + ")", -3, x -> x.isVoid(n));
            busyRefuses("at(" + n + ", 0)", -3, x -> x.at(n, 0));
            busyRefuses("when(0, " + n + ")", -3, x -> x.when(0, n));
        }
        for (int n : new int[] {-2, MIN}) {
            busyRefuses("name(0, " + n + ")", -3, x -> x.name(0, n));
            busyRefuses("order(" + n + ")", -3, x -> x.order(n));
        }
        busyRefuses("nights(5, 4, 0)", -3, x -> x.nights(5, 4, 0));
        busyRefuses("soaked(0, 0, true)", -3, x -> x.soaked(0, 0, true));
        busyRefuses("soaked(1000, 1, true)", -3, x -> x.soaked(1000, 1, true));
        busyRefuses("soaked(9, 10, true)", -3, x -> x.soaked(9, 10, true));
        busyRefuses("soaked(9, -1, true)", -3, x -> x.soaked(9, -1, true));
    }

    private static void tooMany() {
        Check.says(PART, "-4 too many");
        refused(BoundsRefusedTest::crowded, "swap(0, 0, 1)", -4, x -> x.swap(0, 0, 1));
        refused(BoundsRefusedTest::crowded, "lend(0, 0, 1, 1)", -4, x -> x.lend(0, 0, 1, 1));
        refused(BoundsRefusedTest::crowded, "shut(0, 0, 1)", -4, x -> x.shut(0, 0, 1));
        Supplier<WarabandiDesk> full = () -> {
            WarabandiDesk x = failing();
            for (int k = 0; k < 40; k++) {
                x.feed(k, k, k, k, k);
            }
            return x;
        };
        refused(full, "feed(1, 2, 3, 4, 5)", -4, x -> x.feed(1, 2, 3, 4, 5));
    }

    private static void cannotBe() {
        Check.says(PART, "-5 it can't be (as told there; nothing to undo)");
        Supplier<WarabandiDesk> told = () -> Check.desk("reach 1 2 3;field a 0 5;field b 0 6;");
        refused(told, "undo()", -5, WarabandiDesk::undo);
        refused(BoundsRefusedTest::empty, "net(0)", -5, x -> x.net(0));
        refused(BoundsRefusedTest::empty, "leastFlow(0)", -5, x -> x.leastFlow(0));
        refused(BoundsRefusedTest::empty, "order(0)", -5, x -> x.order(0));
        refused(BoundsRefusedTest::empty, "order(-1)", -5, x -> x.order(-1));
        refused(BoundsRefusedTest::empty, "even(1, 0)", -5, x -> x.even(1, 0));
        refused(BoundsRefusedTest::empty, "matched(0, -1)", -5, x -> x.matched(0, -1));
        refused(BoundsRefusedTest::empty, "fairest(0)", -5, x -> x.fairest(0));
    }

    private static void weekFails() {
        Check.says(PART, "-6 the WEEK FAILS");
        for (int what = 4; what <= 9; what++) {
            int k = what;
            refused(BoundsRefusedTest::failing, "inTurn(0, 0, " + k + ")", -6, x -> x.inTurn(0, 0, k));
        }
        refused(BoundsRefusedTest::failing, "isVoid(0)", -6, x -> x.isVoid(0));
        refused(BoundsRefusedTest::failing, "partners(0, 0)", -6, x -> x.partners(0, 0));
        refused(BoundsRefusedTest::failing, "matched(0, 0)", -6, x -> x.matched(0, 0));
        refused(BoundsRefusedTest::failing, "matched(0, -1)", -6, x -> x.matched(0, -1));
    }

    private static void faults() {
        Check.says(PART, "-30 less the FAULT: a text (THE TAPE is empty then; nothing else changes).");
        String[] texts = {"x", "flow 0;", "crop a 1 1;", "reach 1 1 1;".repeat(11)};
        for (int k = 0; k < texts.length; k++) {
            String text = texts[k];
            WarabandiDesk x = failing();
            Check.due("tell of \"" + text + "\"", Check.tell(x, text), -31 - k);
            Check.due("count(9) behind \"" + text + "\"", x.count(9), 0);
            Whole.same("behind \"" + text + "\"", x, BoundsRefusedTest::failing);
        }
    }

    private static void tapeStays() {
        Check.says("Promise 3", "-3: n is below 0, above what there is (THE TAPE stays)");
        for (int n : new int[] {-1, 21, MIN, MAX}) {
            WarabandiDesk x = busy();
            Check.due("tell(" + n + ")", x.tell(n), -3);
            Check.due("count(9) behind tell(" + n + ")", x.count(9), 20);
            Check.due("tell(20) behind tell(" + n + ")", x.tell(20), 2);
            Check.due("setting(0) of what stayed", x.setting(0), 8);
        }
    }

    private static void tellsFirstByHand() {
        Check.says(PART, "(Of several that which the call tells first");
        codeIs(busy(), "move(3, 3)", -2, x -> x.move(3, 3));
        codeIs(busy(), "swap(52, 3, 0)", -2, x -> x.swap(52, 3, 0));
        codeIs(busy(), "swap(52, 0, 0)", -2, x -> x.swap(52, 0, 0));
        codeIs(crowded(), "swap(52, 0, 1)", -3, x -> x.swap(52, 0, 1));
        codeIs(crowded(), "swap(0, 1, 1)", -2, x -> x.swap(0, 1, 1));
        codeIs(crowded(), "swap(52, 0, 2)", -2, x -> x.swap(52, 0, 2));
        codeIs(busy(), "lend(52, 0, 3, 0)", -2, x -> x.lend(52, 0, 3, 0));
        codeIs(busy(), "lend(0, 1, 1, 0)", -2, x -> x.lend(0, 1, 1, 0));
        codeIs(crowded(), "lend(52, 0, 1, 1)", -3, x -> x.lend(52, 0, 1, 1));
        codeIs(crowded(), "lend(0, 0, 1, 0)", -3, x -> x.lend(0, 0, 1, 0));
        codeIs(crowded(), "lend(0, 0, 1, 1000)", -3, x -> x.lend(0, 0, 1, 1000));
        codeIs(crowded(), "lend(0, 0, 0, 1)", -2, x -> x.lend(0, 0, 0, 1));
        codeIs(crowded(), "shut(52, 0, 1)", -3, x -> x.shut(52, 0, 1));
        codeIs(crowded(), "shut(0, 10080, 10081)", -3, x -> x.shut(0, 10080, 10081));
        codeIs(crowded(), "shut(0, 1, 1)", -3, x -> x.shut(0, 1, 1));
        codeIs(busy(), "land(3, 0)", -2, x -> x.land(3, 0));
    }

    private static void tellsFirstAsked() {
        Check.says(PART, "(Of several that which the call tells first");
        codeIs(busy(), "name(3, -2)", -2, x -> x.name(3, -2));
        codeIs(busy(), "inTurn(52, 3, 0)", -2, x -> x.inTurn(52, 3, 0));
        codeIs(busy(), "inTurn(52, 0, 10)", -2, x -> x.inTurn(52, 0, 10));
        codeIs(failing(), "inTurn(0, 2, 4)", -2, x -> x.inTurn(0, 2, 4));
        codeIs(failing(), "inTurn(0, 0, 10)", -2, x -> x.inTurn(0, 0, 10));
        codeIs(failing(), "inTurn(52, 0, 4)", -3, x -> x.inTurn(52, 0, 4));
        codeIs(empty(), "net(52)", -3, x -> x.net(52));
        codeIs(busy(), "water(52, 3)", -2, x -> x.water(52, 3));
        codeIs(busy(), "at(-1, 4)", -2, x -> x.at(-1, 4));
        codeIs(busy(), "when(3, -1)", -2, x -> x.when(3, -1));
        codeIs(busy(), "depth(52, 3)", -2, x -> x.depth(52, 3));
        codeIs(busy(), "soil(52, 3)", -2, x -> x.soil(52, 3));
        codeIs(busy(), "dry(52, 3, 0)", -2, x -> x.dry(52, 3, 0));
        codeIs(busy(), "dry(52, 0, 2)", -2, x -> x.dry(52, 0, 2));
        codeIs(empty(), "leastFlow(52)", -3, x -> x.leastFlow(52));
    }

    private static void tellsFirstOfBest() {
        Check.says(PART, "(Of several that which the call tells first");
        codeIs(empty(), "order(-2)", -3, x -> x.order(-2));
        codeIs(empty(), "even(0, 2)", -2, x -> x.even(0, 2));
        codeIs(empty(), "even(1, 2)", -2, x -> x.even(1, 2));
        codeIs(empty(), "even(0, 0)", -3, x -> x.even(0, 0));
        codeIs(busy(), "partners(52, 3)", -2, x -> x.partners(52, 3));
        codeIs(failing(), "partners(0, 2)", -2, x -> x.partners(0, 2));
        codeIs(failing(), "partners(52, 0)", -3, x -> x.partners(52, 0));
        codeIs(busy(), "matched(52, 3)", -2, x -> x.matched(52, 3));
        codeIs(empty(), "matched(0, 0)", -2, x -> x.matched(0, 0));
        codeIs(empty(), "matched(52, -1)", -3, x -> x.matched(52, -1));
        codeIs(failing(), "matched(0, 2)", -2, x -> x.matched(0, 2));
        codeIs(failing(), "matched(52, -1)", -3, x -> x.matched(52, -1));
        codeIs(busy(), "nights(1, 0, 3)", -2, x -> x.nights(1, 0, 3));
        codeIs(busy(), "nights(52, 52, 3)", -2, x -> x.nights(52, 52, 3));
        codeIs(empty(), "fairest(52)", -3, x -> x.fairest(52));
        codeIs(busy(), "balance(52, 0, 3)", -2, x -> x.balance(52, 0, 3));
    }

    private static void aheadOfNone() {
        Check.says(PART, "all these ahead of NONE.)");
        codeIs(busy(), "name(3, 9)", -2, x -> x.name(3, 9));
        codeIs(busy(), "roster(52, 3)", -3, x -> x.roster(52, 3));
        codeIs(busy(), "at(0, 4) ahead of START", -2, x -> x.at(0, 4));
        codeIs(busy(), "at(MAX, 4) behind WEEK 51", -2, x -> x.at(MAX, 4));
        codeIs(failing(), "at(0, 4) of a WEEK that FAILS", -2, x -> x.at(0, 4));
        codeIs(empty(), "at(0, 4) without a FIELD", -2, x -> x.at(0, 4));
        codeIs(empty(), "at(-1, 0) without a FIELD", -3, x -> x.at(-1, 0));
        codeIs(busy(), "when(3, MAX)", -2, x -> x.when(3, MAX));
        codeIs(empty(), "first(52, true)", -3, x -> x.first(52, true));
        codeIs(new WarabandiDesk(), "dry(52, 0, 1) without a FIELD", -2, x -> x.dry(52, 0, 1));
        codeIs(empty(), "tail(52)", -3, x -> x.tail(52));
        codeIs(new WarabandiDesk(), "lining(52) without a REACH", -3, x -> x.lining(52));
        codeIs(empty(), "order(9)", -5, x -> x.order(9));
        codeIs(failing(), "matched(0, 1)", -6, x -> x.matched(0, 1));
        codeIs(busy(), "soaked(9, 10, true)", -3, x -> x.soaked(9, 10, true));
    }

    /** What would be, by another FLOW, BY, SOAK or ROSTER, is only asked. */
    private static void asked(String call, Call run) {
        WarabandiDesk x = busy();
        run.on(x);
        Whole.same("behind " + call, x, BoundsRefusedTest::busy);
    }

    private static void questionsChangeNothing() {
        Check.says("Not promised", "Nothing is promised beyond the answers and state changes described above");
        asked("leastFlow(51)", x -> x.leastFlow(51));
        asked("lining(0)", x -> x.lining(0));
        asked("order(0)", x -> x.order(0));
        asked("even(52, 0)", x -> x.even(52, 0));
        asked("partners(0, 0)", x -> x.partners(0, 0));
        asked("matched(1, -1)", x -> x.matched(1, -1));
        asked("nights(0, 51, 0)", x -> x.nights(0, 51, 0));
        asked("soaked(60, 50, true)", x -> x.soaked(60, 50, true));
        asked("fairest(1)", x -> x.fairest(1));
        asked("settles(51)", x -> x.settles(51));
        asked("soil(51, 0)", x -> x.soil(51, 0));
        asked("when(0, 0)", x -> x.when(0, 0));
    }
}
