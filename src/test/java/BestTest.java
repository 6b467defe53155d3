/** Promises 35 to 44: what is best. */
public final class BestTest {
    private static final String TWO = "reach 10 5 100;reach 20 10 200;field a 0 100;field b 1 300;";
    private static final String FAILS = "reach 0 60 0;field a 0 999;field b 0 1;";
    private static final String HALVES = "reach 0 0 0;field a 0 10;field b 0 10;";
    /** Six fields that have 1680 minutes each. */
    private static final String SIX = "reach 0 0 0;field a 0 10;field b 0 10;field c 0 10;field d 0 10;field e 0 10;"
            + "field f 0 10;";

    public static void main(String[] args) {
        lining();
        order();
        even();
        partners();
        matched();
        matchedTies();
        nights();
        soaked();
        fairest();
        balance();
        settles();
        Check.end();
    }

    private static void lining() {
        Check.about("promise 35");
        WarabandiDesk x = Check.desk(TWO);
        // lined 0: 2516 times 60 and 7549 times 48; lined 1: 2516 times 54 and 7549 times 54
        Check.due("lining(0)", x.lining(0), 1);
        Check.due("reach(1, 2)", x.reach(1, 2), 200);
        Check.due("reach(1, 3)", x.reach(1, 3), 44);
        x.shut(1, 2526, 10080);
        // b gets 15 minutes only
        Check.due("lining(1)", x.lining(1), 0);
        Check.due("lining(52)", x.lining(52), -3);
        Check.due("lining(-1)", x.lining(-1), -3);
        x = Check.desk("reach 1 1 0;reach 1 1 0;field a 0 5;");
        Check.due("lining(0) of like ones", x.lining(0), 0);
        x = Check.desk("reach 1 1 0;reach 1 1 9;");
        Check.due("lining(0) without a field", x.lining(0), 0);
        Check.due("lining(0) of a week that fails", Check.desk(FAILS).lining(0), 0);
        x = new WarabandiDesk();
        Check.due("lining(0) without a reach", x.lining(0), -1);
        Check.due("lining(52) without a reach", x.lining(52), -3);
    }

    private static void orderIs(WarabandiDesk x, int net, int... due) {
        Check.due("order(-1)", x.order(-1), net);
        for (int p = 0; p < due.length; p++) {
            Check.due("order(" + p + ")", x.order(p), due[p]);
        }
        Check.due("order(" + due.length + ")", x.order(due.length), -1);
    }

    private static void order() {
        Check.about("promise 36");
        orderIs(Check.desk(TWO), 10065, 0, 1);
        // a c b is filled to node 1 once; a b c twice
        WarabandiDesk x = Check.desk("reach 10 5 0;reach 20 10 0;field a 1 10;field b 0 10;field c 1 10;rotate 1 1;swap 0 a b;");
        orderIs(x, 10065, 0, 2, 1);
        x.move(2, 0);
        orderIs(x, 10065, 0, 2, 1);
        // more drains than fills: to and fro is better
        x = Check.desk("reach 10 10 0;reach 5 20 0;field a 1 10;field b 1 10;field c 0 10;field d 0 10;");
        orderIs(x, 10080 + 30, 0, 2, 1, 3);
        Check.due("order(Integer.MAX_VALUE)", x.order(Integer.MAX_VALUE), -1);
        Check.due("order(-2)", x.order(-2), -3);
        orderIs(Check.desk(FAILS), 10140, 0, 1);
        x = Check.desk("reach 1 1 1;");
        Check.due("order(0) without a field", x.order(0), -5);
        Check.due("order(-1) without a field", x.order(-1), -5);
        Check.due("order(5) without a field", x.order(5), -5);
        Check.due("order(-2) without a field", x.order(-2), -3);
        x = Check.desk("reach 9 0 0;reach 9 0 0;field a 1 1;field b 0 1;field c 1 1;field d 0 1;field e 1 1;field f 0 1;"
                + "field g 1 1;field h 0 1;");
        orderIs(x, 10080 - 18, 0, 2, 4, 6, 1, 3, 5, 7);
    }

    private static void even() {
        Check.about("promise 37");
        // in a week a has 2880 minutes of the night, b 2160, if a is ahead
        WarabandiDesk x = Check.desk(HALVES + "night 0 12;rotate 1 7;");
        int[][] due = {{1, 0, 720}, {2, 1, 0}, {3, 1, 720}, {4, 1, 0}, {52, 1, 0}};
        for (int[] row : due) {
            Check.due("even(" + row[0] + ", 0)", x.even(row[0], 0), row[1]);
            Check.due("even(" + row[0] + ", 1)", x.even(row[0], 1), row[2]);
        }
        Check.due("setting(5)", x.setting(5), 7);
        x.turn(2, 0);
        Check.due("even(2, 0)", x.even(2, 0), 0);
        Check.due("even(2, 1)", x.even(2, 1), 1440);
        Check.due("even(4, 0)", x.even(4, 0), 1);
        Check.due("even(4, 1)", x.even(4, 1), 0);
        Check.due("even(1, 2)", x.even(1, 2), -2);
        Check.due("even(0, -1)", x.even(0, -1), -2);
        Check.due("even(0, 0)", x.even(0, 0), -3);
        Check.due("even(53, 1)", x.even(53, 1), -3);
        // in weeks that fail all have 0: b never has more than its 10 minutes
        x = Check.desk(FAILS);
        Check.due("even(1, 1)", x.even(1, 1), 0);
        Check.due("even(2, 0)", x.even(2, 0), 0);
        // a swap of week 1 stays: then no turn is better
        x = Check.desk(HALVES + "night 0 12;swap 1 a b;");
        Check.due("even(2, 0)", x.even(2, 0), 0);
        Check.due("even(2, 1)", x.even(2, 1), 0);
        // minutes 2520, 2520, 5040: the least is b's, 360 of 720, 360, 1440; then a's, 360 of 360, 720, 1440
        String three = "reach 0 0 0;field a 0 1;field b 0 1;field c 0 2;";
        Check.due("even(1, 1)", Check.desk(three + "night 12 18;").even(1, 1), 1080);
        Check.due("even(1, 1)", Check.desk(three + "night 18 0;").even(1, 1), 1080);
        x = new WarabandiDesk();
        Check.due("even(1, 0) without a field", x.even(1, 0), -5);
        Check.due("even(53, 0) without a field", x.even(53, 0), -3);
        Check.due("even(53, 2) without a field", x.even(53, 2), -2);
    }

    private static void partners() {
        Check.about("promise 38");
        // the first hour of a day is night: a has it once, b five times, c once; with c ahead a has none, b six
        WarabandiDesk x = Check.desk("reach 0 0 0;field a 0 10;field b 0 110;field c 0 20;night 0 1;");
        Check.due("partners(0, 0)", x.partners(0, 0), 4);
        Check.due("partners(0, 1)", x.partners(0, 1), 0);
        Check.due("partners(0, 2)", x.partners(0, 2), 0);
        x.swap(0, 0, 2);
        // now c b a: a has none; c one; b six: with a, b would have five; with c, c b would have one and six
        Check.due("partners(0, 0)", x.partners(0, 0), 0);
        Check.due("partners(0, 1)", x.partners(0, 1), 0);
        Check.due("partners(1, 0)", x.partners(1, 0), 4);
        Check.due("partners(0, 3)", x.partners(0, 3), -2);
        Check.due("partners(52, -1)", x.partners(52, -1), -2);
        Check.due("partners(52, 0)", x.partners(52, 0), -3);
        Check.due("partners(-1, 0)", x.partners(-1, 0), -3);
        for (int k = 2; k <= 12; k++) {
            x.swap(5, 0, 1);
        }
        Check.due("partners(1, 0) with all swaps told", x.partners(1, 0), 4);
        Check.due("count(2)", x.count(2), 12);
        // minutes 720, 6480, 1440, 1440: c and d have one hour wherever they are, and a has none behind
        x = Check.desk("reach 0 0 0;field a 0 1;field b 0 9;field c 0 2;field d 0 2;night 0 1;");
        Check.due("partners(0, 0)", x.partners(0, 0), 12);
        Check.due("partners(0, 0) again", x.partners(0, 0), 12);
        x = Check.desk("reach 0 0 0;field c 0 2;field b 0 9;field d 0 2;field a 0 1;night 0 1;swap 0 a c;");
        Check.due("partners(0, 3)", x.partners(0, 3), 5);
        x = Check.desk(FAILS + "rotate 1 1;");
        Check.due("partners(0, 0) of a week that fails", x.partners(0, 0), -6);
        Check.due("partners(1, 0) by which it would fail", x.partners(1, 0), 0);
        Check.due("partners(1, 1) by which it would fail", x.partners(1, 1), 0);
    }

    private static void matchedAre(WarabandiDesk x, int week, int night, int... due) {
        Check.due("matched(" + week + ", -1)", x.matched(week, -1), night);
        for (int f = 0; f < due.length; f++) {
            Check.due("matched(" + week + ", " + f + ")", x.matched(week, f), due[f]);
        }
    }

    private static void matched() {
        Check.about("promise 39");
        WarabandiDesk x = Check.desk("reach 0 0 0;field a 0 10;field b 0 110;field c 0 20;night 0 1;");
        matchedAre(x, 0, 300, -1, -1, -1);
        // the long one first has six nights; behind one or both of the others five
        x = Check.desk("reach 0 0 0;field a 0 110;field b 0 10;field c 0 20;night 0 1;");
        matchedAre(x, 0, 300, 1, 0, -1);
        x.swap(0, 1, 2);
        // a c b: with c ahead a would have six again, with b five
        matchedAre(x, 0, 300, 1, 0, -1);
        x.swap(1, 0, 1);
        matchedAre(x, 1, 300, -1, -1, -1);
        Check.due("roster(0, 0)", x.roster(0, 0), 0);
        Check.due("matched(0, 3)", x.matched(0, 3), -2);
        Check.due("matched(0, -2)", x.matched(0, -2), -2);
        Check.due("matched(52, 3)", x.matched(52, 3), -2);
        Check.due("matched(52, 0)", x.matched(52, 0), -3);
        Check.due("matched(-1, -1)", x.matched(-1, -1), -3);
        matchedAre(Check.desk(HALVES + "night 5 5;"), 0, 0, -1, -1);
        x = Check.desk(FAILS + "rotate 1 1;");
        Check.due("matched(0, 0) of a week that fails", x.matched(0, 0), -6);
        Check.due("matched(0, -1) of a week that fails", x.matched(0, -1), -6);
        matchedAre(x, 1, 5030, -1, -1);
        x = new WarabandiDesk();
        Check.due("matched(0, 0) without a field", x.matched(0, 0), -2);
        Check.due("matched(0, -1) without a field", x.matched(0, -1), -5);
        Check.due("matched(52, -1) without a field", x.matched(52, -1), -3);
    }

    private static void matchedTies() {
        Check.about("promise 39, of like ones");
        // minutes 8640, 360, 360, 720: six whole days have six nights, wherever they begin
        WarabandiDesk x = Check.desk("reach 0 0 0;field a 0 24;field b 0 1;field c 0 1;field d 0 2;night 12 13;");
        matchedAre(x, 0, 360, -1, -1, -1, -1);
        // minutes 180, 180, 7200, 2520: likewise c with five whole days
        x = Check.desk("reach 0 0 0;field a 0 5;field b 0 5;field c 0 200;field d 0 70;night 0 1;");
        matchedAre(x, 0, 300, -1, -1, -1, -1);
        // minutes 403, 403, 403, 8871: in week 1 d is first, with seven nights; behind any other one it has six:
        // FIELD 0 and FIELD 1 stay alone
        x = Check.desk("reach 0 0 0;field a 0 1;field b 0 1;field c 0 1;field d 0 22;night 0 1;rotate 1 3;");
        Check.due("inTurn(1, 3, 7)", x.inTurn(1, 3, 7), 7 * 60);
        Check.due("roster(1, 0)", x.roster(1, 0), 3);
        matchedAre(x, 1, 6 * 60, -1, -1, 3, 2);
        // minutes 3528, 2016, 3528, 1008: only by b a d c each one has two nights at most
        x = Check.desk("reach 0 0 0;field a 0 7;field b 0 4;field c 0 7;field d 0 2;night 4 9;");
        matchedAre(x, 0, 600, 1, 0, 3, 2);
        // minutes 3600, 2880, 1440, 2160: by d b c a and by c d a b two nights at most; the fewest couples count
        x = Check.desk("reach 0 0 0;field a 0 5;field b 0 4;field c 0 2;field d 0 3;night 8 10;");
        matchedAre(x, 0, 240, 3, -1, -1, 0);
        x = Check.desk("reach 0 0 0;field a 0 1;field b 0 2;field c 0 4;field d 0 9;night 17 21;");
        matchedAre(x, 0, 900, 2, 3, 0, 1);
    }

    private static void nights() {
        Check.about("promise 40");
        WarabandiDesk x = Check.desk(HALVES + "night 0 12;rotate 1 1;");
        Check.due("nights(0, 0, 0)", x.nights(0, 0, 0), 2880);
        Check.due("nights(1, 1, 0)", x.nights(1, 1, 0), 2160);
        Check.due("nights(0, 1, 1)", x.nights(0, 1, 1), 5040);
        Check.due("nights(0, 51, 0)", x.nights(0, 51, 0), 26 * 5040);
        Check.due("nights(51, 51, 0)", x.nights(51, 51, 0), 2160);
        Check.due("nights(1, 3, 0)", x.nights(1, 3, 0), 2160 + 2880 + 2160);
        Check.due("nights(1, 0, 0)", x.nights(1, 0, 0), -3);
        Check.due("nights(-1, 0, 0)", x.nights(-1, 0, 0), -3);
        Check.due("nights(0, 52, 0)", x.nights(0, 52, 0), -3);
        Check.due("nights(0, 0, 2)", x.nights(0, 0, 2), -2);
        Check.due("nights(1, 0, -1)", x.nights(1, 0, -1), -2);
        x = Check.desk(FAILS + "rotate 1 1;");
        Check.due("nights(0, 0, 0) of a week that fails", x.nights(0, 0, 0), 0);
        Check.due("nights(0, 3, 0)", x.nights(0, 3, 0), 2 * 5030);
        Check.due("nights(0, 3, 1)", x.nights(0, 3, 1), 2 * 10);
        // a swap, a lend and a shut are of their own week alone
        x = Check.desk(HALVES + "night 0 12;swap 1 a b;lend 2 a b 720;shut 3 0 10080;");
        int[] due = {2880, 2160, 2160, 2880, 2880};
        for (int w = 0; w < due.length; w++) {
            Check.due("nights(" + w + ", " + w + ", 0)", x.nights(w, w, 0), due[w]);
        }
        Check.due("nights(0, 4, 0)", x.nights(0, 4, 0), 3 * 2880 + 2 * 2160);
    }

    private static void soaked() {
        Check.about("promise 41");
        WarabandiDesk x = new WarabandiDesk();
        // 54 less 5: 92 of a thousand are 4.968, 93 are 5.022, 111 are 5.994, 112 are 6.048
        Check.due("soaked(54, 49, false)", x.soaked(54, 49, false), 93);
        Check.due("soaked(54, 49, true)", x.soaked(54, 49, true), 111);
        Check.due("soaked(999, 999, false)", x.soaked(999, 999, false), 0);
        Check.due("soaked(999, 999, true)", x.soaked(999, 999, true), 1);
        Check.due("soaked(999, 500, false)", x.soaked(999, 500, false), 500);
        Check.due("soaked(999, 500, true)", x.soaked(999, 500, true), 500);
        Check.due("soaked(999, 499, true)", x.soaked(999, 499, true), -1);
        Check.due("soaked(2, 1, false)", x.soaked(2, 1, false), 500);
        Check.due("soaked(2, 1, true)", x.soaked(2, 1, true), 500);
        Check.due("soaked(2, 2, true)", x.soaked(2, 2, true), 499);
        Check.due("soaked(1, 0, true)", x.soaked(1, 0, true), -1);
        Check.due("soaked(1, 1, false)", x.soaked(1, 1, false), 0);
        Check.due("soaked(1000, 900, true)", x.soaked(1000, 900, true), -3);
        Check.due("soaked(0, 0, true)", x.soaked(0, 0, true), -3);
        Check.due("soaked(5, 6, true)", x.soaked(5, 6, true), -3);
        Check.due("soaked(5, -1, true)", x.soaked(5, -1, true), -3);
    }

    private static void fairest() {
        Check.about("promise 42");
        WarabandiDesk x = Check.desk(TWO + "rotate 1 3;");
        Check.due("fairest(0)", x.fairest(0), 1107);
        x.shut(1, 0, 5000);
        // with a ahead it gets nothing; with b ahead that has 7549 less 4970 minutes
        Check.due("fairest(1)", x.fairest(1), 2579 * 44 / 300);
        Check.due("fairest(52)", x.fairest(52), -3);
        Check.due("fairest(-1)", x.fairest(-1), -3);
        x.turn(2, 0);
        Check.due("fairest(1) not turned yet", x.fairest(1), 0);
        // the end is shut: with b ahead a gets 5 minutes only
        x = Check.desk(TWO + "shut 1 5080 10080;");
        Check.due("fairest(1)", x.fairest(1), 2549 * 44 / 300);
        x = Check.desk(FAILS);
        Check.due("fairest(0) of a week that fails", x.fairest(0), 0);
        // turned by 1 it does not fail: a has 10130 minutes times 60 by 999
        Check.due("fairest(1)", x.fairest(1), 600);
        x = new WarabandiDesk();
        Check.due("fairest(0) without a field", x.fairest(0), -5);
        Check.due("fairest(52) without a field", x.fairest(52), -3);
    }

    private static void balance() {
        Check.about("promise 43");
        WarabandiDesk x = Check.desk(SIX + "lend 0 a b 100;lend 1 b a 30;lend 2 a c 5;lend 3 a b 7;");
        Check.due("balance(0, 0, 1)", x.balance(0, 0, 1), 100100);
        Check.due("balance(0, 1, 0)", x.balance(0, 1, 0), 99900);
        Check.due("balance(1, 0, 1)", x.balance(1, 0, 1), 100070);
        Check.due("balance(2, 0, 1)", x.balance(2, 0, 1), 100070);
        Check.due("balance(51, 0, 1)", x.balance(51, 0, 1), 100077);
        Check.due("balance(51, 1, 0)", x.balance(51, 1, 0), 99923);
        Check.due("balance(51, 2, 0)", x.balance(51, 2, 0), 99995);
        Check.due("balance(51, 1, 2)", x.balance(51, 1, 2), 100000);
        Check.due("balance(51, 0, 0)", x.balance(51, 0, 0), 100000);
        // of 1680 minutes 999 can be lent once
        for (int k = 0; k < 3; k++) {
            x.lend(9, 4, 5, 999);
        }
        Check.due("balance(9, 4, 5) with VOID ones", x.balance(9, 4, 5), 100999);
        Check.due("balance(8, 4, 5)", x.balance(8, 4, 5), 100000);
        Check.due("balance(0, 6, 0)", x.balance(0, 6, 0), -2);
        Check.due("balance(0, 0, 6)", x.balance(0, 0, 6), -2);
        Check.due("balance(52, -1, 0)", x.balance(52, -1, 0), -2);
        Check.due("balance(52, 0, 1)", x.balance(52, 0, 1), -3);
        Check.due("balance(-1, 0, 1)", x.balance(-1, 0, 1), -3);
        x = Check.desk(FAILS + "rotate 1 1;lend 0 a b 5;lend 1 a b 7;");
        Check.due("balance(0, 0, 1) of a week that fails", x.balance(0, 0, 1), 100000);
        Check.due("balance(1, 0, 1)", x.balance(1, 0, 1), 100007);
    }

    private static void settlesIs(String lends, int due) {
        Check.due("settles(51) of " + lends, Check.desk(SIX + lends).settles(51), due);
    }

    private static void settles() {
        Check.about("promise 44");
        settlesIs("", 0);
        settlesIs("lend 0 a b 100;", 1);
        settlesIs("lend 0 a b 100;lend 1 b a 100;", 0);
        settlesIs("lend 0 a b 100;lend 1 b c 100;", 1);
        settlesIs("lend 0 a b 100;lend 1 b c 100;lend 2 c a 100;", 0);
        settlesIs("lend 0 a b 100;lend 1 b c 50;", 2);
        settlesIs("lend 0 a b 100;lend 1 c d 50;", 2);
        settlesIs("lend 0 a b 100;lend 1 c d 50;lend 2 e f 7;", 3);
        settlesIs("lend 0 a b 1;lend 0 a c 2;lend 0 a d 3;lend 0 a e 4;lend 0 a f 5;", 5);
        // a 3, b 4, c 5 were lent by d 7 and e 5: c and e are even by one, the others by two
        settlesIs("lend 0 d a 3;lend 0 d b 4;lend 0 e c 5;", 3);
        settlesIs("lend 0 d a 3;lend 0 d b 2;lend 0 e b 2;lend 0 d c 2;lend 0 e c 3;", 3);
        WarabandiDesk x = Check.desk(SIX + "lend 3 a b 9;lend 5 c d 9;");
        Check.due("settles(2)", x.settles(2), 0);
        Check.due("settles(3)", x.settles(3), 1);
        Check.due("settles(5)", x.settles(5), 2);
        Check.due("settles(5) again", x.settles(5), 2);
        Check.due("settles(2) again", x.settles(2), 0);
        Check.due("settles(52)", x.settles(52), -3);
        Check.due("settles(-1)", x.settles(-1), -3);
        x.lend(6, 4, 5, 999);
        x.lend(6, 4, 0, 999);
        Check.due("settles(6) with a VOID one", x.settles(6), 3);
        x = Check.desk(FAILS + "rotate 1 1;lend 0 a b 5;");
        Check.due("settles(1) of a week that fails", x.settles(1), 0);
        Check.due("settles(0) without a field", new WarabandiDesk().settles(0), 0);
        Check.due("settles(52) without a field", new WarabandiDesk().settles(52), -3);
    }
}
