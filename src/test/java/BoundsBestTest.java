/** The boundary cases that the promises 35 to 45 name: what is best, what was lent, and how many there are. */
public final class BoundsBestTest {
    private static final int MAX = Integer.MAX_VALUE;
    private static final int MIN = Integer.MIN_VALUE;
    private static final String HALVES = "reach 0 0 0;field a 0 10;field b 0 10;";
    private static final String FAILS = "reach 0 60 0;field a 0 999;field b 0 1;";
    private static final String ALONE = "reach 0 0 0;field a 0 100;";
    private static final String NO_FIELD = "reach 1 2 3;";
    /** Eight fields that have 1260 minutes each. */
    private static final String EIGHT = "reach 0 0 0;field a 0 1;field b 0 1;field c 0 1;field d 0 1;field e 0 1;field f 0 1;"
            + "field g 0 1;field h 0 1;";

    public static void main(String[] args) {
        lining();
        liningNone();
        order();
        orderOfLikeOnes();
        orderNone();
        even();
        evenRefused();
        partners();
        partnersThatFail();
        partnersRefused();
        matched();
        nights();
        soaked();
        soakedNone();
        fairest();
        balance();
        balanceAside();
        settles();
        settlesAside();
        count();
        Check.end();
    }

    private static void lining() {
        Check.says("Promise 35", "The REACH by whose SOAK of 0 there is most WATER of all in a WEEK, of like ones the first.");
        // nothing to gain at all, and the same to gain by each
        Check.due("lining(0) of none that soaks", Check.desk("reach 0 0 0;".repeat(10) + "field a 9 5;").lining(0), 0);
        WarabandiDesk x = Check.desk("reach 0 0 0;reach 0 0 100;reach 0 0 100;field a 2 5;");
        Check.due("lining(0) of two alike", x.lining(0), 1);
        x = Check.desk("reach 0 0 0;reach 0 0 100;reach 0 0 101;field a 2 5;flow 999;");
        Check.due("lining(0) of the greater one", x.lining(0), 2);
        // behind the last FIELD there is nothing to gain
        x = Check.desk("reach 0 0 1;reach 0 0 500;field a 0 5;flow 999;");
        Check.due("lining(0) with a REACH behind all", x.lining(0), 0);
        x = Check.desk("reach 0 0 0;".repeat(9) + "reach 0 0 500;field a 9 5;");
        Check.due("lining(51) of the tenth", x.lining(51), 9);
        // in a WEEK in which nothing comes all are alike
        x = Check.desk("reach 0 0 0;reach 0 0 500;field a 1 5;shut 1 0 10080;");
        Check.due("lining(0)", x.lining(0), 1);
        Check.due("lining(1) if all is SHUT", x.lining(1), 0);
        x = Check.desk("reach 0 0 0;reach 0 60 500;field a 1 999;field b 1 1;");
        Check.due("fails(0)", x.fails(0), 1);
        Check.due("lining(0) of a WEEK that FAILS", x.lining(0), 0);
    }

    private static void liningNone() {
        Check.says("Promise 35", "NONE: there is none; -3.");
        Check.due("lining(0) without a REACH", new WarabandiDesk().lining(0), -1);
        Check.due("lining(0) without a FIELD", Check.desk(NO_FIELD).lining(0), 0);
        Check.due("lining(52)", Check.desk(ALONE).lining(52), -3);
        Check.due("lining(-1)", Check.desk(ALONE).lining(-1), -3);
    }

    private static void orderIs(WarabandiDesk x, int net, int... due) {
        Check.due("order(-1)", x.order(-1), net);
        for (int p = 0; p < due.length; p++) {
            Check.due("order(" + p + ")", x.order(p), due[p]);
        }
        Check.due("order(" + due.length + ")", x.order(due.length), -1);
    }

    private static void order() {
        Check.says("Promise 36", "Of all orders of FIELDS (as a ROSTER) that by which NET is greatest");
        orderIs(Check.desk("reach 9 5 0;field a 0 1;"), 10076, 0);
        // what FILLS is less if the water goes down the course once; what drains is more if it goes up often
        orderIs(Check.desk("reach 60 0 0;".repeat(10) + "field a 9 1;field b 0 1;field c 9 1;field d 0 1;"), 10080 - 600, 0, 2, 1, 3);
        orderIs(Check.desk("reach 0 60 0;".repeat(10) + "field a 9 1;field b 0 1;field c 9 1;field d 0 1;"),
                10080 + 540 + 540 + 60, 0, 1, 2, 3);
        // neither ORDER, nor EVERY and BY, nor SWAPS matter, nor whether a WEEK FAILS
        WarabandiDesk x = Check.desk(FAILS + "rotate 1 1;swap 0 a b;");
        x.move(1, 0);
        orderIs(x, 10140, 0, 1);
    }

    private static void orderOfLikeOnes() {
        Check.says("Promise 36", "of like ones the first by FIELDS: the FIELD at a place (from 0 on); place NONE: NET.");
        orderIs(Check.desk(EIGHT), 10080, 0, 1, 2, 3, 4, 5, 6, 7);
        // as much drains as FILLS, so all orders are alike
        orderIs(Check.desk("reach 7 7 0;reach 9 9 0;field a 0 1;field b 1 1;field c 0 1;"), 10080, 0, 1, 2);
        orderIs(Check.desk("reach 7 7 0;reach 9 9 0;field a 0 1;field b 0 1;field c 1 1;"), 10080, 0, 1, 2);
        // b d (NODE 0) and a c (NODE 1) in any way that fills REACH 1 once: a c ahead of b d is the first by FIELDS
        orderIs(Check.desk("reach 1 0 0;reach 2 0 0;field a 1 1;field b 0 1;field c 1 1;field d 0 1;"), 10077, 0, 2, 1, 3);
    }

    private static void orderNone() {
        Check.says("Promise 36", "NONE: no such place; -3: the place is below NONE; -5: there is no FIELD.");
        WarabandiDesk x = Check.desk(EIGHT);
        Check.due("order(7)", x.order(7), 7);
        Check.due("order(8)", x.order(8), -1);
        Check.due("order(MAX)", x.order(MAX), -1);
        Check.due("order(-2)", x.order(-2), -3);
        Check.due("order(MIN)", x.order(MIN), -3);
        x = Check.desk(NO_FIELD);
        Check.due("order(0) without a FIELD", x.order(0), -5);
        Check.due("order(-1) without a FIELD", x.order(-1), -5);
        Check.due("order(8) without a FIELD", x.order(8), -5);
    }

    private static void even() {
        Check.says("Promise 37", "The BY (0 to how many FIELDS there are less 1; EVERY as it is) by which, in n WEEKS (1 to 52) from 0 on, "
                + "the FIELD with most NIGHT in them together has the fewest minutes more than that with least, "
                + "of like ones the least (what 0), or these minutes (1).");
        // one alone has no other BY, whatever BY is
        WarabandiDesk x = Check.desk(ALONE + "rotate 1 7;");
        Check.due("even(52, 0) of one alone", x.even(52, 0), 0);
        Check.due("even(52, 1) of one alone", x.even(52, 1), 0);
        // a has 2880 minutes of the night if it is the first one, b 2160
        x = Check.desk(HALVES + "night 0 12;rotate 1 7;");
        int[][] due = {{1, 0, 720}, {2, 1, 0}, {3, 1, 720}, {51, 1, 720}, {52, 1, 0}};
        for (int[] row : due) {
            Check.due("even(" + row[0] + ", 0)", x.even(row[0], 0), row[1]);
            Check.due("even(" + row[0] + ", 1)", x.even(row[0], 1), row[2]);
        }
        // EVERY 52: never turned, so all are alike
        x.turn(52, 1);
        Check.due("even(52, 0) by EVERY 52", x.even(52, 0), 0);
        Check.due("even(52, 1) by EVERY 52", x.even(52, 1), 52 * 720);
        // EVERY 51: turned in WEEK 51 alone
        x.turn(51, 0);
        Check.due("even(51, 0) by EVERY 51", x.even(51, 0), 0);
        Check.due("even(52, 0) by EVERY 51", x.even(52, 0), 1);
        Check.due("even(52, 1) by EVERY 51", x.even(52, 1), 50 * 720);
        // turned by 1, each one is at each place once in eight weeks
        x = Check.desk(EIGHT + "night 0 3;");
        Check.due("even(8, 1) of eight", x.even(8, 1), 0);
        Check.due("even(8, 0) of eight", x.even(8, 0), 1);
        // no night, and WEEKS that FAIL: all have 0
        Check.due("even(52, 0) without a night", Check.desk(HALVES + "night 5 5;").even(52, 0), 0);
        Check.due("even(1, 1) of a WEEK that FAILS", Check.desk(FAILS).even(1, 1), 0);
    }

    private static void evenRefused() {
        Check.says("Promise 37", "-2: what; -3; -5: there is no FIELD.");
        WarabandiDesk x = Check.desk(HALVES);
        Check.due("even(1, 2)", x.even(1, 2), -2);
        Check.due("even(1, -1)", x.even(1, -1), -2);
        Check.due("even(0, 0)", x.even(0, 0), -3);
        Check.due("even(-1, 0)", x.even(-1, 0), -3);
        Check.due("even(53, 0)", x.even(53, 0), -3);
        Check.due("even(1, 1)", x.even(1, 1), 0);
        Check.due("even(1, 0) without a FIELD", Check.desk(NO_FIELD).even(1, 0), -5);
    }

    private static void partners() {
        Check.says("Promise 38", "FIELDS (bits) with which a FIELD, by a SWAP more in a WEEK, would have less NIGHT then, the other one no more.");
        // minutes 720, 6480, 1440, 1440: a has one first hour, behind the others none; c and d have one anywhere;
        // b has four, but five if it is the first one
        WarabandiDesk x = Check.desk("reach 0 0 0;field a 0 1;field b 0 9;field c 0 2;field d 0 2;night 0 1;");
        Check.due("partners(0, 0): as much for c and d, more for b", x.partners(0, 0), 4 + 8);
        Check.due("partners(0, 1): not less", x.partners(0, 1), 0);
        Check.due("partners(0, 2): as much is not less", x.partners(0, 2), 0);
        // FIELD 0, too; ROSTER a b d c
        x = Check.desk("reach 0 0 0;field c 0 2;field b 0 9;field d 0 2;field a 0 1;night 0 1;swap 0 a c;");
        Check.due("partners(0, 3)", x.partners(0, 3), 1 + 4);
        Check.due("partners(0, 3) again", x.partners(0, 3), 1 + 4);
        // a SWAP more, though there are twelve
        x = Check.desk("reach 0 0 0;field a 0 1;field b 0 9;field c 0 2;field d 0 2;night 0 1;" + "swap 5 a b;".repeat(12));
        Check.due("partners(0, 0) with twelve SWAPS", x.partners(0, 0), 12);
        Check.due("count(2)", x.count(2), 12);
        Check.due("partners(0, 0) of one alone", Check.desk(ALONE).partners(0, 0), 0);
        Check.due("partners(0, 0) without a night", Check.desk(HALVES + "night 0 0;").partners(0, 0), 0);
        // 21 hours each: the first one has the hour from 0 to 1, the last one from 3 o'clock on none
        x = Check.desk(EIGHT + "night 0 1;");
        Check.due("inTurn(0, 0, 7)", x.inTurn(0, 0, 7), 60);
        Check.due("inTurn(0, 7, 7)", x.inTurn(0, 7, 7), 0);
        Check.due("partners(0, 0): more for h", x.partners(0, 0), 0);
        // but if h is 24 hours long, it has one anywhere, and a none as the last one
        x = Check.desk(EIGHT.replace(" 0 1;", " 0 21;").replace("h 0 21;", "h 0 24;").replace("g 0 21;", "g 0 18;") + "night 0 1;");
        Check.due("inTurn(0, 7, 7)", x.inTurn(0, 7, 7), 60);
        Check.due("partners(0, 0): the eighth bit", x.partners(0, 0), 128);
    }

    private static void partnersThatFail() {
        Check.says("Promise 38", "(The WEEK doesn't FAIL with it.)");
        WarabandiDesk x = Check.desk(FAILS + "rotate 1 1;");
        Check.due("partners(1, 0)", x.partners(1, 0), 0);
        Check.due("partners(1, 1)", x.partners(1, 1), 0);
    }

    private static void partnersRefused() {
        Check.says("Promise 38", "-2; -3; -6: as it is.");
        WarabandiDesk x = Check.desk(FAILS + "rotate 1 1;");
        Check.due("partners(0, 0)", x.partners(0, 0), -6);
        Check.due("partners(0, 1)", x.partners(0, 1), -6);
        Check.due("partners(0, 2)", x.partners(0, 2), -2);
        Check.due("partners(0, -1)", x.partners(0, -1), -2);
        Check.due("partners(52, 0)", x.partners(52, 0), -3);
        Check.due("partners(-1, 0)", x.partners(-1, 0), -3);
        Check.due("partners(51, 0)", x.partners(51, 0), 0);
    }

    private static void matched() {
        Check.says("Promise 39", "MATCHED: with whom a FIELD is (field NONE: the greatest NIGHT then).");
        WarabandiDesk x = Check.desk("reach 0 0 0;field a 0 22;field b 0 1;field c 0 1;night 0 1;");
        Check.due("matched(51, 0)", x.matched(51, 0), 1);
        Check.due("matched(51, 1)", x.matched(51, 1), 0);
        Check.due("matched(51, -1)", x.matched(51, -1), 360);
        Check.says("Promise 39", "NONE: with none; -2; -3; -5: there is no FIELD; -6: as it is.");
        Check.due("matched(51, 2)", x.matched(51, 2), -1);
        Check.due("matched(0, 3)", x.matched(0, 3), -2);
        Check.due("matched(0, -2)", x.matched(0, -2), -2);
        Check.due("matched(0, MIN)", x.matched(0, MIN), -2);
        Check.due("matched(52, 0)", x.matched(52, 0), -3);
        Check.due("matched(-1, -1)", x.matched(-1, -1), -3);
        x = Check.desk(NO_FIELD);
        Check.due("matched(0, -1) without a FIELD", x.matched(0, -1), -5);
        Check.due("matched(0, 0) without a FIELD", x.matched(0, 0), -2);
        // as it is WEEK 0 FAILS, though by a couple it would not
        x = Check.desk(FAILS);
        Check.due("matched(0, -1) of a WEEK that FAILS", x.matched(0, -1), -6);
        Check.due("matched(0, 0) of a WEEK that FAILS", x.matched(0, 0), -6);
    }

    private static void nights() {
        Check.says("Promise 40", "NIGHT of a FIELD in WEEKS from one to another one (both too), together.");
        WarabandiDesk x = Check.desk(HALVES + "night 0 12;swap 1 a b;swap 51 a b;");
        int[][] due = {{0, 0, 2880}, {1, 1, 2160}, {0, 1, 5040}, {1, 2, 5040}, {50, 51, 5040}, {51, 51, 2160},
            {0, 51, 50 * 2880 + 2 * 2160}};
        for (int[] row : due) {
            Check.due("nights(" + row[0] + ", " + row[1] + ", 0)", x.nights(row[0], row[1], 0), row[2]);
        }
        // a LEND is of its own WEEK
        WarabandiDesk y = Check.desk(HALVES + "night 0 12;lend 51 a b 720;");
        Check.due("nights(50, 50, 0)", y.nights(50, 50, 0), 2880);
        Check.due("nights(51, 51, 0)", y.nights(51, 51, 0), 2160);
        Check.says("Promise 40", "-2; -3: a WEEK, the second one below the first.");
        Check.due("nights(1, 0, 0)", x.nights(1, 0, 0), -3);
        Check.due("nights(51, 50, 0)", x.nights(51, 50, 0), -3);
        Check.due("nights(-1, 0, 0)", x.nights(-1, 0, 0), -3);
        Check.due("nights(0, 52, 0)", x.nights(0, 52, 0), -3);
        Check.due("nights(52, 52, 0)", x.nights(52, 52, 0), -3);
        Check.due("nights(-1, -1, 0)", x.nights(-1, -1, 0), -3);
        Check.due("nights(0, 0, 2)", x.nights(0, 0, 2), -2);
        Check.due("nights(0, 0, -1)", x.nights(0, 0, -1), -2);
    }

    private static void soakedAre(WarabandiDesk x, int flow, int left, int least, int most) {
        Check.due("soaked(" + flow + ", " + left + ", false)", x.soaked(flow, left, false), least);
        Check.due("soaked(" + flow + ", " + left + ", true)", x.soaked(flow, left, true), most);
    }

    private static void soaked() {
        Check.says("Promise 41", "The least SOAK (most false), or the greatest, by which of a flow (1 to 999) just so much (0 to it) "
                + "is left behind a REACH.");
        WarabandiDesk x = new WarabandiDesk();
        soakedAre(x, 1, 1, 0, 500);
        soakedAre(x, 2, 2, 0, 499);
        soakedAre(x, 2, 1, 500, 500);
        soakedAre(x, 999, 999, 0, 1);
        soakedAre(x, 999, 998, 2, 2);
        soakedAre(x, 999, 501, 499, 499);
        soakedAre(x, 999, 500, 500, 500);
        soakedAre(x, 500, 500, 0, 1);
        soakedAre(x, 500, 250, 500, 500);
        soakedAre(x, 501, 251, 500, 500);
        soakedAre(x, 3, 2, 334, 500);
        // what was told does not matter
        x = Check.desk("reach 0 0 500;flow 7;");
        soakedAre(x, 3, 2, 334, 500);
    }

    private static void soakedNone() {
        Check.says("Promise 41", "NONE: by none; -3.");
        WarabandiDesk x = new WarabandiDesk();
        soakedAre(x, 1, 0, -1, -1);
        soakedAre(x, 2, 0, -1, -1);
        soakedAre(x, 999, 499, -1, -1);
        soakedAre(x, 999, 0, -1, -1);
        soakedAre(x, 500, 249, -1, -1);
        int[][] wrong = {{0, 0}, {-1, 0}, {1000, 1000}, {1000, 500}, {1, 2}, {999, 1000}, {5, -1}, {MIN, MIN}, {MAX, MAX}, {5, MIN}};
        for (int[] n : wrong) {
            soakedAre(x, n[0], n[1], -3, -3);
        }
    }

    private static void fairest() {
        Check.says("Promise 42", "The greatest of the least DEPTHS of a FIELD in a WEEK that there are by BY 0 to how many FIELDS "
                + "there are less 1 (all else as it is).");
        Check.due("fairest(0) of one alone", Check.desk(ALONE + "rotate 1 7;").fairest(0), 6048);
        // 5040 minutes each; in WEEK 1 the first one has 2520 of them, in WEEK 0 none
        WarabandiDesk x = Check.desk("reach 0 0 0;field a 0 10;field b 0 10;shut 1 0 2520;shut 0 0 5040;");
        Check.due("fairest(1)", x.fairest(1), 2520 * 60 / 10);
        Check.due("fairest(0) of nothing", x.fairest(0), 0);
        // minutes 3360 and 6720: a as the first one has nothing, b as the first one 3360
        x = Check.desk("reach 0 0 0;field a 0 10;field b 0 20;shut 1 0 3360;rotate 1 0;");
        Check.due("depth(1, 0)", x.depth(1, 0), 0);
        Check.due("fairest(1) by the last BY there is", x.fairest(1), 3360 * 60 / 20);
        x.turn(2, 1);
        Check.due("fairest(1) not turned yet by EVERY 2", x.fairest(1), 0);
        Check.due("fairest(0) of a WEEK that FAILS", Check.desk(FAILS).fairest(0), 0);
        Check.due("fairest(1) of one that does not FAIL by BY 1", Check.desk(FAILS).fairest(1), 600);
        Check.says("Promise 42", "-3; -5: there is no FIELD.");
        Check.due("fairest(52)", x.fairest(52), -3);
        Check.due("fairest(-1)", x.fairest(-1), -3);
        Check.due("fairest(51)", x.fairest(51), 20160);
        Check.due("fairest(0) without a FIELD", Check.desk(NO_FIELD).fairest(0), -5);
    }

    private static void balance() {
        Check.says("Promise 43", "Minutes that a FIELD lent to another one in WEEKS 0 to this one, less those that it was lent by that one");
        WarabandiDesk x = Check.desk(EIGHT + "lend 0 a b 999;lend 1 b a 1;lend 51 a b 7;lend 1 b c 50;");
        int[][] due = {{0, 0, 1, 999}, {1, 0, 1, 998}, {50, 0, 1, 998}, {51, 0, 1, 1005}, {51, 1, 0, -1005}, {51, 1, 2, 50},
            {0, 1, 2, 0}, {51, 0, 2, 0}};
        for (int[] row : due) {
            Check.due("balance(" + row[0] + ", " + row[1] + ", " + row[2] + ")", x.balance(row[0], row[1], row[2]), 100000 + row[3]);
        }
        Check.due("balance(51, 0, 0) with itself", x.balance(51, 0, 0), 100000);
        // the most that can be lent: twelve times 999, one each WEEK
        x = Check.desk(HALVES);
        for (int week = 0; week < 12; week++) {
            x.lend(week, 0, 1, 999);
        }
        Check.due("balance(51, 0, 1) of all", x.balance(51, 0, 1), 111988);
        Check.due("balance(51, 1, 0) of all", x.balance(51, 1, 0), 88012);
        Check.due("balance(10, 0, 1) of all but one", x.balance(10, 0, 1), 110989);
    }

    private static void balanceAside() {
        Check.says("Promise 43", "(VOID ones and those of a WEEK that FAILS aside), told 100,000 more. -2; -3.");
        // of 1260 minutes 1260 can be lent, but not 1261
        WarabandiDesk x = Check.desk(EIGHT + "lend 0 a b 999;lend 0 a b 262;lend 0 a b 261;lend 0 a b 1;");
        Check.due("balance(0, 0, 1) without VOID ones", x.balance(0, 0, 1), 101260);
        x = Check.desk(FAILS + "rotate 1 1;lend 0 a b 5;lend 1 a b 7;lend 2 b a 1;");
        Check.due("balance(0, 0, 1) of a WEEK that FAILS", x.balance(0, 0, 1), 100000);
        Check.due("balance(51, 0, 1)", x.balance(51, 0, 1), 100007);
        Check.due("balance(0, 2, 0)", x.balance(0, 2, 0), -2);
        Check.due("balance(0, 0, 2)", x.balance(0, 0, 2), -2);
        Check.due("balance(0, -1, 0)", x.balance(0, -1, 0), -2);
        Check.due("balance(0, 0, -1)", x.balance(0, 0, -1), -2);
        Check.due("balance(52, 0, 1)", x.balance(52, 0, 1), -3);
        Check.due("balance(-1, 0, 1)", x.balance(-1, 0, 1), -3);
    }

    private static void settles() {
        Check.says("Promise 44", "The fewest payments of minutes (each from one FIELD to another one) by which all that was lent in WEEKS "
                + "0 to this one (likewise) would be settled.");
        Check.due("settles(51) of nothing lent", Check.desk(EIGHT).settles(51), 0);
        String[][] rows = {{"lend 0 a b 5;", "1"}, {"lend 0 a b 5;lend 1 b a 5;", "0"}, {"lend 0 a b 5;lend 1 b a 4;", "1"},
            {"lend 0 a b 5;lend 0 b c 5;lend 0 c d 5;", "1"}, {"lend 0 a b 5;lend 0 b c 5;lend 0 c a 5;", "0"},
            // four couples; and one group of eight
            {"lend 0 a b 1;lend 0 c d 2;lend 0 e f 3;lend 0 g h 4;", "4"},
            {"lend 0 a b 1;lend 0 a c 2;lend 0 a d 4;lend 0 a e 8;lend 0 a f 16;lend 0 a g 32;lend 0 a h 64;", "7"},
            // a 3, b 3, c 2 were lent by d 6, e 2: two groups
            {"lend 0 d a 3;lend 0 d b 1;lend 0 d c 2;lend 0 e b 2;", "3"}};
        for (String[] row : rows) {
            Check.due("settles(51) of " + row[0], Check.desk(EIGHT + row[0]).settles(51), Integer.parseInt(row[1]));
        }
        WarabandiDesk x = Check.desk(EIGHT + "lend 0 a b 5;lend 1 b a 5;");
        Check.due("settles(0) ahead of what is paid back", x.settles(0), 1);
        Check.due("settles(1) behind what is paid back", x.settles(1), 0);
        x = Check.desk(EIGHT + "lend 0 a b 5;lend 51 c d 5;");
        Check.due("settles(0)", x.settles(0), 1);
        Check.due("settles(50)", x.settles(50), 1);
        Check.due("settles(51)", x.settles(51), 2);
    }

    private static void settlesAside() {
        Check.says("Promise 44", "(likewise) would be settled. -3.");
        WarabandiDesk x = Check.desk(EIGHT + "lend 0 a b 999;lend 0 a c 999;");
        Check.due("settles(0) with a VOID one", x.settles(0), 1);
        Check.due("settles(52)", x.settles(52), -3);
        Check.due("settles(-1)", x.settles(-1), -3);
        x = Check.desk(FAILS + "lend 0 a b 5;");
        Check.due("settles(0) of a WEEK that FAILS", x.settles(0), 0);
        Check.due("settles(0) without a FIELD", new WarabandiDesk().settles(0), 0);
    }

    private static void count() {
        Check.says("Promise 45", "0 REACHES, 1 FIELDS, 2 SWAPS, 3 LENDS, 4 SHUTS, 5 HEAD, 6 TAIL (NONE), 7 LAND of all, "
                + "8 ACTS that can be UNDONE, 9 bytes on THE TAPE.");
        WarabandiDesk x = Check.desk("reach 0 0 0;".repeat(10) + EIGHT.substring(12).replace(" 1;", " 999;"));
        x.feed(0, 0, 0, 0, 0);
        for (int k = 0; k < 12; k++) {
            x.swap(0, 0, 1);
            x.lend(0, 0, 1, 1);
        }
        for (int k = 0; k < 6; k++) {
            x.shut(0, 0, 1);
        }
        int[] full = {10, 8, 12, 12, 6, 0, 0, 7992, 10, 20};
        for (int what = 0; what < full.length; what++) {
            Check.due("count(" + what + ") of all there can be", x.count(what), full[what]);
        }
        x = Check.desk(NO_FIELD);
        Check.due("count(5) without a FIELD", x.count(5), -1);
        Check.due("count(6) without a FIELD", x.count(6), -1);
        Check.due("count(7) without a FIELD", x.count(7), 0);
        Check.says("Promise 45", "NONE for others.");
        for (int what : new int[] {-1, 10, MIN, MAX}) {
            Check.due("count(" + what + ")", x.count(what), -1);
        }
    }
}
