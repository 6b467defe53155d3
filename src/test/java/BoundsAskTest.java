/** The boundary cases that the promises 19 to 34 name: a week, land and soil. */
public final class BoundsAskTest {
    private static final int MAX = Integer.MAX_VALUE;
    private static final int MIN = Integer.MIN_VALUE;
    private static final String HALVES = "reach 0 0 0;field a 0 10;field b 0 10;";
    /** ROSTER a b c: FILL 10, 50, 0; DRAIN 0, 7, 11; NET 10038; SHARE 2510, 5019, 2509; TURN 2520, 5062, 2498. */
    private static final String TRIO = "reach 10 5 0;reach 20 6 0;reach 30 7 0;"
            + "field a 0 100;field b 2 200;field c 1 100;";
    private static final String FAILS = "reach 0 60 0;field a 0 999;field b 0 1;";
    private static final String SHORT = "reach 0 0 0;reach 60 30 0;field a 0 999;field b 1 1;";
    /** DEPTH is 100.8 times FLOW, cut. */
    private static final String ALONE = "reach 0 0 0;field a 0 100;";
    private static final String NO_FIELD = "reach 1 2 3;";

    public static void main(String[] args) {
        roster();
        inTurn();
        inTurnRefused();
        net();
        weight();
        fails();
        isVoid();
        water();
        all();
        at();
        atNone();
        atRefused();
        when();
        whenNone();
        depth();
        first();
        soil();
        dry();
        tail();
        leastFlow();
        leastFlowNone();
        Check.end();
    }

    private static void roster() {
        Check.says("Promise 19", "The FIELD at a place (from 0 on) of the ROSTER.");
        WarabandiDesk x = Check.desk(TRIO + "swap 51 a c;");
        Check.due("roster(0, 0)", x.roster(0, 0), 0);
        Check.due("roster(51, 0)", x.roster(51, 0), 2);
        Check.due("roster(51, 2)", x.roster(51, 2), 0);
        Check.due("roster(0, 0) of one", Check.desk(ALONE).roster(0, 0), 0);
        Check.says("Promise 19", "NONE: no such place; -3: the WEEK, the place below 0.");
        Check.due("roster(51, 3)", x.roster(51, 3), -1);
        Check.due("roster(0, 7)", x.roster(0, 7), -1);
        Check.due("roster(0, 8)", x.roster(0, 8), -1);
        Check.due("roster(0, MAX)", x.roster(0, MAX), -1);
        Check.due("roster(52, 0)", x.roster(52, 0), -3);
        Check.due("roster(-1, 0)", x.roster(-1, 0), -3);
        Check.due("roster(0, -1)", x.roster(0, -1), -3);
        Check.due("roster(0, MIN)", x.roster(0, MIN), -3);
        Check.due("roster(0, 0) without a FIELD", Check.desk(NO_FIELD).roster(0, 0), -1);
        Check.due("roster(0, 0) of a WEEK that FAILS", Check.desk(FAILS).roster(0, 0), 0);
    }

    private static void inTurn() {
        Check.says("Promise 20", "Of a FIELD in a WEEK, what 0 its place in the ROSTER, 1 FILL, 2 DRAIN, 3 SHARE, 4 TURN, 5 LENGTH, "
                + "6 the minute of the WEEK in which it begins, 7 NIGHT, 8 minutes of it that are FILLING, "
                + "9 minutes that are SHUT, but not FILLING.");
        WarabandiDesk x = Check.desk(TRIO + "lend 51 a b 20;shut 51 2490 2560;");
        int[][] due = {{0, 10, 0, 2510, 2520, 2500, 0, 1080, 10, 10}, {1, 50, 7, 5019, 5062, 5082, 2500, 2880, 50, 10},
            {2, 0, 11, 2509, 2498, 2498, 7582, 1080, 0, 0}};
        for (int f = 0; f < 3; f++) {
            for (int what = 0; what < 10; what++) {
                Check.due("inTurn(51, " + f + ", " + what + ")", x.inTurn(51, f, what), due[f][what]);
            }
        }
        // one alone has it all
        x = Check.desk("reach 60 60 0;".repeat(10) + "field a 9 5;shut 0 0 10080;");
        int[] alone = {0, 600, 600, 10080, 10080, 10080, 0, 5040, 600, 9480};
        for (int what = 0; what < 10; what++) {
            Check.due("inTurn(0, 0, " + what + ") of one alone", x.inTurn(0, 0, what), alone[what]);
        }
    }

    private static void inTurnRefused() {
        Check.says("Promise 20", "-2; -3; -6 (of 4 to 9).");
        WarabandiDesk x = Check.desk(FAILS);
        int[] due = {1, 0, 60, 10, -6, -6, -6, -6, -6, -6, -2};
        for (int what = 0; what < due.length; what++) {
            Check.due("inTurn(0, 1, " + what + ")", x.inTurn(0, 1, what), due[what]);
        }
        Check.due("inTurn(0, 1, -1)", x.inTurn(0, 1, -1), -2);
        Check.due("inTurn(0, 2, 0)", x.inTurn(0, 2, 0), -2);
        Check.due("inTurn(0, -1, 0)", x.inTurn(0, -1, 0), -2);
        Check.due("inTurn(52, 0, 0)", x.inTurn(52, 0, 0), -3);
        Check.due("inTurn(-1, 0, 9)", x.inTurn(-1, 0, 9), -3);
        Check.due("inTurn(51, 0, 0)", x.inTurn(51, 0, 0), 0);
    }

    private static void net() {
        Check.says("Promise 21", "NET of a WEEK. -3; -5: there is no FIELD.");
        WarabandiDesk x = Check.desk(TRIO);
        Check.due("net(0)", x.net(0), 10038);
        Check.due("net(51)", x.net(51), 10038);
        Check.due("net(52)", x.net(52), -3);
        Check.due("net(-1)", x.net(-1), -3);
        x = Check.desk(NO_FIELD);
        Check.due("net(0) without a FIELD", x.net(0), -5);
        Check.due("net(0) of a WEEK that FAILS", Check.desk(FAILS).net(0), 10140);
    }

    private static void weight() {
        Check.says("Promise 22", "WEIGHT of a FIELD. -2.");
        WarabandiDesk x = Check.desk(FAILS);
        Check.due("weight(0)", x.weight(0), 999);
        Check.due("weight(1)", x.weight(1), 1);
        Check.due("weight(2)", x.weight(2), -2);
        Check.due("weight(-1)", x.weight(-1), -2);
        Check.due("weight(0) without a FIELD", Check.desk(NO_FIELD).weight(0), -2);
    }

    private static void fails() {
        Check.says("Promise 23", "Whether a WEEK FAILS: 1, else 0. -3.");
        WarabandiDesk x = Check.desk(FAILS + "rotate 1 1;");
        Check.due("fails(50)", x.fails(50), 1);
        Check.due("fails(51)", x.fails(51), 0);
        Check.due("fails(52)", x.fails(52), -3);
        Check.due("fails(-1)", x.fails(-1), -3);
        Check.due("fails(0) without a FIELD", Check.desk(NO_FIELD).fails(0), 0);
        Check.due("fails(0) of a new one", new WarabandiDesk().fails(0), 0);
    }

    private static void isVoid() {
        Check.says("Promise 24", "Of the k-th LEND (as told) whether it is VOID: 1, else 0.");
        // a can lend 2510 in WEEK 51, and in WEEK 0 again
        WarabandiDesk x = Check.desk(TRIO + "lend 51 a b 999;lend 0 a b 999;lend 51 a b 999;lend 51 a b 513;lend 51 a b 512;");
        int[] due = {0, 0, 0, 1, 0};
        for (int k = 0; k < due.length; k++) {
            Check.due("isVoid(" + k + ")", x.isVoid(k), due[k]);
        }
        for (int k = 5; k < 12; k++) {
            x.lend(0, 2, 0, 1);
        }
        Check.due("isVoid(11)", x.isVoid(11), 0);
        // as all is then: with less LAND a can't lend as much
        WarabandiDesk y = Check.desk(HALVES + "lend 0 a b 999;");
        Check.due("isVoid(0)", y.isVoid(0), 0);
        y.land(1, 999);
        Check.due("isVoid(0) by less LAND", y.isVoid(0), 1);
        y.undo();
        Check.due("isVoid(0) again", y.isVoid(0), 0);
        Check.says("Promise 24", "NONE: not so many; -3: k is below 0; -6: its WEEK.");
        Check.due("isVoid(12)", x.isVoid(12), -1);
        Check.due("isVoid(MAX)", x.isVoid(MAX), -1);
        Check.due("isVoid(-1)", x.isVoid(-1), -3);
        Check.due("isVoid(MIN)", x.isVoid(MIN), -3);
        Check.due("isVoid(0) of none", Check.desk(TRIO).isVoid(0), -1);
        x = Check.desk(FAILS + "rotate 1 1;lend 0 a b 5;lend 1 a b 5;");
        Check.due("isVoid(0) of a WEEK that FAILS", x.isVoid(0), -6);
        Check.due("isVoid(1)", x.isVoid(1), 0);
    }

    private static void water() {
        Check.says("Promise 25", "WATER. -2; -3.");
        WarabandiDesk x = Check.desk(HALVES + "shut 51 0 10080;");
        Check.due("water(0, 1)", x.water(0, 1), 5040 * 60);
        Check.due("water(51, 1)", x.water(51, 1), 0);
        Check.due("water(0, 2)", x.water(0, 2), -2);
        Check.due("water(0, -1)", x.water(0, -1), -2);
        Check.due("water(52, 0)", x.water(52, 0), -3);
        Check.due("water(-1, 0)", x.water(-1, 0), -3);
    }

    private static void all() {
        Check.says("Promise 26", "WATER of all together. -3.");
        WarabandiDesk x = Check.desk(HALVES + "shut 51 0 5041;flow 999;");
        Check.due("all(0)", x.all(0), 10080L * 999);
        Check.due("all(51)", x.all(51), 5039L * 999);
        Check.due("all(52)", x.all(52), -3);
        Check.due("all(-1)", x.all(-1), -3);
        x = Check.desk("reach 0 0 0;field a 0 1;field b 0 2;field c 0 3;field d 0 4;field e 0 5;field f 0 6;field g 0 7;field h 0 8;");
        Check.due("all(0) of eight", x.all(0), 10080 * 60);
        Check.due("all(0) without a FIELD", Check.desk(NO_FIELD).all(0), 0);
        Check.due("all(0) of a WEEK that FAILS", Check.desk(FAILS).all(0), 0);
    }

    private static void at() {
        Check.says("Promise 27", "Whose LENGTH a MINUTE is in (what 0), or whether it is FILLING (1), SHUT (2), by night (3): 1, else 0.");
        WarabandiDesk x = Check.desk(TRIO + "shut 0 2500 2600;");
        int[][] due = {{0, 0, 1, 0, 1}, {9, 0, 1, 0, 1}, {10, 0, 0, 0, 1}, {359, 0, 0, 0, 1}, {360, 0, 0, 0, 0},
            {1079, 0, 0, 0, 0}, {1080, 0, 0, 0, 1}, {2499, 0, 0, 0, 0}, {2500, 0, 0, 1, 0}, {2519, 0, 0, 1, 0},
            {2520, 1, 1, 1, 1}, {2569, 1, 1, 1, 1}, {2570, 1, 0, 1, 1}, {2599, 1, 0, 1, 1}, {2600, 1, 0, 0, 1},
            {7581, 1, 0, 0, 0}, {7582, 2, 0, 0, 0}, {10079, 2, 0, 0, 1}, {10080, 0, 1, 0, 1}};
        for (int[] row : due) {
            for (int what = 0; what < 4; what++) {
                Check.due("at(" + row[0] + ", " + what + ")", x.at(row[0], what), row[what + 1]);
            }
        }
    }

    private static void atNone() {
        Check.says("Promise 27", "NONE: ahead of START, behind WEEK 51, the WEEK FAILS, there is no FIELD");
        WarabandiDesk x = Check.desk(HALVES + "start 10079;");
        int[][] due = {{0, -1}, {10078, -1}, {10079, 0}, {10079 + 524159, 1}, {10079 + 524160, -1}, {MAX, -1}};
        for (int[] row : due) {
            Check.due("at(" + row[0] + ", 0)", x.at(row[0], 0), row[1]);
        }
        for (int what = 0; what < 4; what++) {
            Check.due("at(10078, " + what + ") ahead of START", x.at(10078, what), -1);
            Check.due("at(534239, " + what + ") behind WEEK 51", x.at(534239, what), -1);
        }
        x = Check.desk(FAILS + "rotate 1 1;shut 0 0 10080;");
        WarabandiDesk y = Check.desk(NO_FIELD + "shut 0 0 10080;");
        for (int what = 0; what < 4; what++) {
            Check.due("at(0, " + what + ") of a WEEK that FAILS", x.at(0, what), -1);
            Check.due("at(10079, " + what + ") of a WEEK that FAILS", x.at(10079, what), -1);
            Check.due("at(0, " + what + ") without a FIELD", y.at(0, what), -1);
        }
        Check.due("at(10080, 0) of the next WEEK", x.at(10080, 0), 1);
    }

    private static void atRefused() {
        Check.says("Promise 27", "-2: what; -3: below 0.");
        WarabandiDesk x = Check.desk(HALVES);
        Check.due("at(0, 4)", x.at(0, 4), -2);
        Check.due("at(0, -1)", x.at(0, -1), -2);
        Check.due("at(-1, 0)", x.at(-1, 0), -3);
        Check.due("at(MIN, 3)", x.at(MIN, 3), -3);
        Check.due("at(0, 3)", x.at(0, 3), 1);
    }

    private static void when() {
        Check.says("Promise 28", "The first MINUTE from one on that is in the LENGTH of a FIELD, neither FILLING nor SHUT.");
        WarabandiDesk x = Check.desk(TRIO + "start 500;shut 0 5 11;shut 0 2519 2571;shut 0 2571 2572;shut 51 10079 10080;");
        int[][] due = {{0, 0, 511}, {0, 510, 511}, {0, 511, 511}, {0, 3018, 3018}, {0, 3019, 10590}, {1, 0, 3072},
            {1, 3071, 3072}, {1, 3072, 3072}, {1, 8081, 8081}, {1, 8082, 13150}, {2, 0, 8082}, {2, 10579, 10579},
            {2, 10580, 18162}, {0, 10580, 10590}, {2, 524658, 524658}, {2, 524659, -1}};
        for (int[] row : due) {
            Check.due("when(" + row[0] + ", " + row[1] + ")", x.when(row[0], row[1]), row[2]);
        }
        // a WEEK that FAILS is left out
        x = Check.desk(FAILS + "rotate 1 1;");
        Check.due("when(1, 0) behind a WEEK that FAILS", x.when(1, 0), 10080);
        Check.due("when(1, 10090)", x.when(1, 10090), 30240);
        Check.due("when(0, 20159)", x.when(0, 20159), 20159);
        Check.due("when(0, 20160)", x.when(0, 20160), 30250);
        Check.due("when(0, 0) at once", Check.desk(ALONE).when(0, 0), 0);
        // six whole weeks are shut
        x = Check.desk(HALVES + "shut 0 0 10080;shut 1 0 10080;shut 2 0 10080;shut 3 0 10080;shut 4 0 10080;shut 5 0 10080;");
        Check.due("when(1, 0) behind six that are SHUT", x.when(1, 0), 60480 + 5040);
    }

    private static void whenNone() {
        Check.says("Promise 28", "NONE: there is none; -2; -3: below 0.");
        WarabandiDesk x = Check.desk(HALVES + "start 10079;");
        Check.due("when(1, 534238)", x.when(1, 534238), 534238);
        Check.due("when(1, 534239)", x.when(1, 534239), -1);
        Check.due("when(0, 534238)", x.when(0, 534238), -1);
        Check.due("when(0, MAX)", x.when(0, MAX), -1);
        Check.due("when(2, 0)", x.when(2, 0), -2);
        Check.due("when(-1, 0)", x.when(-1, 0), -2);
        Check.due("when(0, -1)", x.when(0, -1), -3);
        Check.due("when(0, MIN)", x.when(0, MIN), -3);
        Check.due("when(0, 0) if all FAIL", Check.desk(FAILS).when(0, 0), -1);
        Check.due("when(1, 0) if all is FILLING", Check.desk(SHORT).when(1, 0), -1);
    }

    private static void depth() {
        Check.says("Promise 29", "DEPTH. -2; -3.");
        WarabandiDesk x = Check.desk(ALONE + "shut 51 0 10080;");
        Check.due("depth(0, 0)", x.depth(0, 0), 6048);
        Check.due("depth(51, 0)", x.depth(51, 0), 0);
        Check.due("depth(0, 1)", x.depth(0, 1), -2);
        Check.due("depth(0, -1)", x.depth(0, -1), -2);
        Check.due("depth(52, 0)", x.depth(52, 0), -3);
        Check.due("depth(-1, 0)", x.depth(-1, 0), -3);
    }

    private static void first() {
        Check.says("Promise 30", "The FIELD with the least (most false) or greatest DEPTH in a WEEK, of like ones the first.");
        // b and c are alike, and so are a and d, which have a half of their minutes SHUT
        WarabandiDesk x = Check.desk("reach 0 0 0;field a 0 10;field b 0 10;field c 0 10;field d 0 10;shut 1 0 1260;shut 1 8820 10080;");
        Check.due("first(0, false) of four alike", x.first(0, false), 0);
        Check.due("first(0, true) of four alike", x.first(0, true), 0);
        Check.due("first(1, false)", x.first(1, false), 0);
        Check.due("first(1, true)", x.first(1, true), 1);
        x.move(2, 0);
        Check.due("first(0, true) in another ORDER", x.first(0, true), 0);
        Check.due("first(0, true) of one", Check.desk(ALONE).first(0, true), 0);
        Check.due("first(0, true) of a WEEK that FAILS", Check.desk(FAILS).first(0, true), 0);
        Check.says("Promise 30", "NONE: there is no FIELD; -3.");
        Check.due("first(0, true) without a FIELD", Check.desk(NO_FIELD).first(0, true), -1);
        Check.due("first(0, false) without a FIELD", Check.desk(NO_FIELD).first(0, false), -1);
        Check.due("first(51, true)", x.first(51, true), 0);
        Check.due("first(52, true)", x.first(52, true), -3);
        Check.due("first(-1, false)", x.first(-1, false), -3);
    }

    private static void soil() {
        Check.says("Promise 31", "SOIL of a FIELD behind a WEEK. -2; -3.");
        // DEPTH 403: by USE 404 one less each week
        WarabandiDesk x = Check.desk(ALONE + "flow 4;crop a 1000 404;");
        Check.due("soil(0, 0)", x.soil(0, 0), 596);
        Check.due("soil(51, 0)", x.soil(51, 0), 545);
        Check.due("soil(52, 0)", x.soil(52, 0), -3);
        Check.due("soil(-1, 0)", x.soil(-1, 0), -3);
        Check.due("soil(0, 1)", x.soil(0, 1), -2);
        Check.due("soil(0, -1)", x.soil(0, -1), -2);
    }

    private static void dry() {
        Check.says("Promise 32", "WEEKS 0 to this one in which a FIELD is DRY: how many (what 0), the first (1).");
        // nothing comes in WEEKS 1 and 51; 97 are left of WEEK 0
        WarabandiDesk x = Check.desk(ALONE + "flow 4;crop a 500 403;shut 1 0 10080;shut 51 0 10080;");
        int[][] due = {{0, 0, -1}, {1, 1, 1}, {2, 1, 1}, {50, 1, 1}, {51, 2, 1}};
        for (int[] row : due) {
            Check.due("dry(" + row[0] + ", 0, 0)", x.dry(row[0], 0, 0), row[1]);
            Check.due("dry(" + row[0] + ", 0, 1)", x.dry(row[0], 0, 1), row[2]);
        }
        x = Check.desk(ALONE + "crop a 0 1;");
        Check.due("dry(51, 0, 0) of each WEEK", x.dry(51, 0, 0), 52);
        Check.due("dry(51, 0, 1) of each WEEK", x.dry(51, 0, 1), 0);
        Check.says("Promise 32", "NONE: of 1, if there is none; -2; -3.");
        x = Check.desk(ALONE);
        Check.due("dry(51, 0, 0) of none", x.dry(51, 0, 0), 0);
        Check.due("dry(51, 0, 1) of none", x.dry(51, 0, 1), -1);
        Check.due("dry(0, 0, 2)", x.dry(0, 0, 2), -2);
        Check.due("dry(0, 0, -1)", x.dry(0, 0, -1), -2);
        Check.due("dry(0, 1, 0)", x.dry(0, 1, 0), -2);
        Check.due("dry(0, -1, 0)", x.dry(0, -1, 0), -2);
        Check.due("dry(52, 0, 0)", x.dry(52, 0, 0), -3);
        Check.due("dry(-1, 0, 1)", x.dry(-1, 0, 1), -3);
    }

    private static void tail() {
        Check.says("Promise 33", "DEPTH of TAIL by that of HEAD, in thousandths (cut).");
        // 5040 minutes each, times 6, or 3 behind the REACH that soaks the half, by 100
        WarabandiDesk x = Check.desk("reach 0 0 0;reach 0 0 500;field a 1 100;field b 0 100;flow 6;");
        Check.due("depth(0, 0)", x.depth(0, 0), 151);
        Check.due("depth(0, 1)", x.depth(0, 1), 302);
        Check.due("tail(0)", x.tail(0), 500);
        x.flow(5);
        // 3 of 5 are left: 151 by 252 is 0.599
        Check.due("tail(0)", x.tail(0), 599);
        Check.due("tail(0) of one alone", Check.desk(ALONE).tail(0), 1000);
        // TAIL has nothing, or more than HEAD
        x = Check.desk("reach 0 0 0;reach 0 0 0;field a 0 100;field b 1 100;shut 0 5040 10080;shut 1 0 5039;shut 2 0 5040;");
        Check.due("tail(0) of nothing by something", x.tail(0), 0);
        // one minute of HEAD is no DEPTH of 100 tenths: 60 by 100
        Check.says("Promise 33", "NONE: there is no FIELD, that of HEAD is 0; -3.");
        Check.due("tail(1) by a DEPTH cut to 0", x.tail(1), -1);
        Check.due("tail(2) by nothing", x.tail(2), -1);
        x.flow(999);
        Check.due("tail(1) by 9", x.tail(1), 50349L * 1000 / 9);
        Check.due("tail(51)", x.tail(51), 1000);
        Check.due("tail(52)", x.tail(52), -3);
        // of HEAD 101 minutes of 1 by 100 are 1, but 99 are 0; of TAIL 5040 are 50
        x = Check.desk("reach 0 0 0;reach 0 0 0;field a 0 100;field b 1 100;shut 0 0 4939;shut 1 0 4941;flow 1;");
        Check.due("tail(0) by 1", x.tail(0), 50000);
        Check.due("tail(1) by 99 minutes of 100", x.tail(1), -1);
        Check.due("tail(-1)", x.tail(-1), -3);
        Check.due("tail(0) without a FIELD", Check.desk(NO_FIELD).tail(0), -1);
        Check.due("tail(0) of a WEEK that FAILS", Check.desk(FAILS).tail(0), -1);
    }

    private static void leastFlow() {
        Check.says("Promise 34", "The least FLOW (1 to 999) by which no FIELD is DRY in WEEKS 0 to this one.");
        Check.due("leastFlow(51) without USE", Check.desk(ALONE).leastFlow(51), 1);
        // STORE is there ahead of WEEK 0, so any FLOW does for that one; WEEK 1 needs 9999 by 10080 minutes and 999 tenths
        WarabandiDesk x = Check.desk("reach 0 0 0;field a 0 999;crop a 9999 9999;shut 2 0 81;shut 3 0 82;");
        Check.due("leastFlow(0)", x.leastFlow(0), 1);
        Check.due("leastFlow(1)", x.leastFlow(1), 991);
        Check.due("leastFlow(2)", x.leastFlow(2), 999);
        // just 0 is not DRY
        x = Check.desk(ALONE + "crop a 403 403;");
        Check.due("leastFlow(51)", x.leastFlow(51), 4);
        x = Check.desk(ALONE + "crop a 404 404;");
        Check.due("leastFlow(51)", x.leastFlow(51), 5);
        // by FLOW 1 a DEPTH of 100: 50 are left behind WEEK 0, and one less each week: 0 behind WEEK 50
        x = Check.desk(ALONE + "crop a 151 101;");
        Check.due("leastFlow(50)", x.leastFlow(50), 1);
        Check.due("leastFlow(51)", x.leastFlow(51), 2);
        // by what arrives, the minutes depend on FLOW, too
        x = Check.desk("reach 0 0 100;reach 0 0 200;field a 0 100;field b 1 100;crop a 9999 2;crop b 9999 900;mode 1;");
        int least = x.leastFlow(51);
        x.flow(least);
        Check.due("dry(51, 1, 0) by leastFlow(51)", x.dry(51, 1, 0) + x.dry(51, 0, 0), 0);
        x.flow(least - 1);
        Check.due("dry(51, 1, 0) by one less", x.dry(51, 1, 0) + x.dry(51, 0, 0) > 0 ? 1 : 0, 1);
        x.mode(0);
        Check.due("leastFlow(51) by land is more", x.leastFlow(51) > least ? 1 : 0, 1);
        // of all FIELDS: eight of them, 1260 minutes by 9 tenths are 140 a FLOW; the last one needs most
        StringBuilder eight = new StringBuilder("reach 0 0 0;");
        for (int f = 0; f < 8; f++) {
            char c = (char) ('a' + f);
            eight.append("field ").append(c).append(" 0 9;crop ").append(c).append(" 9999 ").append(f == 7 ? 9999 : 140 * f).append(';');
        }
        Check.due("leastFlow(51) of eight", Check.desk(eight.toString()).leastFlow(51), 72);
        x = Check.desk(HALVES + "crop a 1008 1008;crop b 2016 2016;");
        Check.due("leastFlow(1)", x.leastFlow(1), 4);
    }

    private static void leastFlowNone() {
        Check.says("Promise 34", "NONE: by none; -3; -5: there is no FIELD.");
        WarabandiDesk x = Check.desk("reach 0 0 0;field a 0 999;crop a 9999 9999;shut 1 0 82;");
        Check.due("leastFlow(1) by none", x.leastFlow(1), -1);
        Check.due("leastFlow(0) by USE above STORE", Check.desk(ALONE + "crop a 9 10;").leastFlow(0), -1);
        Check.due("leastFlow(52)", x.leastFlow(52), -3);
        Check.due("leastFlow(-1)", x.leastFlow(-1), -3);
        Check.due("leastFlow(0) without a FIELD", Check.desk(NO_FIELD).leastFlow(0), -5);
        // in WEEKS that FAIL nothing comes, by any FLOW
        x = Check.desk(FAILS + "crop a 100 50;");
        Check.due("leastFlow(1) if all FAIL", x.leastFlow(1), 1);
        Check.due("leastFlow(2) if all FAIL", x.leastFlow(2), -1);
    }
}
