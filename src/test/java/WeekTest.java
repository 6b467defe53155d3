/** Promises 19 to 28: the roster of a week, its minutes, and who has the water when. */
public final class WeekTest {
    /** ROSTER a b c: FILL 10, 50, 0; DRAIN 0, 7, 11; NET 10080 - 60 + 18; of 2509.5 each a gets the half minute. */
    private static final String TRIO = "reach 10 5 0;reach 20 6 0;reach 30 7 0;"
            + "field a 0 100;field b 2 200;field c 1 100;";
    /** 60 comes in, 54 and 44 are left at the nodes. */
    private static final String TWO = "reach 10 5 100;reach 20 10 200;field a 0 100;field b 1 300;";
    /** With b as the last one it would have 10 minutes of SHARE, but 60 of DRAIN. */
    private static final String FAILS = "reach 0 60 0;field a 0 999;field b 0 1;";
    /** b has FILL 60, DRAIN 30, SHARE 10: its TURN of 40 minutes is all FILLING. */
    private static final String SHORT = "reach 0 0 0;reach 60 30 0;field a 0 999;field b 1 1;";

    public static void main(String[] args) {
        roster();
        swapsTurned();
        fillAndDrain();
        shareAndTurn();
        leftOver();
        inTurn();
        shuts();
        lends();
        fillingAll();
        nights();
        net();
        weight();
        fails();
        isVoid();
        water();
        at();
        when();
        Check.end();
    }

    private static void rosterIs(WarabandiDesk x, int week, int... due) {
        for (int p = 0; p < due.length; p++) {
            Check.due("roster(" + week + ", " + p + ")", x.roster(week, p), due[p]);
            Check.due("inTurn(" + week + ", " + due[p] + ", 0)", x.inTurn(week, due[p], 0), p);
        }
        Check.due("roster(" + week + ", " + due.length + ")", x.roster(week, due.length), -1);
    }

    /** What is due of the fields 0, 1 .. */
    private static void turnsAre(WarabandiDesk x, int week, int what, int... due) {
        for (int f = 0; f < due.length; f++) {
            Check.due("inTurn(" + week + ", " + f + ", " + what + ")", x.inTurn(week, f, what), due[f]);
        }
    }

    private static void roster() {
        Check.about("promise 19");
        WarabandiDesk x = Check.desk(TRIO);
        rosterIs(x, 0, 0, 1, 2);
        rosterIs(x, 51, 0, 1, 2);
        x.turn(2, 2);
        rosterIs(x, 0, 0, 1, 2);
        rosterIs(x, 1, 0, 1, 2);
        rosterIs(x, 2, 2, 0, 1);
        rosterIs(x, 3, 2, 0, 1);
        rosterIs(x, 5, 1, 2, 0);
        rosterIs(x, 6, 0, 1, 2);
        // 51 by 2 is 25, times 2 is 50: 2 are left by 3
        rosterIs(x, 51, 2, 0, 1);
        x.turn(1, 7);
        rosterIs(x, 1, 1, 2, 0);
        Check.due("roster(-1, 0)", x.roster(-1, 0), -3);
        Check.due("roster(52, 0)", x.roster(52, 0), -3);
        Check.due("roster(0, -1)", x.roster(0, -1), -3);
        Check.due("roster(52, 9)", x.roster(52, 9), -3);
        Check.due("roster(0, Integer.MAX_VALUE)", x.roster(0, Integer.MAX_VALUE), -1);
    }

    private static void swapsTurned() {
        Check.about("promise 19, swaps behind the turn");
        WarabandiDesk x = Check.desk(TRIO + "rotate 1 1;swap 1 a b;swap 1 a c;swap 2 b c;");
        rosterIs(x, 0, 0, 1, 2);
        // b c a; then a c b; then c a b
        rosterIs(x, 1, 2, 0, 1);
        rosterIs(x, 2, 1, 0, 2);
        x.move(2, 0);
        // ORDER c a b: turned a b c, b a c, b c a
        rosterIs(x, 1, 1, 2, 0);
    }

    private static void fillAndDrain() {
        Check.about("promise 20, FILL and DRAIN");
        WarabandiDesk x = Check.desk(TRIO + "rotate 1 1;");
        turnsAre(x, 0, 1, 10, 50, 0);
        turnsAre(x, 0, 2, 0, 7, 11);
        turnsAre(x, 1, 1, 0, 60, 0);
        turnsAre(x, 1, 2, 5, 7, 6);
        turnsAre(x, 2, 1, 0, 50, 30);
        turnsAre(x, 2, 2, 0, 18, 6);
        x = Check.desk("reach 10 5 0;reach 20 6 0;field a 1 9;");
        turnsAre(x, 0, 1, 30);
        turnsAre(x, 0, 2, 11);
        x = Check.desk("reach 1 2 0;".repeat(8) + "reach 10 20 0;reach 40 50 0;field a 9 9;field b 8 9;");
        turnsAre(x, 0, 1, 58, 0);
        turnsAre(x, 0, 2, 50, 36);
        x = Check.desk("reach 10 5 0;reach 20 6 0;field a 1 9;field b 1 9;");
        turnsAre(x, 0, 1, 30, 0);
        turnsAre(x, 0, 2, 0, 11);
    }

    private static void shareAndTurn() {
        Check.about("promise 20, SHARE and TURN");
        WarabandiDesk x = Check.desk(TRIO + "rotate 1 1;");
        turnsAre(x, 0, 3, 2510, 5019, 2509);
        turnsAre(x, 0, 4, 2520, 5062, 2498);
        turnsAre(x, 0, 6, 0, 2520, 7582);
        turnsAre(x, 1, 3, 2509, 5019, 2510);
        turnsAre(x, 1, 4, 2504, 5072, 2504);
        turnsAre(x, 1, 6, 7576, 0, 5072);
        turnsAre(x, 2, 3, 2506, 5012, 2506);
        turnsAre(x, 2, 4, 2506, 5044, 2530);
        x = Check.desk(TWO + "mode 1;");
        turnsAre(x, 0, 3, 2150, 7915);
        turnsAre(x, 0, 4, 2160, 7920);
    }

    private static void leftOver() {
        Check.about("promise 20, minutes left over");
        WarabandiDesk x = Check.desk("reach 1 0 0;field a 0 10;field b 0 10;field c 0 10;rotate 1 1;");
        turnsAre(x, 0, 3, 3360, 3360, 3359);
        turnsAre(x, 1, 3, 3359, 3360, 3360);
        turnsAre(x, 2, 3, 3360, 3359, 3360);
        // 10079 by 31 is 325.129; by 10, 10, 11 of it: .29, .29, .42
        x.land(2, 11);
        turnsAre(x, 0, 3, 3251, 3251, 3577);
        // 10079 by 32: 3149.69, 3464.66, 3464.66
        x.land(1, 11);
        turnsAre(x, 0, 3, 3150, 3465, 3464);
        turnsAre(x, 2, 3, 3150, 3464, 3465);
    }

    private static void inTurn() {
        Check.about("promise 20");
        WarabandiDesk x = Check.desk(TRIO);
        turnsAre(x, 0, 5, 2520, 5062, 2498);
        turnsAre(x, 0, 7, 1080, 2880, 1080);
        turnsAre(x, 0, 8, 10, 50, 0);
        turnsAre(x, 0, 9, 0, 0, 0);
        Check.due("inTurn(0, 3, 0)", x.inTurn(0, 3, 0), -2);
        Check.due("inTurn(0, -1, 0)", x.inTurn(0, -1, 0), -2);
        Check.due("inTurn(0, 0, 10)", x.inTurn(0, 0, 10), -2);
        Check.due("inTurn(0, 0, -1)", x.inTurn(0, 0, -1), -2);
        Check.due("inTurn(52, 0, 10)", x.inTurn(52, 0, 10), -2);
        Check.due("inTurn(52, 0, 0)", x.inTurn(52, 0, 0), -3);
        Check.due("inTurn(-1, 0, 0)", x.inTurn(-1, 0, 0), -3);
    }

    private static void shuts() {
        Check.about("promise 20, SHUT");
        WarabandiDesk x = Check.desk(TRIO + "shut 0 2500 2600;start 500;");
        turnsAre(x, 0, 9, 20, 30, 0);
        turnsAre(x, 1, 9, 0, 0, 0);
        x.shut(0, 2550, 2650);
        turnsAre(x, 0, 9, 20, 80, 0);
        x.shut(0, 2650, 2660);
        x.shut(0, 2510, 2520);
        turnsAre(x, 0, 9, 20, 90, 0);
        x.shut(0, 0, 30);
        turnsAre(x, 0, 9, 40, 90, 0);
        x.shut(0, 5, 10080);
        turnsAre(x, 0, 9, 2510, 5012, 2498);
        turnsAre(x, 0, 8, 10, 50, 0);
        turnsAre(x, 0, 5, 2520, 5062, 2498);
        // one within the other, and told the other way round
        turnsAre(Check.desk(TRIO + "shut 0 100 500;shut 0 200 300;"), 0, 9, 400, 0, 0);
        turnsAre(Check.desk(TRIO + "shut 0 200 300;shut 0 100 500;"), 0, 9, 400, 0, 0);
        turnsAre(Check.desk(TRIO + "shut 0 700 800;shut 0 200 300;shut 0 100 500;"), 0, 9, 500, 0, 0);
        turnsAre(Check.desk(TRIO + "shut 0 100 500;shut 0 100 200;shut 0 100 600;"), 0, 9, 500, 0, 0);
    }

    private static void lends() {
        Check.about("promise 20, LENDS");
        WarabandiDesk x = Check.desk(TRIO + "lend 0 b a 100;lend 1 b a 999;");
        turnsAre(x, 0, 4, 2520, 5062, 2498);
        turnsAre(x, 0, 5, 2620, 4962, 2498);
        turnsAre(x, 0, 6, 0, 2620, 7582);
        turnsAre(x, 0, 3, 2510, 5019, 2509);
        turnsAre(x, 0, 8, 10, 50, 0);
        x.lend(0, 0, 2, 60);
        turnsAre(x, 0, 5, 2560, 4962, 2558);
    }

    private static void fillingAll() {
        Check.about("promise 20, all FILLING");
        WarabandiDesk x = Check.desk(SHORT);
        turnsAre(x, 0, 3, 10040, 10);
        turnsAre(x, 0, 4, 10040, 40);
        turnsAre(x, 0, 8, 0, 40);
        x.shut(0, 10000, 10080);
        turnsAre(x, 0, 9, 40, 0);
        Check.due("water(0, 1)", x.water(0, 1), 1800);
        Check.due("at(10079, 1)", x.at(10079, 1), 1);
        Check.due("when(1, 0)", x.when(1, 0), -1);
        x.lend(0, 1, 0, 1);
        Check.due("isVoid(0)", x.isVoid(0), 1);
    }

    private static void nights() {
        Check.about("promise 20, NIGHT");
        // a has the minutes 0 to 5039 of the week, b 5040 to 10079: three days and a half each
        String halves = "reach 0 0 0;field a 0 10;field b 0 10;";
        turnsAre(Check.desk(halves), 0, 7, 2520, 2520);
        turnsAre(Check.desk(halves + "night 0 12;"), 0, 7, 2880, 2160);
        turnsAre(Check.desk(halves + "night 12 0;"), 0, 7, 2160, 2880);
        turnsAre(Check.desk(halves + "night 7 7;"), 0, 7, 0, 0);
        turnsAre(Check.desk(halves + "night 0 0;"), 0, 7, 0, 0);
        turnsAre(Check.desk(halves + "night 6 12;"), 0, 7, 1440, 1080);
        turnsAre(Check.desk(halves + "night 22 13;"), 0, 7, 3 * 900 + 720, 7 * 900 - 3420);
        // begins at 20 o'clock: 3 days, and 20 to 8 o'clock, of which 20 to 6 are night
        turnsAre(Check.desk(halves + "start 1200;"), 0, 7, 2160 + 600, 5040 - 2760);
        turnsAre(Check.desk(halves + "start 1200;"), 51, 7, 2160 + 600, 5040 - 2760);
        turnsAre(Check.desk(halves + "start 10079;night 0 1;"), 0, 7, 4 * 60, 3 * 60);
    }

    private static void net() {
        Check.about("promise 21");
        WarabandiDesk x = Check.desk(TRIO + "rotate 1 1;");
        Check.due("net(0)", x.net(0), 10038);
        Check.due("net(1)", x.net(1), 10038);
        Check.due("net(2)", x.net(2), 10024);
        Check.due("net(-1)", x.net(-1), -3);
        Check.due("net(52)", x.net(52), -3);
        Check.due("net(0) of a week that fails", Check.desk(FAILS).net(0), 10140);
        x = Check.desk("reach 1 1 1;");
        Check.due("net(0) without a field", x.net(0), -5);
        Check.due("net(52) without a field", x.net(52), -3);
    }

    private static void weight() {
        Check.about("promise 22");
        WarabandiDesk x = Check.desk(TWO);
        Check.due("weight(0)", x.weight(0), 100);
        Check.due("weight(1)", x.weight(1), 300);
        x.mode(1);
        Check.due("weight(0)", x.weight(0), 1851851);
        Check.due("weight(1)", x.weight(1), 6818181);
        x.flow(1);
        x.land(1, 999);
        Check.due("weight(1)", x.weight(1), 999000000);
        Check.due("weight(2)", x.weight(2), -2);
        Check.due("weight(-1)", x.weight(-1), -2);
    }

    private static void fails() {
        Check.about("promise 23");
        WarabandiDesk x = Check.desk(FAILS + "rotate 1 1;");
        Check.due("fails(0)", x.fails(0), 1);
        Check.due("fails(1)", x.fails(1), 0);
        Check.due("fails(-1)", x.fails(-1), -3);
        Check.due("fails(52)", x.fails(52), -3);
        turnsAre(x, 0, 0, 0, 1);
        turnsAre(x, 0, 1, 0, 0);
        turnsAre(x, 0, 2, 0, 60);
        turnsAre(x, 0, 3, 10130, 10);
        for (int what = 4; what <= 9; what++) {
            turnsAre(x, 0, what, -6, -6);
        }
        turnsAre(x, 1, 4, 10070, 10);
        Check.due("inTurn(0, 0, 10)", x.inTurn(0, 0, 10), -2);
        Check.due("fails(0) without a field", new WarabandiDesk().fails(0), 0);
        x = Check.desk("reach 0 60 0;field b 0 1;field a 0 999;");
        Check.due("fails(0) with b ahead", x.fails(0), 0);
        x.swap(0, 0, 1);
        Check.due("fails(0) with b behind", x.fails(0), 1);
        // a TURN of just 0 does not fail: 10140 by 169 is 60
        x = Check.desk("reach 0 60 0;field a 0 168;field b 0 1;");
        Check.due("fails(0)", x.fails(0), 0);
        turnsAre(x, 0, 4, 10080, 0);
        x.land(0, 171);
        Check.due("fails(0)", x.fails(0), 1);
    }

    private static void isVoid() {
        Check.about("promise 24");
        // a has a TURN of 2520 and a FILL of 10, so it can lend 2510 in all
        WarabandiDesk x = Check.desk(TRIO + "lend 0 a b 999;lend 0 a c 999;lend 0 a b 513;lend 0 a b 512;"
                + "lend 0 a b 1;lend 0 b a 1;lend 0 a c 1;lend 1 a b 513;");
        int[] due = {0, 0, 1, 0, 1, 0, 0, 0};
        for (int k = 0; k < due.length; k++) {
            Check.due("isVoid(" + k + ")", x.isVoid(k), due[k]);
        }
        turnsAre(x, 0, 5, 10, 5062 + 999 + 512 - 1, 2498 + 999 + 1);
        Check.due("isVoid(8)", x.isVoid(8), -1);
        Check.due("isVoid(Integer.MAX_VALUE)", x.isVoid(Integer.MAX_VALUE), -1);
        Check.due("isVoid(-1)", x.isVoid(-1), -3);
        x = Check.desk(FAILS + "rotate 1 1;lend 0 a b 5;lend 1 a b 5;lend 1 b a 16;lend 1 b a 15;");
        Check.due("isVoid(0)", x.isVoid(0), -6);
        Check.due("isVoid(1)", x.isVoid(1), 0);
        Check.due("isVoid(2)", x.isVoid(2), 1);
        Check.due("isVoid(3)", x.isVoid(3), 0);
    }

    private static void water() {
        Check.about("promises 25 and 26");
        WarabandiDesk x = Check.desk(TWO + "lend 3 b a 200;");
        Check.due("all(3)", x.all(3), 2716 * 54 + 7349 * 44);
        Check.due("all(2)", x.all(2), 2516 * 54 + 7549 * 44);
        x = Check.desk(TWO);
        Check.due("water(0, 0)", x.water(0, 0), 2516 * 54);
        Check.due("water(0, 1)", x.water(0, 1), 7549 * 44);
        Check.due("all(0)", x.all(0), 2516 * 54 + 7549 * 44);
        x.lend(3, 1, 0, 200);
        Check.due("water(3, 0)", x.water(3, 0), 2716 * 54);
        Check.due("all(3)", x.all(3), 2716 * 54 + 7349 * 44);
        x.shut(3, 0, 110);
        Check.due("water(3, 0)", x.water(3, 0), 2616 * 54);
        x.shut(4, 0, 10080);
        // what drains comes through all the same
        Check.due("water(4, 0)", x.water(4, 0), 0);
        Check.due("water(4, 1)", x.water(4, 1), 15 * 44);
        Check.due("all(4)", x.all(4), 15 * 44);
        Check.due("water(0, 2)", x.water(0, 2), -2);
        Check.due("water(0, -1)", x.water(0, -1), -2);
        Check.due("water(52, 2)", x.water(52, 2), -2);
        Check.due("water(52, 0)", x.water(52, 0), -3);
        Check.due("water(-1, 0)", x.water(-1, 0), -3);
        Check.due("all(52)", x.all(52), -3);
        Check.due("all(-1)", x.all(-1), -3);
        x = Check.desk(FAILS);
        Check.due("water(0, 0) of a week that fails", x.water(0, 0), 0);
        Check.due("water(0, 1) of a week that fails", x.water(0, 1), 0);
        Check.due("all(0) of a week that fails", x.all(0), 0);
        Check.due("all(0) without a field", new WarabandiDesk().all(0), 0);
    }

    private static void at() {
        Check.about("promise 27");
        WarabandiDesk x = Check.desk(TRIO + "start 500;shut 0 2500 2600;shut 51 0 1;");
        int[][] due = {
            {500, 0, 1, 0, 0}, {509, 0, 1, 0, 0}, {510, 0, 0, 0, 0}, {1079, 0, 0, 0, 0}, {1080, 0, 0, 0, 1},
            {2999, 0, 0, 0, 1}, {3000, 0, 0, 1, 1}, {3019, 0, 0, 1, 1}, {3020, 1, 1, 1, 1}, {3069, 1, 1, 1, 1},
            {3070, 1, 0, 1, 1}, {3099, 1, 0, 1, 1}, {3100, 1, 0, 0, 1}, {3240, 1, 0, 0, 0}, {8081, 1, 0, 0, 0},
            {8082, 2, 0, 0, 0}, {10579, 2, 0, 0, 0}, {10580, 0, 1, 0, 0}, {500 + 51 * 10080, 0, 1, 1, 0},
            {500 + 52 * 10080 - 1, 2, 0, 0, 0}, {500 + 52 * 10080, -1, -1, -1, -1}, {499, -1, -1, -1, -1},
            {0, -1, -1, -1, -1}, {Integer.MAX_VALUE, -1, -1, -1, -1}};
        for (int[] row : due) {
            for (int what = 0; what < 4; what++) {
                Check.due("at(" + row[0] + ", " + what + ")", x.at(row[0], what), row[what + 1]);
            }
        }
        Check.due("at(0, 4)", x.at(0, 4), -2);
        Check.due("at(0, -1)", x.at(0, -1), -2);
        Check.due("at(-1, 4)", x.at(-1, 4), -2);
        Check.due("at(-1, 0)", x.at(-1, 0), -3);
        x = Check.desk(FAILS + "rotate 1 1;");
        Check.due("at(10079, 3) of a week that fails", x.at(10079, 3), -1);
        Check.due("at(10080, 3)", x.at(10080, 3), 1);
        Check.due("at(10089, 0)", x.at(10089, 0), 1);
        Check.due("at(10090, 0)", x.at(10090, 0), 0);
        x = Check.desk("reach 1 1 1;shut 0 0 5;");
        Check.due("at(0, 2) without a field", x.at(0, 2), -1);
        x = Check.desk("reach 0 0 0;field a 0 5;");
        Check.due("at(0, 0) of one field", x.at(0, 0), 0);
        Check.due("at(10079, 0) of one field", x.at(10079, 0), 0);
        x = Check.desk(TRIO + "night 5 7;");
        Check.due("at(299, 3)", x.at(299, 3), 0);
        Check.due("at(300, 3)", x.at(300, 3), 1);
        Check.due("at(419, 3)", x.at(419, 3), 1);
        Check.due("at(420, 3)", x.at(420, 3), 0);
        x = Check.desk(TRIO + "night 5 5;");
        Check.due("at(300, 3) without a night", x.at(300, 3), 0);
    }

    private static void when() {
        Check.about("promise 28");
        WarabandiDesk x = Check.desk(TRIO + "start 500;shut 0 2500 2600;shut 0 2700 2800;shut 0 2580 2700;");
        Check.due("when(0, 0)", x.when(0, 0), 510);
        Check.due("when(0, 510)", x.when(0, 510), 510);
        Check.due("when(0, 511)", x.when(0, 511), 511);
        Check.due("when(0, 2999)", x.when(0, 2999), 2999);
        Check.due("when(0, 3000)", x.when(0, 3000), 10590);
        Check.due("when(1, 0)", x.when(1, 0), 3300);
        Check.due("when(1, 3100)", x.when(1, 3100), 3300);
        Check.due("when(1, 8081)", x.when(1, 8081), 8081);
        Check.due("when(1, 8082)", x.when(1, 8082), 10580 + 2570);
        Check.due("when(2, 0)", x.when(2, 0), 8082);
        int last = 500 + 52 * 10080 - 1;
        Check.due("when(2, last)", x.when(2, last), last);
        Check.due("when(2, last + 1)", x.when(2, last + 1), -1);
        Check.due("when(1, last)", x.when(1, last), -1);
        Check.due("when(0, Integer.MAX_VALUE)", x.when(0, Integer.MAX_VALUE), -1);
        Check.due("when(3, 0)", x.when(3, 0), -2);
        Check.due("when(-1, -1)", x.when(-1, -1), -2);
        Check.due("when(0, -1)", x.when(0, -1), -3);
        x = Check.desk(FAILS + "rotate 1 1;");
        Check.due("when(0, 0) of a week that fails", x.when(0, 0), 10090);
        Check.due("when(1, 0) of a week that fails", x.when(1, 0), 10080);
        Check.due("when(0, 0) if all fail", Check.desk(FAILS).when(0, 0), -1);
        Check.due("when(0, 0) at once", Check.desk("reach 0 0 0;field a 0 5;").when(0, 0), 0);
    }
}
