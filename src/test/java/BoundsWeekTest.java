/** The boundary cases that the part "==== 2." names: a roster, its minutes, and who has the water when. */
public final class BoundsWeekTest {
    private static final String PART = "==== 2.";
    /** a has the minutes 0 to 5039 of a week, b the others. */
    private static final String HALVES = "reach 0 0 0;field a 0 10;field b 0 10;";
    /** ROSTER a b c: FILL 10, 50, 0; DRAIN 0, 7, 11; NET 10038; SHARE 2510, 5019, 2509; TURN 2520, 5062, 2498. */
    private static final String TRIO = "reach 10 5 0;reach 20 6 0;reach 30 7 0;"
            + "field a 0 100;field b 2 200;field c 1 100;";
    /** With b as the last one it has 10 minutes of SHARE, but 60 of DRAIN. */
    private static final String FAILS = "reach 0 60 0;field a 0 999;field b 0 1;";
    /** b has FILL 60, DRAIN 30, SHARE 10: its TURN of 40 minutes is all FILLING. */
    private static final String SHORT = "reach 0 0 0;reach 60 30 0;field a 0 999;field b 1 1;";
    private static final String EIGHT = "field a 0 1;field b 0 1;field c 0 1;field d 0 1;field e 0 1;field f 0 1;"
            + "field g 0 1;field h 0 1;";

    public static void main(String[] args) {
        flowOfANode();
        orderAsTold();
        rosterTurned();
        swapsAsTold();
        fillOfTheFirst();
        fillOfOthers();
        drainOfTheLast();
        drainOfOthers();
        weights();
        net();
        shareCut();
        shareLeftOver();
        failing();
        turnOfNothing();
        lendsAsTold();
        voidLends();
        lengths();
        weekBegins();
        hours();
        filling();
        shut();
        water();
        waterThatFails();
        nightOfAFailingWeek();
        Check.end();
    }

    /** What is due of the fields 0, 1 .. */
    private static void turnsAre(WarabandiDesk x, int week, int what, int... due) {
        for (int f = 0; f < due.length; f++) {
            Check.due("inTurn(" + week + ", " + f + ", " + what + ")", x.inTurn(week, f, what), due[f]);
        }
    }

    private static void rosterIs(WarabandiDesk x, int week, int... due) {
        for (int p = 0; p < due.length; p++) {
            Check.due("roster(" + week + ", " + p + ")", x.roster(week, p), due[p]);
        }
        Check.due("roster(" + week + ", " + due.length + ")", x.roster(week, due.length), -1);
    }

    private static int together(WarabandiDesk x, int week, int what) {
        int sum = 0;
        for (int f = 0; f < x.count(1); f++) {
            sum += x.inTurn(week, f, what);
        }
        return sum;
    }

    private static void flowOfANode() {
        Check.says(PART, "FLOW of a NODE k: FLOW, less, REACH by REACH from 0 to k, SOAK thousandths of what comes into it (cut).");
        WarabandiDesk x = Check.desk("reach 0 0 500;".repeat(10) + "flow 999;");
        int[] halved = {500, 250, 125, 63, 32, 16, 8, 4, 2, 1};
        for (int r = 0; r < 10; r++) {
            Check.due("reach(" + r + ", 3)", x.reach(r, 3), halved[r]);
        }
        x.flow(1);
        Check.due("what is left of 1", x.reach(9, 3), 1);
        Check.due("999 less 0.999", Check.desk("reach 0 0 1;flow 999;").reach(0, 3), 999);
        Check.due("999 less 1.998", Check.desk("reach 0 0 2;flow 999;").reach(0, 3), 998);
        Check.due("500 less 1", Check.desk("reach 0 0 2;flow 500;").reach(0, 3), 499);
        Check.due("499 less 0.998", Check.desk("reach 0 0 2;flow 499;").reach(0, 3), 499);
    }

    private static void orderAsTold() {
        Check.says(PART, "ORDER: FIELDS as they were told.");
        WarabandiDesk x = Check.desk("reach 0 0 0;reach 0 0 0;field z 1 999;field b 0 1;field a 1 5;");
        for (int f = 0; f < 3; f++) {
            Check.due("field(" + f + ", 4)", x.field(f, 4), f);
        }
        rosterIs(x, 0, 0, 1, 2);
    }

    private static void rosterTurned() {
        Check.says(PART, "ORDER, of which as many from the front on go behind the others, in their order, as w by EVERY (cut) "
                + "times BY leaves by how many there are");
        WarabandiDesk x = Check.desk(TRIO + "rotate 2 7;");
        rosterIs(x, 0, 0, 1, 2);
        rosterIs(x, 1, 0, 1, 2);
        // 7, 14, 21 by 3 leave 1, 2, 0
        rosterIs(x, 2, 1, 2, 0);
        rosterIs(x, 3, 1, 2, 0);
        rosterIs(x, 4, 2, 0, 1);
        rosterIs(x, 6, 0, 1, 2);
        // 25 times 7 by 3 leaves 1
        rosterIs(x, 51, 1, 2, 0);
        x.turn(1, 3);
        rosterIs(x, 1, 0, 1, 2);
        x.turn(52, 1);
        rosterIs(x, 51, 0, 1, 2);
        x.turn(51, 1);
        rosterIs(x, 50, 0, 1, 2);
        rosterIs(x, 51, 1, 2, 0);
        x.turn(1, 0);
        rosterIs(x, 51, 0, 1, 2);
        x = Check.desk("reach 0 0 0;" + EIGHT + "rotate 1 7;");
        rosterIs(x, 1, 7, 0, 1, 2, 3, 4, 5, 6);
        rosterIs(x, 8, 0, 1, 2, 3, 4, 5, 6, 7);
        // 51 times 7 is 357: 5 are left by 8
        rosterIs(x, 51, 5, 6, 7, 0, 1, 2, 3, 4);
        rosterIs(Check.desk("reach 0 0 0;field a 0 1;rotate 1 7;"), 51, 0);
        rosterIs(Check.desk("reach 0 0 0;rotate 1 7;"), 51);
    }

    private static void swapsAsTold() {
        Check.says(PART, "then SWAPS of that WEEK, as they were told: the two change places.");
        rosterIs(Check.desk(TRIO + "swap 0 a b;swap 0 b c;"), 0, 2, 0, 1);
        rosterIs(Check.desk(TRIO + "swap 0 b c;swap 0 a b;"), 0, 1, 2, 0);
        rosterIs(Check.desk(TRIO + "swap 0 a b;swap 0 b a;"), 0, 0, 1, 2);
        WarabandiDesk x = Check.desk(TRIO + "swap 50 a b;swap 51 a c;rotate 1 1;");
        rosterIs(x, 49, 1, 2, 0);
        // c a b, then c b a
        rosterIs(x, 50, 2, 1, 0);
        rosterIs(x, 51, 2, 1, 0);
        x = Check.desk(TRIO + "swap 0 a b;".repeat(12));
        rosterIs(x, 0, 0, 1, 2);
        rosterIs(x, 1, 0, 1, 2);
    }

    private static void fillOfTheFirst() {
        Check.says(PART, "FILL of the first one of a ROSTER: FILL of all REACHES 0 to its NODE, added");
        turnsAre(Check.desk("reach 10 0 0;reach 20 0 0;field a 0 5;"), 0, 1, 10);
        turnsAre(Check.desk("reach 10 0 0;reach 20 0 0;field a 1 5;"), 0, 1, 30);
        turnsAre(Check.desk("reach 60 0 0;".repeat(10) + "field a 9 5;"), 0, 1, 600);
        turnsAre(Check.desk("reach 0 60 0;".repeat(10) + "field a 9 5;"), 0, 1, 0);
        WarabandiDesk x = Check.desk(TRIO);
        x.swap(0, 0, 1);
        Check.due("FILL of b as the first one", x.inTurn(0, 1, 1), 60);
    }

    private static void fillOfOthers() {
        Check.says(PART, "of each other one: of those behind the NODE of the one ahead of it, up to its own (none, if that is not farther).");
        String four = "reach 1 0 0;reach 2 0 0;reach 4 0 0;reach 8 0 0;";
        turnsAre(Check.desk(four + "field a 0 5;field b 3 5;"), 0, 1, 1, 14);
        turnsAre(Check.desk(four + "field a 2 5;field b 3 5;"), 0, 1, 7, 8);
        turnsAre(Check.desk(four + "field a 3 5;field b 3 5;"), 0, 1, 15, 0);
        turnsAre(Check.desk(four + "field a 3 5;field b 0 5;field c 1 5;"), 0, 1, 15, 0, 2);
    }

    private static void drainOfTheLast() {
        Check.says(PART, "DRAIN of the last one: DRAIN of all REACHES 0 to its NODE");
        turnsAre(Check.desk("reach 0 10 0;reach 0 20 0;field a 0 5;"), 0, 2, 10);
        turnsAre(Check.desk("reach 0 10 0;reach 0 20 0;field a 1 5;"), 0, 2, 30);
        turnsAre(Check.desk("reach 0 60 0;".repeat(10) + "field a 9 5;"), 0, 2, 600);
        turnsAre(Check.desk("reach 60 0 0;".repeat(10) + "field a 9 5;"), 0, 2, 0);
        WarabandiDesk x = Check.desk(TRIO);
        x.swap(0, 1, 2);
        Check.due("DRAIN of b as the last one", x.inTurn(0, 1, 2), 18);
    }

    private static void drainOfOthers() {
        Check.says(PART, "of each other one: of those behind the NODE of the next one, up to its own (none likewise).");
        String four = "reach 0 1 0;reach 0 2 0;reach 0 4 0;reach 0 8 0;";
        turnsAre(Check.desk(four + "field a 3 5;field b 0 5;"), 0, 2, 14, 1);
        turnsAre(Check.desk(four + "field a 3 5;field b 2 5;"), 0, 2, 8, 7);
        turnsAre(Check.desk(four + "field a 3 5;field b 3 5;"), 0, 2, 0, 15);
        turnsAre(Check.desk(four + "field a 1 5;field b 0 5;field c 3 5;"), 0, 2, 2, 0, 15);
    }

    private static void weights() {
        Check.says(PART, "WEIGHT: LAND (MODE 0), or (1) LAND times 1,000,000 by FLOW of its NODE (cut).");
        WarabandiDesk x = Check.desk("reach 0 0 0;field a 0 1;field b 0 999;");
        Check.due("weight(0) by land", x.weight(0), 1);
        Check.due("weight(1) by land", x.weight(1), 999);
        x.mode(1);
        x.flow(999);
        Check.due("1,000,000 by 999", x.weight(0), 1001);
        Check.due("999,000,000 by 999", x.weight(1), 1000000);
        x.flow(1);
        Check.due("1,000,000 by 1", x.weight(0), 1000000);
        Check.due("999,000,000 by 1", x.weight(1), 999000000);
        // eight of the greatest ones are more than an int holds
        x = Check.desk("reach 0 0 0;" + EIGHT.replace(" 1;", " 999;") + "flow 1;mode 1;");
        turnsAre(x, 0, 3, 1260, 1260, 1260, 1260, 1260, 1260, 1260, 1260);
    }

    private static void net() {
        Check.says(PART, "NET: 10080, less FILL of all, and DRAIN of all more (so TURNS are 10080 together).");
        String toAndFro = "field a 9 9;field b 0 9;field c 9 9;field d 0 9;field e 9 9;field f 0 9;field g 9 9;field h 0 9;";
        Check.due("net(0) of a dry course", Check.desk(HALVES).net(0), 10080);
        // FILL 600 and three times 540; DRAIN four times 540, and 60
        WarabandiDesk x = Check.desk("reach 60 0 0;".repeat(10) + toAndFro);
        Check.due("the least net(0)", x.net(0), 10080 - 2220);
        Check.due("TURNS together", together(x, 0, 4), 10080);
        Check.due("SHARES together", together(x, 0, 3), 10080 - 2220);
        x = Check.desk("reach 0 60 0;".repeat(10) + toAndFro);
        Check.due("the greatest net(0)", x.net(0), 10080 + 2220);
        Check.due("TURNS together", together(x, 0, 4), 10080);
        Check.due("SHARES together", together(x, 0, 3), 10080 + 2220);
        x = Check.desk("reach 60 60 0;".repeat(10) + toAndFro);
        Check.due("net(0) of both", x.net(0), 10080);
        Check.due("net(0) of a week that FAILS", Check.desk(FAILS).net(0), 10140);
    }

    private static void shareCut() {
        Check.says(PART, "SHARE: NET times WEIGHT by all WEIGHTS (cut)");
        // 10080 by 7
        turnsAre(Check.desk("reach 0 0 0;field a 0 1;field b 0 2;field c 0 4;"), 0, 3, 1440, 2880, 5760);
        turnsAre(Check.desk("reach 0 0 0;field a 0 5;"), 0, 3, 10080);
        // 10080 by 1000 is 10.08: 10.08 and 10069.92
        turnsAre(Check.desk("reach 0 0 0;field a 0 1;field b 0 999;"), 0, 3, 10, 10070);
        // by what arrives: 60 and 30, so 1 to 2
        turnsAre(Check.desk("reach 0 0 0;reach 0 0 500;field a 0 6;field b 1 6;mode 1;"), 0, 3, 3360, 6720);
    }

    private static void shareLeftOver() {
        Check.says(PART, "minutes of NET that are left over then: one each to those by whom most was cut off, "
                + "of like ones the first in the ROSTER.");
        // 10080 by 13: 1550.77, 775.38, 7753.85: the first and the third one
        WarabandiDesk x = Check.desk("reach 0 0 0;field a 0 2;field b 0 1;field c 0 10;");
        turnsAre(x, 0, 3, 1551, 775, 7754);
        // 10080 by 11: 916.36 twice, 8247.27: one minute, to the first one of the like ones
        x = Check.desk("reach 0 0 0;field a 0 9;field b 0 1;field c 0 1;");
        turnsAre(x, 0, 3, 8247, 917, 916);
        x.swap(0, 1, 2);
        turnsAre(x, 0, 3, 8247, 916, 917);
        x.move(2, 0);
        turnsAre(x, 1, 3, 8247, 916, 917);
        // 10079 by 7 leaves 6: all but the last one of the ROSTER
        x = Check.desk("reach 1 0 0;" + EIGHT.replace("field h 0 1;", "") + "rotate 1 1;");
        turnsAre(x, 0, 3, 1440, 1440, 1440, 1440, 1440, 1440, 1439);
        turnsAre(x, 1, 3, 1439, 1440, 1440, 1440, 1440, 1440, 1440);
        turnsAre(x, 6, 3, 1440, 1440, 1440, 1440, 1440, 1439, 1440);
        // nothing is left over
        turnsAre(Check.desk(HALVES), 0, 3, 5040, 5040);
    }

    private static void failing() {
        Check.says(PART, "If one would be below 0, the WEEK FAILS: there are no TURNS.");
        WarabandiDesk x = Check.desk(FAILS);
        Check.due("fails(0) at 50 below 0", x.fails(0), 1);
        for (int what = 4; what <= 9; what++) {
            turnsAre(x, 0, what, -6, -6);
        }
        // 10140 by 172: 58.95, so 59 less 60
        x = Check.desk("reach 0 60 0;field a 0 171;field b 0 1;");
        turnsAre(x, 0, 3, 10081, 59);
        Check.due("fails(0) at 1 below 0", x.fails(0), 1);
        turnsAre(x, 0, 4, -6, -6);
        // 10140 by 169 is 60
        x = Check.desk("reach 0 60 0;field a 0 168;field b 0 1;");
        Check.due("fails(0) at 0", x.fails(0), 0);
        turnsAre(x, 0, 4, 10080, 0);
        // any one of them: the first, in the middle; FILL helps
        Check.due("fails(0) by the first one", Check.desk("reach 0 0 0;reach 0 60 0;field a 1 1;field b 0 999;").fails(0), 1);
        Check.due("fails(0) by one in the middle",
                Check.desk("reach 0 0 0;reach 0 60 0;field b 1 999;field a 1 1;field c 0 999;").fails(0), 1);
        Check.due("fails(0) with FILL", Check.desk("reach 0 0 0;reach 60 60 0;field a 1 1;field b 0 999;").fails(0), 0);
        // without a FIELD none is below 0
        Check.due("fails(0) without a FIELD", Check.desk("reach 0 60 0;").fails(0), 0);
        // LENDS of a WEEK that FAILS go nowhere
        x = Check.desk(FAILS + "lend 0 a b 999;");
        Check.due("isVoid(0)", x.isVoid(0), -6);
        Check.due("fails(0) in spite of a LEND", x.fails(0), 1);
    }

    private static void turnOfNothing() {
        Check.says(PART, "TURN: SHARE and FILL, less DRAIN.");
        // b, the last one, has a TURN of 0 minutes: it gets what drains
        WarabandiDesk x = Check.desk("reach 0 60 0;field a 0 168;field b 0 1;");
        turnsAre(x, 0, 5, 10080, 0);
        turnsAre(x, 0, 6, 0, 10080);
        turnsAre(x, 0, 7, 5040, 0);
        turnsAre(x, 0, 8, 0, 0);
        turnsAre(x, 0, 9, 0, 0);
        Check.due("at(10079, 0)", x.at(10079, 0), 0);
        Check.due("at(10080, 0)", x.at(10080, 0), 0);
        Check.due("water(0, 1)", x.water(0, 1), 60 * 60);
        Check.due("when(1, 0)", x.when(1, 0), -1);
        // and as the first one it has all of its SHARE
        x.swap(0, 0, 1);
        turnsAre(x, 0, 4, 10020, 60);
        // in the middle: 10140 by 168 is 60.36, of which c has the minute left over; it begins when b does
        x = Check.desk("reach 0 0 0;reach 0 60 0;field a 0 84;field b 1 1;field c 0 83;");
        turnsAre(x, 0, 4, 5070, 0, 5010);
        turnsAre(x, 0, 6, 0, 5070, 5070);
        Check.due("at(5069, 0)", x.at(5069, 0), 0);
        Check.due("at(5070, 0)", x.at(5070, 0), 2);
    }

    private static void lendsAsTold() {
        Check.says(PART, "LENDS of that WEEK, as they were told: the minutes go from the TURN of the one to that of the other");
        // b can't lend 999 more than it has, but what it was lent ahead of that
        WarabandiDesk x = Check.desk("reach 0 0 0;field a 0 9;field b 0 1;lend 0 a b 1;lend 0 b a 999;");
        turnsAre(x, 0, 4, 9072, 1008);
        turnsAre(x, 0, 5, 9072 + 998, 1008 - 998);
        x = Check.desk("reach 0 0 0;field a 0 99;field b 0 1;lend 0 b a 101;lend 0 a b 1;lend 0 b a 102;");
        // 100.8 of 10080 are 101
        turnsAre(x, 0, 4, 9979, 101);
        Check.due("isVoid(0)", x.isVoid(0), 0);
        Check.due("isVoid(2)", x.isVoid(2), 1);
        turnsAre(x, 0, 5, 9979 + 100, 1);
        turnsAre(x, 1, 5, 9979, 101);
    }

    private static void voidLends() {
        Check.says(PART, "VOID, if its TURN less its FILL is less than these (by then).");
        // a has a TURN of 2520 and a FILL of 10: 2510 can be lent
        WarabandiDesk x = Check.desk(TRIO + "lend 0 a b 999;lend 0 a b 999;lend 0 a b 513;lend 0 a b 512;lend 0 a b 1;");
        int[] due = {0, 0, 1, 0, 1};
        for (int k = 0; k < due.length; k++) {
            Check.due("isVoid(" + k + ")", x.isVoid(k), due[k]);
        }
        turnsAre(x, 0, 5, 10, 5062 + 2510, 2498);
        // all that it has then is FILLING
        turnsAre(x, 0, 8, 10, 50, 0);
        Check.due("water(0, 0)", x.water(0, 0), 0);
        // a TURN below its FILL can lend nothing; what it is lent counts for that, too
        x = Check.desk(SHORT + "lend 0 b a 1;lend 0 a b 20;lend 0 b a 1;lend 0 a b 1;lend 0 b a 1;");
        int[] shortOnes = {1, 0, 1, 0, 0};
        for (int k = 0; k < shortOnes.length; k++) {
            Check.due("isVoid(" + k + ") of a short one", x.isVoid(k), shortOnes[k]);
        }
        turnsAre(x, 0, 5, 10020, 60);
    }

    private static void lengths() {
        Check.says(PART, "LENGTH: the TURN then (all are 10080 together).");
        WarabandiDesk x = Check.desk(TRIO + "lend 0 a b 999;lend 0 b c 999;lend 0 c a 1;lend 1 a b 5;");
        turnsAre(x, 0, 4, 2520, 5062, 2498);
        turnsAre(x, 0, 5, 1522, 5062, 3496);
        Check.due("LENGTHS together", together(x, 0, 5), 10080);
        turnsAre(x, 0, 6, 0, 1522, 6584);
        turnsAre(x, 2, 5, 2520, 5062, 2498);
    }

    private static void weekBegins() {
        Check.says(PART, "The WEEK w begins at MINUTE START and 10080 w; there the LENGTHS follow one another.");
        int[] starts = {0, 1, 10079};
        for (int start : starts) {
            WarabandiDesk x = Check.desk(HALVES + "start " + start + ";");
            if (start > 0) {
                Check.due("ahead of START " + start, x.at(start - 1, 0), -1);
            }
            for (int week = 0; week < 52; week += 51) {
                int begin = start + 10080 * week;
                Check.due("at(" + begin + ", 0)", x.at(begin, 0), 0);
                Check.due("at(" + (begin + 5039) + ", 0)", x.at(begin + 5039, 0), 0);
                Check.due("at(" + (begin + 5040) + ", 0)", x.at(begin + 5040, 0), 1);
                Check.due("at(" + (begin + 10079) + ", 0)", x.at(begin + 10079, 0), 1);
            }
            Check.due("behind WEEK 51", x.at(start + 52 * 10080, 0), -1);
            turnsAre(x, 51, 6, 0, 5040);
        }
    }

    private static void hours() {
        Check.says(PART, "The hour of a MINUTE: it by 60 (cut), by 24 what is left.");
        WarabandiDesk x = Check.desk(HALVES + "night 23 0;");
        int[] edges = {0, 0, 59, 0, 1379, 0, 1380, 1, 1439, 1, 1440, 0, 2819, 0, 2820, 1, 524159, 1, 524099, 0, 524100, 1};
        for (int k = 0; k < edges.length; k += 2) {
            Check.due("at(" + edges[k] + ", 3)", x.at(edges[k], 3), edges[k + 1]);
        }
        // hours go by the MINUTE, not by the begin of a WEEK
        x = Check.desk(HALVES + "night 0 1;start 1439;");
        Check.due("at(1439, 3)", x.at(1439, 3), 0);
        Check.due("at(1440, 3)", x.at(1440, 3), 1);
        Check.due("at(1499, 3)", x.at(1499, 3), 1);
        Check.due("at(1500, 3)", x.at(1500, 3), 0);
        // a begins one minute ahead of midnight and has three days and a half: four first hours; b three
        turnsAre(x, 0, 7, 240, 180);
        turnsAre(x, 51, 7, 240, 180);
        // a begins in the last minute of the first hour of a day
        turnsAre(Check.desk(HALVES + "night 0 1;start 59;"), 0, 7, 1 + 180, 180 + 59);
    }

    private static void filling() {
        Check.says(PART, "The first FILL minutes of a LENGTH (all, if it has fewer) are FILLING.");
        WarabandiDesk x = Check.desk(TRIO);
        int[] edges = {0, 1, 9, 1, 10, 0, 2519, 0, 2520, 1, 2569, 1, 2570, 0, 7581, 0, 7582, 0, 10079, 0, 10080, 1};
        for (int k = 0; k < edges.length; k += 2) {
            Check.due("at(" + edges[k] + ", 1)", x.at(edges[k], 1), edges[k + 1]);
        }
        turnsAre(x, 0, 8, 10, 50, 0);
        x = Check.desk(SHORT);
        turnsAre(x, 0, 1, 0, 60);
        turnsAre(x, 0, 5, 10040, 40);
        turnsAre(x, 0, 8, 0, 40);
        Check.due("at(10039, 1)", x.at(10039, 1), 0);
        Check.due("at(10040, 1)", x.at(10040, 1), 1);
        Check.due("at(10079, 1)", x.at(10079, 1), 1);
        // just as many as FILL, by a LEND of 20
        x.lend(0, 0, 1, 20);
        turnsAre(x, 0, 8, 0, 60);
        x.lend(0, 0, 1, 1);
        turnsAre(x, 0, 8, 0, 60);
        turnsAre(x, 0, 5, 10019, 61);
    }

    private static void shut() {
        Check.says(PART, "SHUT: minutes from .. to (that one not) of a WEEK, from its begin on.");
        WarabandiDesk x = Check.desk(HALVES + "start 500;shut 0 100 200;shut 51 0 1;shut 50 10079 10080;");
        int last = 500 + 51 * 10080;
        int[] edges = {500, 0, 599, 0, 600, 1, 699, 1, 700, 0, 10080 + 600, 0, last - 2, 0, last - 1, 1, last, 1, last + 1, 0};
        for (int k = 0; k < edges.length; k += 2) {
            Check.due("at(" + edges[k] + ", 2)", x.at(edges[k], 2), edges[k + 1]);
        }
        turnsAre(x, 0, 9, 100, 0);
        turnsAre(x, 50, 9, 0, 1);
        turnsAre(x, 51, 9, 1, 0);
        turnsAre(x, 1, 9, 0, 0);
        // on both sides of the boundary of two FIELDS
        x = Check.desk(HALVES + "shut 0 5039 5041;");
        turnsAre(x, 0, 9, 1, 1);
        x = Check.desk(HALVES + "shut 0 5040 5041;shut 1 5039 5040;shut 2 0 10080;");
        turnsAre(x, 0, 9, 0, 1);
        turnsAre(x, 1, 9, 1, 0);
        turnsAre(x, 2, 9, 5040, 5040);
        // one within the other, overlapping, told from the last one on
        turnsAre(Check.desk(HALVES + "shut 0 100 500;shut 0 200 300;"), 0, 9, 400, 0);
        turnsAre(Check.desk(HALVES + "shut 0 200 300;shut 0 100 500;"), 0, 9, 400, 0);
        turnsAre(Check.desk(HALVES + "shut 0 200 300;shut 0 250 400;"), 0, 9, 200, 0);
        turnsAre(Check.desk(HALVES + "shut 0 700 800;shut 0 200 300;shut 0 100 500;"), 0, 9, 500, 0);
        turnsAre(Check.desk(HALVES + "shut 0 900 901;shut 0 700 800;shut 0 500 600;shut 0 300 400;shut 0 100 200;shut 0 0 1;"),
                0, 9, 402, 0);
        // told twice, overlapping, touching
        x = Check.desk(HALVES + "shut 0 10 20;shut 0 10 20;shut 0 15 25;shut 0 25 30;shut 0 5 10;shut 0 12 13;");
        turnsAre(x, 0, 9, 25, 0);
        Check.due("at(4, 2)", x.at(4, 2), 0);
        Check.due("at(5, 2)", x.at(5, 2), 1);
        Check.due("at(29, 2)", x.at(29, 2), 1);
        Check.due("at(30, 2)", x.at(30, 2), 0);
    }

    private static void water() {
        Check.says(PART, "WATER of a FIELD in a WEEK: minutes of its LENGTH, neither FILLING nor SHUT, and DRAIN, times FLOW of its NODE");
        WarabandiDesk x = Check.desk(TRIO);
        Check.due("water(0, 0)", x.water(0, 0), 2510 * 60);
        Check.due("water(0, 1)", x.water(0, 1), 5019 * 60);
        Check.due("water(0, 2)", x.water(0, 2), 2509 * 60);
        // a minute that is FILLING and SHUT is taken off once
        x.shut(0, 0, 11);
        Check.due("water(0, 0) with 11 SHUT", x.water(0, 0), 2509 * 60);
        x.shut(1, 0, 10080);
        Check.due("water(1, 0) all SHUT", x.water(1, 0), 0);
        Check.due("water(1, 1) all SHUT", x.water(1, 1), 7 * 60);
        Check.due("water(1, 2) all SHUT", x.water(1, 2), 11 * 60);
        Check.due("water(0, 1) of a short one", Check.desk(SHORT).water(0, 1), 30 * 60);
        // all that can be: a week, and 600 minutes that drain; what FILLS and what drains are as much
        x = Check.desk("reach 0 60 0;".repeat(10) + "field a 9 1;flow 999;");
        Check.due("the greatest water(0, 0)", x.water(0, 0), 10680L * 999);
        x = Check.desk("reach 60 0 0;".repeat(10) + "field a 9 1;flow 999;");
        Check.due("water(0, 0) behind 600 FILLING", x.water(0, 0), 9480L * 999);
    }

    private static void waterThatFails() {
        Check.says(PART, "(0 in a WEEK that FAILS). NIGHT of it");
        WarabandiDesk x = Check.desk(FAILS + "rotate 1 1;");
        Check.due("water(0, 0)", x.water(0, 0), 0);
        Check.due("water(0, 1)", x.water(0, 1), 0);
        Check.due("all(0)", x.all(0), 0);
        Check.due("water(1, 0)", x.water(1, 0), 10130 * 60);
        Check.due("water(1, 1)", x.water(1, 1), 10 * 60);
    }

    private static void nightOfAFailingWeek() {
        Check.says(PART, "NIGHT of it: minutes of its LENGTH in hours of the night (0 in a WEEK that FAILS).");
        WarabandiDesk x = Check.desk(FAILS + "rotate 1 1;night 1 0;");
        Check.due("nights(0, 0, 0)", x.nights(0, 0, 0), 0);
        Check.due("nights(0, 0, 1)", x.nights(0, 0, 1), 0);
        // b has the minutes 0 to 9, in the hour that is none of the night; a has 6 whole days and 50 minutes of that hour
        Check.due("nights(0, 1, 0)", x.nights(0, 1, 0), 7 * 1380);
        Check.due("nights(0, 1, 1)", x.nights(0, 1, 1), 0);
        // what is FILLING or SHUT is night, too
        x = Check.desk(HALVES + "night 0 12;shut 0 0 10080;");
        turnsAre(x, 0, 7, 2880, 2160);
        turnsAre(Check.desk(SHORT + "night 23 0;"), 0, 7, 420 - 40, 40);
    }
}
