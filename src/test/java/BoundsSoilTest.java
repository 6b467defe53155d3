import java.util.function.Supplier;

/** The boundary cases that the part "==== 3." names: soils, HEAD and TAIL, MATCHED, ACTS. */
public final class BoundsSoilTest {
    private static final String PART = "==== 3.";
    /** DEPTH is 100.8 times FLOW, cut. */
    private static final String ALONE = "reach 0 0 0;field a 0 100;";
    private static final String FAILS = "reach 0 60 0;field a 0 999;field b 0 1;";
    private static final String HALVES = "reach 0 0 0;field a 0 10;field b 0 10;";

    public static void main(String[] args) {
        depth();
        soilAheadOfWeekZero();
        soilAtMost();
        dryBelowZero();
        head();
        tail();
        matchedOnceAtMost();
        matchedRosterAsItIs();
        matchedMustNotFail();
        matchedNoCouple();
        matchedLeast();
        matchedFewest();
        matchedWithNoneFirst();
        matchedWithTheLesser();
        actsThatAreTaken();
        actsThatChangeNothing();
        latestTen();
        manyCalls();
        tellForgets();
        Check.end();
    }

    private static void depth() {
        Check.says(PART, "DEPTH of a FIELD in a WEEK: WATER by LAND (cut).");
        WarabandiDesk x = Check.desk("reach 0 0 0;field a 0 999;flow 1;shut 1 0 9081;shut 2 0 9082;shut 3 0 10080;");
        // 10080 by 999 is 10.09; 999 by 999; 998 by 999
        Check.due("depth(0, 0)", x.depth(0, 0), 10);
        Check.due("depth(1, 0)", x.depth(1, 0), 1);
        Check.due("depth(2, 0)", x.depth(2, 0), 0);
        Check.due("depth(3, 0)", x.depth(3, 0), 0);
        x = Check.desk("reach 0 60 0;".repeat(10) + "field a 9 1;flow 999;");
        Check.due("the greatest depth(0, 0)", x.depth(0, 0), 10680L * 999);
        Check.due("depth(0, 0) of a WEEK that FAILS", Check.desk(FAILS).depth(0, 0), 0);
    }

    private static void soilAheadOfWeekZero() {
        Check.says(PART, "SOIL: STORE ahead of WEEK 0");
        WarabandiDesk x = Check.desk(ALONE + "crop a 9999 9999;shut 0 0 10080;");
        Check.due("soil(0, 0) of all used at once", x.soil(0, 0), 0);
        Check.due("dry(0, 0, 0) of all used at once", x.dry(0, 0, 0), 0);
        x = Check.desk(ALONE + "crop a 500 200;shut 0 0 10080;");
        Check.due("soil(0, 0)", x.soil(0, 0), 300);
    }

    private static void soilAtMost() {
        Check.says(PART, "in each WEEK: SOIL and DEPTH, STORE at most, less USE");
        // DEPTH 403: 700 and 403 are kept but for 1000; 699 less 1 and 403 likewise
        WarabandiDesk x = Check.desk(ALONE + "flow 4;crop a 1000 300;");
        for (int week : new int[] {0, 1, 51}) {
            Check.due("soil(" + week + ", 0)", x.soil(week, 0), 700);
        }
        // USE just as much as DEPTH, one more, one less
        x = Check.desk(ALONE + "flow 4;crop a 1000 403;");
        Check.due("soil(51, 0) by USE 403", x.soil(51, 0), 597);
        x = Check.desk(ALONE + "flow 4;crop a 1000 404;");
        Check.due("soil(1, 0) by USE 404", x.soil(1, 0), 595);
        Check.due("soil(51, 0) by USE 404", x.soil(51, 0), 596 - 51);
        x = Check.desk(ALONE + "flow 4;crop a 1000 402;");
        Check.due("soil(51, 0) by USE 402", x.soil(51, 0), 598);
        x = Check.desk("reach 0 0 0;field a 0 1;flow 999;crop a 9999 0;field b 0 1;crop b 9999 9999;");
        Check.due("soil(51, 0) of a small field by a great FLOW", x.soil(51, 0), 9999);
        Check.due("soil(51, 1) of a small field by a great FLOW", x.soil(51, 1), 0);
        Check.due("dry(51, 1, 0) of a small field by a great FLOW", x.dry(51, 1, 0), 0);
        Check.due("soil(51, 0) without STORE", Check.desk(ALONE).soil(51, 0), 0);
        Check.due("dry(51, 0, 0) without STORE and USE", Check.desk(ALONE).dry(51, 0, 0), 0);
    }

    private static void dryBelowZero() {
        Check.says(PART, "if that is below 0, it is DRY in that WEEK, and SOIL is 0.");
        // just 0 is not DRY
        WarabandiDesk x = Check.desk(ALONE + "flow 4;crop a 403 403;");
        Check.due("soil(51, 0)", x.soil(51, 0), 0);
        Check.due("dry(51, 0, 0)", x.dry(51, 0, 0), 0);
        // one below 0 is DRY, and does not go on to the next WEEK
        x = Check.desk(ALONE + "flow 4;crop a 403 404;");
        Check.due("soil(0, 0)", x.soil(0, 0), 0);
        Check.due("dry(0, 0, 0)", x.dry(0, 0, 0), 1);
        Check.due("dry(51, 0, 0)", x.dry(51, 0, 0), 52);
        // nothing comes in WEEK 1: 97 less 403 is DRY; then 403 less 403 is not
        x = Check.desk(ALONE + "flow 4;crop a 500 403;shut 1 0 10080;");
        int[] soils = {97, 0, 0, 0};
        int[] times = {0, 1, 1, 1};
        for (int week = 0; week < soils.length; week++) {
            Check.due("soil(" + week + ", 0)", x.soil(week, 0), soils[week]);
            Check.due("dry(" + week + ", 0, 0)", x.dry(week, 0, 0), times[week]);
        }
        // nothing comes in WEEK 1, and then one too few: DRY from then on, from SOIL 0 each time
        x = Check.desk(ALONE + "flow 4;crop a 500 404;shut 1 0 10080;");
        Check.due("soil(0, 0)", x.soil(0, 0), 96);
        Check.due("dry(51, 0, 0)", x.dry(51, 0, 0), 51);
        // STORE 0, so that nothing is kept
        x = Check.desk(ALONE + "crop a 0 1;");
        Check.due("dry(51, 0, 0) without STORE", x.dry(51, 0, 0), 52);
    }

    private static void head() {
        Check.says(PART, "HEAD: the FIELD with the least NODE");
        WarabandiDesk x = Check.desk("reach 0 0 0;reach 0 0 0;reach 0 0 0;field a 2 1;field b 1 1;field c 1 9;field d 2 9;");
        Check.due("HEAD", x.count(5), 1);
        x.move(2, 0);
        Check.due("HEAD behind a move", x.count(5), 1);
        Check.due("HEAD of one", Check.desk("reach 0 0 0;reach 0 0 0;field a 1 1;").count(5), 0);
        Check.due("HEAD of none", Check.desk("reach 0 0 0;").count(5), -1);
    }

    private static void tail() {
        Check.says(PART, "TAIL: with the greatest one (of like ones the least)");
        WarabandiDesk x = Check.desk("reach 0 0 0;reach 0 0 0;reach 0 0 0;field a 0 1;field b 1 1;field c 1 9;field d 0 9;");
        Check.due("TAIL", x.count(6), 1);
        x.move(2, 0);
        Check.due("TAIL behind a move", x.count(6), 1);
        x = Check.desk("reach 0 0 0;field a 0 1;field b 0 1;");
        Check.due("HEAD of like ones", x.count(5), 0);
        Check.due("TAIL of like ones", x.count(6), 0);
        Check.due("TAIL of one", Check.desk("reach 0 0 0;reach 0 0 0;field a 1 1;").count(6), 0);
        Check.due("TAIL of none", Check.desk("reach 0 0 0;").count(6), -1);
    }

    private static void matchedAre(WarabandiDesk x, int week, int night, int... due) {
        Check.due("matched(" + week + ", -1)", x.matched(week, -1), night);
        for (int f = 0; f < due.length; f++) {
            Check.due("matched(" + week + ", " + f + ")", x.matched(week, f), due[f]);
        }
    }

    private static void matchedOnceAtMost() {
        Check.says(PART, "MATCHED in a WEEK: some couples of FIELDS, each FIELD in one at most, change their places");
        // days 2.5, 1.75, 2.75; night 12 to 24: by c a b none has more than 1800, but for that two couples would share one
        WarabandiDesk x = Check.desk("reach 0 0 0;field a 0 10;field b 0 7;field c 0 11;night 12 0;swap 1 a c;swap 1 a b;");
        Check.due("the greatest NIGHT as it is", x.inTurn(0, 2, 7), 2160);
        for (int f = 0; f < 3; f++) {
            Check.due("NIGHT by c a b at most 1800", Math.max(x.inTurn(1, f, 7), 1800), 1800);
        }
        matchedAre(x, 0, 2160, -1, -1, -1);
    }

    private static void matchedRosterAsItIs() {
        Check.says(PART, "in the ROSTER as it is (by a SWAP more each");
        // minutes 7920, 720, 1440: a has six first hours of a day as the first one, else five
        String three = "reach 0 0 0;field a 0 110;field b 0 10;field c 0 20;night 0 1;";
        WarabandiDesk x = Check.desk(three + "swap 1 a b;rotate 3 1;");
        matchedAre(x, 0, 300, 1, 0, -1);
        matchedAre(x, 1, 300, -1, -1, -1);
        // turned: b c a
        matchedAre(x, 3, 300, -1, -1, -1);
        x = Check.desk(three + "swap 5 b c;".repeat(12));
        matchedAre(x, 0, 300, 1, 0, -1);
        Check.due("count(2) behind matched()", x.count(2), 12);
    }

    private static void matchedMustNotFail() {
        Check.says(PART, "the WEEK must not FAIL then");
        // b a as it is; a b would FAIL, and then none had a NIGHT
        WarabandiDesk x = Check.desk(FAILS + "rotate 1 1;");
        matchedAre(x, 1, 5030, -1, -1);
        // c b a as it is: c has the minutes 0 to 4, b up to 5072; with c as the last one it would FAIL
        x = Check.desk("reach 0 60 0;field a 0 999;field b 0 999;field c 0 1;swap 0 a c;");
        Check.due("fails(0)", x.fails(0), 0);
        Check.due("fails(1)", x.fails(1), 1);
        matchedAre(x, 0, 2520, -1, -1, -1);
        Check.due("matched(1, -1)", x.matched(1, -1), -6);
    }

    private static void matchedNoCouple() {
        Check.says(PART, "of all such ways (of no couple, too)");
        matchedAre(Check.desk("reach 0 0 0;field a 0 5;"), 0, 5040, -1);
        matchedAre(Check.desk(HALVES), 0, 2520, -1, -1);
        matchedAre(Check.desk(HALVES + "night 0 0;"), 0, 0, -1, -1);
        // b has seven first hours less that of the first day: nothing is better
        matchedAre(Check.desk("reach 0 0 0;field a 0 1;field b 0 20;night 0 1;"), 0, 360, -1, -1);
    }

    private static void matchedLeast() {
        Check.says(PART, "that by which the greatest NIGHT of a FIELD is least");
        // minutes 3528, 2016, 3528, 1008: only by two couples each one has two nights of five hours at most
        WarabandiDesk x = Check.desk("reach 0 0 0;field a 0 7;field b 0 4;field c 0 7;field d 0 2;night 4 9;");
        matchedAre(x, 0, 600, 1, 0, 3, 2);
        // minutes 630, 1260, 2520, 5670: the first with the third one, the second with the fourth one
        x = Check.desk("reach 0 0 0;field a 0 1;field b 0 2;field c 0 4;field d 0 9;night 17 21;");
        matchedAre(x, 0, 900, 2, 3, 0, 1);
        // eight, of which the long one is first: seven first hours, else six
        x = Check.desk("reach 0 0 0;field a 0 93;field b 0 1;field c 0 1;field d 0 1;field e 0 1;field f 0 1;field g 0 1;"
                + "field h 0 1;night 0 1;");
        Check.due("inTurn(0, 0, 7)", x.inTurn(0, 0, 7), 420);
        matchedAre(x, 0, 360, 1, 0, -1, -1, -1, -1, -1, -1);
    }

    private static void matchedFewest() {
        Check.says(PART, "of like ones the fewest couples");
        // minutes 3600, 2880, 1440, 2160: by d b c a and by c d a b two nights at most
        WarabandiDesk x = Check.desk("reach 0 0 0;field a 0 5;field b 0 4;field c 0 2;field d 0 3;night 8 10;");
        matchedAre(x, 0, 240, 3, -1, -1, 0);
    }

    private static void matchedWithNoneFirst() {
        Check.says(PART, "then that in which FIELD 0, 1 .. is matched with none");
        // d is the first one in WEEK 1, with seven nights, and has six behind any other one: FIELDS 0 and 1 stay alone
        WarabandiDesk x = Check.desk("reach 0 0 0;field a 0 1;field b 0 1;field c 0 1;field d 0 22;night 0 1;rotate 1 3;");
        matchedAre(x, 1, 360, -1, -1, 3, 2);
    }

    private static void matchedWithTheLesser() {
        Check.says(PART, "else with the lesser one");
        // a is the first one and has a night less behind any other one: b is the least of these
        WarabandiDesk x = Check.desk("reach 0 0 0;field a 0 22;field b 0 1;field c 0 1;field d 0 1;night 0 1;");
        matchedAre(x, 0, 360, 1, 0, -1, -1);
    }

    private static void actsThatAreTaken() {
        Check.says(PART, "ACTS: move(), swap(), lend(), shut(), line(), flow(), turn(), mode(), land() that aren't refused");
        WarabandiDesk x = Check.desk(HALVES);
        x.move(0, 1);
        x.swap(0, 0, 1);
        x.lend(0, 0, 1, 1);
        x.shut(0, 0, 1);
        x.line(0);
        x.flow(61);
        x.turn(2, 2);
        x.mode(1);
        x.land(0, 11);
        Check.due("count(8)", x.count(8), 9);
        // refused ones are none
        x.move(2, 0);
        x.move(0, 2);
        x.swap(0, 0, 0);
        x.swap(52, 0, 1);
        x.lend(0, 0, 1, 0);
        x.lend(0, 0, 0, 1);
        x.shut(0, 1, 1);
        x.line(1);
        x.flow(0);
        x.turn(0, 0);
        x.mode(2);
        x.land(0, 0);
        x.land(2, 1);
        x.feed(0, 0, 0, 0, 0);
        Check.due("count(8) behind refused ones", x.count(8), 9);
        Check.due("undo()", x.undo(), 8);
        Check.due("field(0, 1)", x.field(0, 1), 10);
    }

    private static void actsThatChangeNothing() {
        Check.says(PART, "(even if all is as it was)");
        WarabandiDesk x = Check.desk(HALVES);
        x.flow(61);
        x.move(1, 1);
        x.line(0);
        x.flow(61);
        x.turn(1, 0);
        x.mode(0);
        x.land(0, 10);
        Check.due("count(8)", x.count(8), 7);
        for (int left = 6; left >= 1; left--) {
            Check.due("undo()", x.undo(), left);
            Check.due("setting(0)", x.setting(0), 61);
        }
        Check.due("undo()", x.undo(), 0);
        Check.due("setting(0)", x.setting(0), 60);
    }

    private static void latestTen() {
        Check.says(PART, "the latest 10 can be UNDONE");
        WarabandiDesk x = new WarabandiDesk();
        for (int n = 1; n <= 10; n++) {
            x.flow(n);
        }
        Check.due("count(8) of ten", x.count(8), 10);
        x.flow(11);
        Check.due("count(8) of eleven", x.count(8), 10);
        for (int left = 9; left >= 0; left--) {
            Check.due("undo()", x.undo(), left);
            Check.due("setting(0)", x.setting(0), left + 1);
        }
        Check.due("undo() of the eleventh", x.undo(), -5);
        Check.due("setting(0)", x.setting(0), 1);
        // what was undone makes room again
        for (int n = 101; n <= 110; n++) {
            x.flow(n);
        }
        x.undo();
        x.undo();
        x.flow(200);
        Check.due("count(8)", x.count(8), 9);
        x.mode(1);
        x.mode(0);
        Check.due("count(8)", x.count(8), 10);
        for (int left = 9; left >= 0; left--) {
            Check.due("undo()", x.undo(), left);
        }
        Check.due("setting(0)", x.setting(0), 101);
    }

    private static void manyCalls() {
        Check.says("What it is", "An object is used for at most 512 calls after it has been made");
        WarabandiDesk x = new WarabandiDesk();
        for (int n = 1; n <= 501; n++) {
            x.flow(n);
        }
        for (int left = 9; left >= 0; left--) {
            x.undo();
        }
        Check.due("setting(0) at call 512", x.setting(0), 491);
    }

    private static void tellForgets() {
        Check.says(PART, "(tell() that is taken forgets them)");
        Supplier<WarabandiDesk> make = () -> {
            WarabandiDesk x = Check.desk(HALVES);
            x.flow(61);
            return x;
        };
        WarabandiDesk x = make.get();
        Check.due("tell(0)", x.tell(0), 0);
        Check.due("count(8) behind tell(0)", x.count(8), 0);
        Check.due("undo() behind tell(0)", x.undo(), -5);
        x = make.get();
        Check.due("tell", Check.tell(x, "flow 5;"), 1);
        Check.due("count(8) behind a text", x.count(8), 0);
        x = make.get();
        Check.due("tell(1) of nothing", x.tell(1), -3);
        Check.due("tell(-1)", x.tell(-1), -3);
        Check.due("tell with a FAULT", Check.tell(x, "flow 0;"), -32);
        Check.due("count(8) behind refused ones", x.count(8), 1);
        Check.due("undo() behind refused ones", x.undo(), 0);
        Check.due("setting(0)", x.setting(0), 60);
    }
}
