/** Promises 29 to 34: what each gets by its land, and soils that keep and use it. */
public final class SoilTest {
    /** 60 comes in, 54 and 44 are left at the nodes; SHARES are 2516 and 7549: DEPTH 1358 and 1107. */
    private static final String TWO = "reach 10 5 100;reach 20 10 200;field a 0 100;field b 1 300;";
    private static final String FAILS = "reach 0 60 0;field a 0 999;field b 0 1;";
    /** DEPTH is 100.8 times FLOW, cut. */
    private static final String ALONE = "reach 0 0 0;field a 0 100;";

    public static void main(String[] args) {
        depth();
        first();
        soil();
        dry();
        dryAgain();
        failingWeeks();
        tail();
        leastFlow();
        leastFlowByFlow();
        Check.end();
    }

    private static void depth() {
        Check.about("promise 29");
        WarabandiDesk x = Check.desk(TWO);
        Check.due("depth(0, 0)", x.depth(0, 0), 1358);
        Check.due("depth(51, 1)", x.depth(51, 1), 1107);
        Check.due("depth(0, 2)", x.depth(0, 2), -2);
        Check.due("depth(0, -1)", x.depth(0, -1), -2);
        Check.due("depth(52, 2)", x.depth(52, 2), -2);
        Check.due("depth(52, 0)", x.depth(52, 0), -3);
        Check.due("depth(-1, 0)", x.depth(-1, 0), -3);
        Check.due("depth(0, 0) of a week that fails", Check.desk(FAILS).depth(0, 0), 0);
        x = Check.desk("reach 0 0 0;field a 0 1;flow 999;");
        Check.due("depth(0, 0)", x.depth(0, 0), 10080 * 999);
    }

    private static void first() {
        Check.about("promise 30");
        WarabandiDesk x = Check.desk(TWO);
        Check.due("first(0, false)", x.first(0, false), 1);
        Check.due("first(0, true)", x.first(0, true), 0);
        x.shut(1, 0, 5000);
        Check.due("first(1, false)", x.first(1, false), 0);
        Check.due("first(1, true)", x.first(1, true), 1);
        Check.due("first(52, true)", x.first(52, true), -3);
        Check.due("first(-1, false)", x.first(-1, false), -3);
        x = Check.desk("reach 0 0 0;field a 0 10;field b 0 10;field c 0 10;");
        Check.due("first(0, false) of like ones", x.first(0, false), 0);
        Check.due("first(0, true) of like ones", x.first(0, true), 0);
        x.move(0, 2);
        Check.due("first(0, true) of like ones", x.first(0, true), 0);
        Check.due("first(0, false) of a week that fails", Check.desk(FAILS).first(0, false), 0);
        x = new WarabandiDesk();
        Check.due("first(0, true) without a field", x.first(0, true), -1);
        Check.due("first(52, true) without a field", x.first(52, true), -3);
    }

    private static void soil() {
        Check.about("promise 31");
        WarabandiDesk x = Check.desk(TWO + "crop a 3000 1300;crop b 2000 1200;");
        Check.due("soil(0, 0)", x.soil(0, 0), 1700);
        Check.due("soil(1, 0)", x.soil(1, 0), 1700);
        Check.due("soil(51, 0)", x.soil(51, 0), 1700);
        for (int w = 0; w <= 8; w++) {
            Check.due("soil(" + w + ", 1)", x.soil(w, 1), 800 - 93 * w);
        }
        Check.due("soil(9, 1)", x.soil(9, 1), 0);
        Check.due("soil(10, 1)", x.soil(10, 1), 0);
        x.shut(1, 0, 2526);
        // 1700 with nothing in week 1, then 400 and 1358, less 1300 each
        Check.due("soil(1, 0)", x.soil(1, 0), 400);
        Check.due("soil(2, 0)", x.soil(2, 0), 458);
        Check.due("soil(0, 2)", x.soil(0, 2), -2);
        Check.due("soil(52, -1)", x.soil(52, -1), -2);
        Check.due("soil(52, 0)", x.soil(52, 0), -3);
        Check.due("soil(-1, 0)", x.soil(-1, 0), -3);
        x = Check.desk(TWO);
        Check.due("soil(3, 0) without a store", x.soil(3, 0), 0);
        x = Check.desk(TWO + "crop a 50 50;");
        Check.due("soil(3, 0) that is just used", x.soil(3, 0), 0);
        Check.due("dry(3, 0, 0) that is just used", x.dry(3, 0, 0), 0);
    }

    private static void dry() {
        Check.about("promise 32");
        WarabandiDesk x = Check.desk(TWO + "crop a 3000 1300;crop b 2000 1200;");
        Check.due("dry(51, 0, 0)", x.dry(51, 0, 0), 0);
        Check.due("dry(51, 0, 1)", x.dry(51, 0, 1), -1);
        Check.due("dry(8, 1, 0)", x.dry(8, 1, 0), 0);
        Check.due("dry(8, 1, 1)", x.dry(8, 1, 1), -1);
        Check.due("dry(9, 1, 0)", x.dry(9, 1, 0), 1);
        Check.due("dry(9, 1, 1)", x.dry(9, 1, 1), 9);
        Check.due("dry(51, 1, 0)", x.dry(51, 1, 0), 43);
        Check.due("dry(51, 1, 1)", x.dry(51, 1, 1), 9);
        Check.due("dry(0, 2, 0)", x.dry(0, 2, 0), -2);
        Check.due("dry(0, 0, 2)", x.dry(0, 0, 2), -2);
        Check.due("dry(0, 0, -1)", x.dry(0, 0, -1), -2);
        Check.due("dry(52, 0, 2)", x.dry(52, 0, 2), -2);
        Check.due("dry(52, 0, 0)", x.dry(52, 0, 0), -3);
        Check.due("dry(-1, 0, 1)", x.dry(-1, 0, 1), -3);
    }

    private static void dryAgain() {
        Check.about("promise 32, dry and again");
        // DEPTH 403 as a rule; nothing in week 1: dry; just enough in week 2; 402 in week 3: dry
        WarabandiDesk x = Check.desk(ALONE + "flow 4;crop a 500 403;shut 1 0 10080;shut 3 0 10;");
        int[] soils = {97, 0, 0, 0, 0};
        int[] times = {0, 1, 1, 2, 2};
        for (int w = 0; w < soils.length; w++) {
            Check.due("soil(" + w + ", 0)", x.soil(w, 0), soils[w]);
            Check.due("dry(" + w + ", 0, 0)", x.dry(w, 0, 0), times[w]);
        }
        Check.due("dry(51, 0, 1)", x.dry(51, 0, 1), 1);
    }

    private static void failingWeeks() {
        Check.about("promises 31 and 32, weeks that fail");
        // b gets 10 of 60 minutes and its SHARE of them in each other week; 600 DEPTH; in the others nothing
        WarabandiDesk x = Check.desk(FAILS + "rotate 1 1;crop b 1000 550;");
        Check.due("depth(0, 1)", x.depth(0, 1), 0);
        Check.due("depth(1, 1)", x.depth(1, 1), 600);
        Check.due("soil(0, 1)", x.soil(0, 1), 450);
        Check.due("soil(1, 1)", x.soil(1, 1), 450);
        Check.due("soil(2, 1)", x.soil(2, 1), 0);
        Check.due("dry(2, 1, 1)", x.dry(2, 1, 1), 2);
        Check.due("dry(51, 1, 0)", x.dry(51, 1, 0), 25);
        Check.due("soil(51, 1)", x.soil(51, 1), 50);
    }

    private static void tail() {
        Check.about("promise 33");
        WarabandiDesk x = Check.desk(TWO);
        Check.due("tail(0)", x.tail(0), 1107 * 1000 / 1358);
        x.move(1, 0);
        Check.due("tail(0)", x.tail(0), 1107 * 1000 / 1358);
        x.undo();
        x.shut(1, 0, 2526);
        Check.due("tail(1) without DEPTH of HEAD", x.tail(1), -1);
        Check.due("tail(52)", x.tail(52), -3);
        Check.due("tail(-1)", x.tail(-1), -3);
        x = Check.desk("reach 10 5 0;field a 0 100;");
        Check.due("tail(0) of one field", x.tail(0), 1000);
        Check.due("tail(0) of a week that fails", Check.desk(FAILS).tail(0), -1);
        x = new WarabandiDesk();
        Check.due("tail(0) without a field", x.tail(0), -1);
        Check.due("tail(52) without a field", x.tail(52), -3);
        // 1260 minutes of 1 by 999 are a DEPTH of 1
        x = Check.desk("reach 0 0 0;reach 0 0 0;field a 0 999;field b 1 999;field c 0 999;field d 0 999;field e 0 999;"
                + "field f 0 999;field g 0 999;field h 0 999;flow 1;");
        Check.due("depth(0, 0)", x.depth(0, 0), 1);
        Check.due("tail(0)", x.tail(0), 1000);
        // of like ones the least: a is HEAD, not c; b is TAIL, not d
        x = Check.desk("reach 0 0 0;reach 0 0 500;field a 0 100;field b 1 100;field c 0 100;field d 1 100;shut 0 5000 10080;");
        Check.due("tail(0)", x.tail(0), 2480 * 30 / 100 * 1000 / (2520 * 60 / 100));
    }

    private static void leastFlow() {
        Check.about("promise 34");
        WarabandiDesk x = Check.desk(ALONE + "crop a 1000 500;");
        int[] due = {1, 1, 3, 4, 4, 4};
        for (int w = 0; w < due.length; w++) {
            Check.due("leastFlow(" + w + ")", x.leastFlow(w), due[w]);
        }
        Check.due("leastFlow(51)", x.leastFlow(51), 5);
        Check.due("setting(0)", x.setting(0), 60);
        Check.due("leastFlow(52)", x.leastFlow(52), -3);
        Check.due("leastFlow(-1)", x.leastFlow(-1), -3);
        x = Check.desk(ALONE + "crop a 100 200;");
        Check.due("leastFlow(0) by none", x.leastFlow(0), -1);
        x = Check.desk(ALONE);
        Check.due("leastFlow(51) without use", x.leastFlow(51), 1);
        x = Check.desk("reach 0 0 0;field a 0 999;crop a 9999 9999;");
        // 10080 by 999 is 10.09 a FLOW: 991 of them are 9999.27
        Check.due("leastFlow(1)", x.leastFlow(1), 991);
        x.land(0, 998);
        Check.due("leastFlow(1)", x.leastFlow(1), 990);
        x.shut(1, 0, 200);
        Check.due("leastFlow(1) by none", x.leastFlow(1), -1);
        // 9999 minutes by 999: all of the greatest flow
        x = Check.desk("reach 0 0 0;field a 0 999;crop a 9999 9999;shut 1 0 81;");
        Check.due("leastFlow(1)", x.leastFlow(1), 999);
        x = Check.desk("reach 1 1 1;");
        Check.due("leastFlow(0) without a field", x.leastFlow(0), -5);
        Check.due("leastFlow(52) without a field", x.leastFlow(52), -3);
    }

    private static void leastFlowByFlow() {
        Check.about("promise 34, MODE 1");
        String text = TWO + "crop a 3000 900;crop b 2000 1000;";
        // b must get 981 a week to have something left of 1000 behind 52 weeks: by land it has 7549 minutes,
        // and 39 at its node give 981 (53 less 5 less 9), 38 (52 less 5 less 9) only 956
        WarabandiDesk x = Check.desk(text);
        Check.due("leastFlow(51)", x.leastFlow(51), 53);
        x.flow(53);
        Check.due("dry(51, 1, 0)", x.dry(51, 1, 0) + x.dry(51, 0, 0), 0);
        x.flow(52);
        Check.due("dry(51, 1, 0)", x.dry(51, 1, 0) > 0 ? 1 : 0, 1);
        // by what arrives b has 7928 minutes with 38 at its node: 1004; but 7937 with 37: 978
        x.mode(1);
        int least = x.leastFlow(51);
        Check.due("leastFlow(51)", least, 52);
        x.flow(least);
        Check.due("dry(51, 1, 0)", x.dry(51, 1, 0) + x.dry(51, 0, 0), 0);
        for (int n = 1; n < least; n++) {
            x.flow(n);
            Check.due("dry by " + n, x.dry(51, 1, 0) + x.dry(51, 0, 0) > 0 ? 1 : 0, 1);
        }
    }
}
