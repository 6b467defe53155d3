/** Promises 15 to 18 and 45: what was told, and how many there are. */
public final class ToldTest {
    private static final String TEXT = "reach 10 5 100;reach 20 10 200;reach 30 15 0;"
            + "field abz 1 120;field b 0 30;field zyxwvuts 2 999;crop b 3000 700;rotate 2 3;night 20 4;start 99;";

    public static void main(String[] args) {
        field();
        name();
        reach();
        setting();
        count();
        Check.end();
    }

    private static void field() {
        Check.about("promise 15");
        WarabandiDesk x = Check.desk(TEXT);
        int[] due = {0, 30, 3000, 700, 1};
        for (int what = 0; what < 5; what++) {
            Check.due("field(1, " + what + ")", x.field(1, what), due[what]);
        }
        Check.due("field(2, 0)", x.field(2, 0), 2);
        Check.due("field(2, 1)", x.field(2, 1), 999);
        Check.due("field(2, 2)", x.field(2, 2), 0);
        Check.due("field(2, 3)", x.field(2, 3), 0);
        x.move(2, 0);
        Check.due("field(2, 4)", x.field(2, 4), 0);
        Check.due("field(0, 4)", x.field(0, 4), 1);
        Check.due("field(1, 4)", x.field(1, 4), 2);
        Check.due("field(1, 5)", x.field(1, 5), -2);
        Check.due("field(1, -1)", x.field(1, -1), -2);
        Check.due("field(3, 0)", x.field(3, 0), -2);
        Check.due("field(-1, 0)", x.field(-1, 0), -2);
    }

    private static void name() {
        Check.about("promise 16");
        WarabandiDesk x = Check.desk(TEXT);
        int[] abz = {1, 2, 26, -1, -1};
        for (int k = 0; k < abz.length; k++) {
            Check.due("name(0, " + k + ")", x.name(0, k), abz[k]);
        }
        for (int k = 0; k < 8; k++) {
            Check.due("name(2, " + k + ")", x.name(2, k), 26 - k);
        }
        Check.due("name(2, 8)", x.name(2, 8), -1);
        Check.due("name(2, Integer.MAX_VALUE)", x.name(2, Integer.MAX_VALUE), -1);
        Check.due("name(0, -1)", x.name(0, -1), 3);
        Check.due("name(1, -1)", x.name(1, -1), 1);
        Check.due("name(2, -1)", x.name(2, -1), 8);
        Check.due("name(0, -2)", x.name(0, -2), -3);
        Check.due("name(3, -2)", x.name(3, -2), -2);
        Check.due("name(3, 0)", x.name(3, 0), -2);
        Check.due("name(-1, 0)", x.name(-1, 0), -2);
    }

    private static void reach() {
        Check.about("promise 17");
        WarabandiDesk x = Check.desk(TEXT);
        // 60 less 6; 54 less 10 (10.8 cut)
        int[] due = {10, 5, 100, 54, 20, 10, 200, 44, 30, 15, 0, 44};
        for (int k = 0; k < due.length; k++) {
            Check.due("reach(" + k / 4 + ", " + k % 4 + ")", x.reach(k / 4, k % 4), due[k]);
        }
        x.flow(999);
        // 999 less 99; 900 less 180
        Check.due("reach(0, 3)", x.reach(0, 3), 900);
        Check.due("reach(1, 3)", x.reach(1, 3), 720);
        x.flow(1);
        Check.due("reach(2, 3)", x.reach(2, 3), 1);
        Check.due("reach(3, 0)", x.reach(3, 0), -2);
        Check.due("reach(-1, 0)", x.reach(-1, 0), -2);
        Check.due("reach(0, 4)", x.reach(0, 4), -2);
        Check.due("reach(0, -1)", x.reach(0, -1), -2);
    }

    private static void setting() {
        Check.about("promise 18");
        WarabandiDesk x = Check.desk(TEXT);
        int[] due = {60, 99, 20, 4, 2, 3, 0};
        for (int what = 0; what < due.length; what++) {
            Check.due("setting(" + what + ")", x.setting(what), due[what]);
        }
        x.mode(1);
        Check.due("setting(6)", x.setting(6), 1);
        Check.due("setting(7)", x.setting(7), -2);
        Check.due("setting(-1)", x.setting(-1), -2);
    }

    private static void count() {
        Check.about("promise 45");
        WarabandiDesk x = Check.desk(TEXT);
        x.swap(0, 0, 1);
        x.lend(0, 0, 1, 2);
        x.lend(1, 0, 1, 2);
        x.shut(0, 1, 2);
        x.shut(0, 1, 2);
        x.shut(0, 1, 2);
        x.feed(1, 2, 3, 4, 5);
        int[] due = {3, 3, 1, 2, 3, 1, 2, 1149, 6, 20, -1};
        for (int what = 0; what < due.length; what++) {
            Check.due("count(" + what + ")", x.count(what), due[what]);
        }
        Check.due("count(-1)", x.count(-1), -1);
        x = Check.desk("reach 0 0 0;reach 0 0 0;field a 1 7;field b 1 8;");
        Check.due("count(5) of like ones", x.count(5), 0);
        Check.due("count(6) of like ones", x.count(6), 0);
        x = Check.desk("reach 0 0 0;reach 0 0 0;field a 0 7;field b 1 8;field c 0 1;field d 1 1;");
        x.move(0, 3);
        Check.due("count(5) of like ones", x.count(5), 0);
        Check.due("count(6) of like ones", x.count(6), 1);
        x = Check.desk("reach 0 0 0;reach 0 0 0;");
        Check.due("count(5) without a field", x.count(5), -1);
        Check.due("count(6) without a field", x.count(6), -1);
    }
}
