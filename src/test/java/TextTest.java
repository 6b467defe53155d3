/** Promises 1 to 4: a new object, feed, tell, fault; THE TEXT with its FAULTS. */
public final class TextTest {
    private static final String REACH = "reach 1 2 3;";
    private static final String FARMS = "reach 1 2 3;field a 0 5;field b 0 6;";

    public static void main(String[] args) {
        newObject();
        feed();
        tell();
        blanks();
        lines();
        latestCounts();
        textInPlace();
        cannotStand();
        outOfBounds();
        wrongNames();
        oneTooMany();
        firstFault();
        firstBytesAlone();
        fault();
        Check.end();
    }

    private static void newObject() {
        Check.about("promise 1");
        WarabandiDesk x = new WarabandiDesk();
        int[] counts = {0, 0, 0, 0, 0, -1, -1, 0, 0, 0};
        for (int what = 0; what < counts.length; what++) {
            Check.due("count(" + what + ")", x.count(what), counts[what]);
        }
        int[] settings = {60, 0, 18, 6, 1, 0, 0};
        for (int what = 0; what < settings.length; what++) {
            Check.due("setting(" + what + ")", x.setting(what), settings[what]);
        }
        Check.due("field(0, 0)", x.field(0, 0), -2);
        Check.due("reach(0, 0)", x.reach(0, 0), -2);
        Check.due("undo()", x.undo(), -5);
        Check.due("NONE", WarabandiDesk.NONE, -1);
    }

    private static void feed() {
        Check.about("promise 2");
        WarabandiDesk x = new WarabandiDesk();
        for (int k = 1; k <= 40; k++) {
            Check.due("feed " + k, x.feed(0, 0, 0, 0, 0), 20 * k);
        }
        Check.due("count(9)", x.count(9), 800);
        Check.due("feed beyond 800", x.feed(0, 0, 0, 0, 0), -4);
        Check.due("count(9)", x.count(9), 800);
        Check.due("tell(0)", x.tell(0), 0);
        Check.due("count(9)", x.count(9), 0);
        // "flow" | " 123" | ";mod" | "e 1;" | "    "
        Check.due("feed", x.feed(0x666c6f77, 0x20313233, 0x3b6d6f64, 0x6520313b, 0x20202020), 20);
        Check.due("feed", x.feed(0x666c6f77, 0x20343536, 0x3b202020, 0, -1), 40);
        Check.due("tell(30)", x.tell(30), 3);
        Check.due("setting(0)", x.setting(0), 456);
        Check.due("setting(6)", x.setting(6), 1);
        // a text of all 800 bytes
        Check.due("tell of 800 bytes", Check.tell(x, "flow 1; ".repeat(100)), 100);
    }

    private static void tell() {
        Check.about("promise 3");
        WarabandiDesk x = new WarabandiDesk();
        Check.due("tell(1) of nothing", x.tell(1), -3);
        Check.due("tell(-1)", x.tell(-1), -3);
        x.feed(0x666c6f77, 0x20393b7a, 0, 0, 0);
        Check.due("tell(21)", x.tell(21), -3);
        Check.due("tell(-1)", x.tell(-1), -3);
        Check.due("tell(Integer.MAX_VALUE)", x.tell(Integer.MAX_VALUE), -3);
        Check.due("tell(Integer.MIN_VALUE)", x.tell(Integer.MIN_VALUE), -3);
        Check.due("count(9)", x.count(9), 20);
        Check.due("tell(7)", x.tell(7), 1);
        Check.due("count(9)", x.count(9), 0);
        Check.due("setting(0)", x.setting(0), 9);
        Check.due("tell(1) again", x.tell(1), -3);
        x.feed(0x666c6f77, 0x20393b7a, 0, 0, 0);
        Check.due("tell(8)", x.tell(8), -31);
        Check.due("count(9)", x.count(9), 0);
        x.feed(0x666c6f77, 0x20383b7a, 0, 0, 0);
        x.tell(0);
        Check.due("setting(0) behind no byte", x.setting(0), 60);
    }

    private static void fine(String text, int lines) {
        Check.due("tell of \"" + text + "\"", Check.tell(new WarabandiDesk(), text), lines);
    }

    private static void blanks() {
        Check.about("promise 3, blanks");
        fine("", 0);
        fine("   ", 0);
        fine("reach1 2 3;", 1);
        fine("  reach  1   2 3  ; ", 1);
        fine("reach 1 2 3;field a0 5;", 2);
        fine("reach 1 2 3;field reacher0 5;crop reacher1 1;", 3);
        fine(FARMS + "swap0a b;lend1b a9;shut2 3 4;", 6);
        fine("flow 00001;start 00000;rotate 1 0;night 0 0;mode 0;", 5);
        fine("reach 0 0 0;field beach 0 5;field yield 0 5;field lendx 0 5;field shu 0 5;", 5);
        WarabandiDesk x = Check.desk("reach 1 2 3;field az0 5;crop az7 8;");
        Check.due("name(0, -1)", x.name(0, -1), 2);
        Check.due("field(0, 1)", x.field(0, 1), 5);
        Check.due("field(0, 2)", x.field(0, 2), 7);
    }

    private static void lines() {
        Check.about("promise 3, lines");
        WarabandiDesk x = Check.desk("reach 60 0 500;reach 0 60 0;field abcdefgh 1 999;field z 0 1;crop z 9999 0;"
                + "crop abcdefgh 0 9999;flow 999;start 10079;night 23 0;rotate 52 7;mode 1;"
                + "swap 51 z abcdefgh;lend 0 abcdefgh z 999;lend 51 z abcdefgh 1;shut 51 10079 10080;shut 0 0 1;");
        int[] reaches = {60, 0, 500, 500, 0, 60, 0, 500};
        for (int k = 0; k < 8; k++) {
            Check.due("reach(" + k / 4 + ", " + k % 4 + ")", x.reach(k / 4, k % 4), reaches[k]);
        }
        int[] fields = {1, 999, 0, 9999, 0, 0, 1, 9999, 0, 1};
        for (int k = 0; k < 10; k++) {
            Check.due("field(" + k / 5 + ", " + k % 5 + ")", x.field(k / 5, k % 5), fields[k]);
        }
        int[] settings = {999, 10079, 23, 0, 52, 7, 1};
        for (int k = 0; k < 7; k++) {
            Check.due("setting(" + k + ")", x.setting(k), settings[k]);
        }
        Check.due("count(2)", x.count(2), 1);
        Check.due("count(3)", x.count(3), 2);
        Check.due("count(4)", x.count(4), 2);
        StringBuilder ten = new StringBuilder();
        for (int r = 0; r < 10; r++) {
            ten.append("reach ").append(50 - r).append(' ').append(10 + r).append(' ').append(r).append(';');
        }
        x = Check.desk(ten.toString());
        for (int r = 0; r < 10; r++) {
            Check.due("reach(" + r + ", 0)", x.reach(r, 0), 50 - r);
            Check.due("reach(" + r + ", 1)", x.reach(r, 1), 10 + r);
            Check.due("reach(" + r + ", 2)", x.reach(r, 2), r);
        }
    }

    private static void latestCounts() {
        Check.about("promise 3, the latest counts");
        WarabandiDesk x = Check.desk(FARMS + "crop a 10 20;crop b 1 2;crop a 30 40;flow 1;flow 2;start 1;start 2;"
                + "night 1 2;night 3 4;rotate 1 2;rotate 3 4;mode 1;mode 0;");
        int[] settings = {2, 2, 3, 4, 3, 4, 0};
        for (int k = 0; k < 7; k++) {
            Check.due("setting(" + k + ")", x.setting(k), settings[k]);
        }
        Check.due("field(0, 2)", x.field(0, 2), 30);
        Check.due("field(0, 3)", x.field(0, 3), 40);
        Check.due("field(1, 3)", x.field(1, 3), 2);
    }

    private static void textInPlace() {
        Check.about("promise 3, in place of all");
        WarabandiDesk x = Check.desk(FARMS + "crop a 10 20;flow 5;start 7;night 1 2;rotate 3 4;mode 1;swap 0 a b;"
                + "lend 0 a b 1;shut 0 1 2;");
        x.move(0, 1);
        Check.due("tell", Check.tell(x, "reach 4 5 6;field q 0 7;"), 2);
        int[] counts = {1, 1, 0, 0, 0, 0, 0, 7, 0, 0};
        for (int what = 0; what < counts.length; what++) {
            Check.due("count(" + what + ")", x.count(what), counts[what]);
        }
        int[] settings = {60, 0, 18, 6, 1, 0, 0};
        for (int k = 0; k < 7; k++) {
            Check.due("setting(" + k + ")", x.setting(k), settings[k]);
        }
        Check.due("field(0, 2)", x.field(0, 2), 0);
        Check.due("field(0, 3)", x.field(0, 3), 0);
        Check.due("field(0, 4)", x.field(0, 4), 0);
        Check.due("name(0, 0)", x.name(0, 0), 17);
        Check.due("undo()", x.undo(), -5);
        Check.due("reach(0, 0)", x.reach(0, 0), 4);
        Check.tell(x, FARMS);
        Check.due("field(0, 4)", x.field(0, 4), 0);
        Check.due("field(1, 4)", x.field(1, 4), 1);
    }

    /** A text with a fault, told to an object that keeps all that it had. */
    private static void wrong(String text, int kind, int place) {
        String call = "\"" + text + "\"";
        WarabandiDesk x = Check.desk("reach 9 8 7;field k 0 66;flow 77;");
        x.land(0, 67);
        Check.due("tell of " + call, Check.tell(x, text), -30 - kind);
        Check.due("fault(0) of " + call, x.fault(0), kind);
        Check.due("fault(1) of " + call, x.fault(1), place);
        Check.due("count(9) behind " + call, x.count(9), 0);
        int[] counts = {1, 1, 0, 0, 0, 0, 0, 67, 1};
        for (int what = 0; what < counts.length; what++) {
            Check.due("count(" + what + ") behind " + call, x.count(what), counts[what]);
        }
        Check.due("setting(0) behind " + call, x.setting(0), 77);
        Check.due("reach(0, 0) behind " + call, x.reach(0, 0), 9);
        Check.due("name(0, 0) behind " + call, x.name(0, 0), 11);
        Check.due("undo() behind " + call, x.undo(), 0);
        Check.due("field(0, 1) behind " + call, x.field(0, 1), 66);
    }

    private static void cannotStand() {
        Check.about("FAULT 1");
        wrong(";", 1, 0);
        wrong("  ;", 1, 2);
        wrong("5;", 1, 0);
        wrong("reach 1 2 3;;", 1, 12);
        wrong("reachx 1 2 3;", 1, 0);
        wrong("reac 1 2 3;", 1, 0);
        wrong("Reach 1 2 3;", 1, 0);
        wrong("each 1 2 3;", 1, 0);
        wrong("beach 1 2 3;", 1, 0);
        wrong("h 1 2 3;", 1, 0);
        wrong("reach 1 2;", 1, 9);
        wrong("reach 1 2 3 4;", 1, 12);
        wrong("reach 1 2 x;", 1, 10);
        wrong("reach 1 2 -3;", 1, 10);
        wrong("reach 1 2 3", 1, 11);
        wrong("reach 1 2 3  ", 1, 13);
        wrong("reach 1 2", 1, 9);
        wrong("reach", 1, 5);
        wrong("flow 5,", 1, 6);
        wrong("flow 5 flow 6;", 1, 7);
        wrong("flow\t5;", 1, 4);
        wrong("flow \u00e9;", 1, 5);
        wrong("\u0000", 1, 0);
        wrong(REACH + "field 0 5;", 1, 18);
        wrong(REACH + "field a 0;", 1, 21);
        wrong(REACH + "field abcdefghi 0 5;", 1, 18);
        wrong(FARMS + "crop abcdefghi 0 5;", 1, 41);
        for (String word : new String[] {"reach", "field", "crop", "flow", "start", "night", "rotate", "mode",
            "swap", "lend", "shut"}) {
            wrong(REACH + "field " + word + " 0 5;", 1, 18);
            wrong(FARMS + "crop " + word + " 0 5;", 1, 41);
        }
        wrong(FARMS + "swap a b;", 1, 41);
        wrong(FARMS + "swap 1 a;", 1, 44);
        wrong(FARMS + "lend 1 a b;", 1, 46);
        wrong(FARMS + "lend 1 a 5;", 1, 45);
        wrong("night 1;", 1, 7);
        wrong("rotate 1;", 1, 8);
        wrong("mode;", 1, 4);
        wrong("start x;", 1, 6);
        wrong("shut 1 2;", 1, 8);
    }

    private static void outOfBounds() {
        Check.about("FAULT 2");
        wrong("reach 61 0 0;", 2, 6);
        wrong("reach 0 61 0;", 2, 8);
        wrong("reach 0 0 501;", 2, 10);
        wrong("reach 000000 0 0;", 2, 6);
        wrong("field a 0 5;", 2, 8);
        wrong(REACH + "field a 1 5;", 2, 20);
        wrong(REACH + "field a 0 0;", 2, 22);
        wrong(REACH + "field a 0 1000;", 2, 22);
        wrong(FARMS + "crop a 10000 0;", 2, 43);
        wrong(FARMS + "crop a 0 10000;", 2, 45);
        wrong("flow 0;", 2, 5);
        wrong("flow 1000;", 2, 5);
        wrong("flow 000001;", 2, 5);
        wrong("flow 4294967297;", 2, 5);
        wrong("start 10080;", 2, 6);
        wrong("night 24 0;", 2, 6);
        wrong("night 0 24;", 2, 8);
        wrong("rotate 0 0;", 2, 7);
        wrong("rotate 53 0;", 2, 7);
        wrong("rotate 1 8;", 2, 9);
        wrong("mode 2;", 2, 5);
        wrong(FARMS + "swap 52 a b;", 2, 41);
        wrong(FARMS + "lend 52 a b 1;", 2, 41);
        wrong(FARMS + "lend 1 a b 0;", 2, 47);
        wrong(FARMS + "lend 1 a b 1000;", 2, 47);
        wrong("shut 52 0 1;", 2, 5);
        wrong("shut 0 10080 10080;", 2, 7);
        wrong("shut 0 5 5;", 2, 9);
        wrong("shut 0 5 4;", 2, 9);
        wrong("shut 0 5 10081;", 2, 9);
    }

    private static void wrongNames() {
        Check.about("FAULT 3");
        wrong(FARMS + "field a 0 5;", 3, 42);
        wrong(FARMS + "crop c 0 5;", 3, 41);
        wrong("crop k 0 5;", 3, 5);
        wrong(FARMS + "swap 0 c a;", 3, 43);
        wrong(FARMS + "swap 0 a c;", 3, 45);
        wrong(FARMS + "swap 0 a a;", 3, 45);
        wrong(FARMS + "lend 0 c a 1;", 3, 43);
        wrong(FARMS + "lend 0 b c 1;", 3, 45);
        wrong(FARMS + "lend 0 b b 1;", 3, 45);
        wrong(FARMS + "crop ab 0 5;", 3, 41);
        wrong(REACH + "crop a 1 1;field a 0 5;", 3, 17);
    }

    private static void oneTooMany() {
        Check.about("FAULT 4");
        fine("reach 0 0 0;".repeat(10), 10);
        wrong("reach 0 0 0;".repeat(10) + " reach 0 0 0;", 4, 121);
        String farms = REACH;
        for (char c = 'a'; c < 'i'; c++) {
            farms += "field " + c + " 0 1;";
        }
        fine(farms, 9);
        wrong(farms + "field i 0 1;", 4, 108);
        fine(FARMS + "swap 0 a b;".repeat(12), 15);
        wrong(FARMS + "swap 0 a b;".repeat(13), 4, 36 + 132);
        fine(FARMS + "lend 0 a b 1;".repeat(12), 15);
        wrong(FARMS + "lend 0 a b 1;".repeat(13), 4, 36 + 156);
        fine("shut 0 1 2;".repeat(6), 6);
        wrong("shut 0 1 2;".repeat(7), 4, 66);
    }

    private static void firstFault() {
        Check.about("the first FAULT");
        wrong("flow 0;flow x;;", 2, 5);
        wrong("flow 1000x;", 2, 5);
        wrong("reach 0 0 0;".repeat(10) + "reach 99 99 999", 4, 120);
        wrong("shut 0 1 2;".repeat(6) + "shut;", 4, 66);
        wrong("flow 5;field abcdefghi x;", 1, 13);
        // a name that is no field's and too long: of one place the least
        wrong(FARMS + "crop zzzzzzzzz 0 1;", 1, 41);
        wrong(FARMS + "swap 52 c c;", 2, 41);
        // the first eight letters are those of a field, but it has nine
        wrong(REACH + "field zzzzzzzz 0 1;crop zzzzzzzzz 0 1;", 1, 36);
    }

    /** What is on the tape behind the first n bytes is no part of the text. */
    private static void firstBytesAlone() {
        Check.about("promise 3, the first n bytes");
        String text = "reach 12 34 56; field ab 0 789;crop ab 123 45;  mode1;";
        for (int n = 0; n <= text.length(); n++) {
            WarabandiDesk cut = new WarabandiDesk();
            WarabandiDesk whole = new WarabandiDesk();
            int due = Check.tell(cut, text.substring(0, n));
            for (int[] row : Check.feeds(text)) {
                whole.feed(row[0], row[1], row[2], row[3], row[4]);
            }
            Check.due("tell(" + n + ")", whole.tell(n), due);
            Check.due("fault(0) of " + n, whole.fault(0), cut.fault(0));
            Check.due("fault(1) of " + n, whole.fault(1), cut.fault(1));
        }
        Check.due("lines", Check.tell(new WarabandiDesk(), text), 4);
        WarabandiDesk x = new WarabandiDesk();
        x.feed(0x666c6f77, 0x2035373b, 0, 0, 0);
        Check.due("tell(6) of \"flow 57;\"", x.tell(6), -31);
        Check.due("fault(1)", x.fault(1), 6);
        x.feed(0x666c6f77, 0x2035373b, 0, 0, 0);
        Check.due("tell(7) of \"flow 57;\"", x.tell(7), -31);
        Check.due("fault(1)", x.fault(1), 7);
        x.feed(0x666c6f77, 0x2035373b, 0, 0, 0);
        Check.due("tell(3) of \"flow 57;\"", x.tell(3), -31);
        Check.due("fault(1)", x.fault(1), 0);
    }

    private static void fault() {
        Check.about("promise 4");
        WarabandiDesk x = new WarabandiDesk();
        Check.due("fault(0)", x.fault(0), 0);
        Check.due("fault(1)", x.fault(1), -1);
        Check.due("fault(2)", x.fault(2), -1);
        Check.due("fault(-1)", x.fault(-1), -1);
        Check.tell(x, "flow 5;mode 9;");
        Check.due("fault(0)", x.fault(0), 2);
        Check.due("fault(1)", x.fault(1), 12);
        Check.due("fault(2)", x.fault(2), -1);
        Check.due("tell(5)", x.tell(5), -3);
        Check.due("tell(-1)", x.tell(-1), -3);
        x.flow(5);
        Check.due("fault(0) behind tells that were none", x.fault(0), 2);
        Check.due("fault(1) behind tells that were none", x.fault(1), 12);
        x.tell(0);
        Check.due("fault(0) behind no byte", x.fault(0), 0);
        Check.due("fault(1) behind no byte", x.fault(1), -1);
    }
}
