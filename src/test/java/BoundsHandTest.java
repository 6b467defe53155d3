/** The boundary cases that the promises 1 to 18 name: the tape, the text, what is done by hand, what was told. */
public final class BoundsHandTest {
    private static final String FOUR =
            "reach 1 2 3;reach 4 5 60;field a 0 5;field b 1 6;field c 0 7;field d 1 8;";

    public static void main(String[] args) {
        newObject();
        feedOrder();
        feedTooMany();
        tellFirstBytes();
        tellNoBytes();
        tellRefused();
        faultOfTheLatest();
        faultOfNoByte();
        faultOfOthers();
        move();
        moveRefused();
        swap();
        lend();
        shut();
        line();
        flow();
        turn();
        mode();
        land();
        undo();
        undoOfEachKind();
        field();
        name();
        reach();
        setting();
        Check.end();
    }

    private static void newObject() {
        Check.says("Promise 1", "No REACHES, no FIELDS.");
        WarabandiDesk x = new WarabandiDesk();
        int[] counts = {0, 0, 0, 0, 0, -1, -1, 0, 0, 0};
        for (int what = 0; what < counts.length; what++) {
            Check.due("count(" + what + ")", x.count(what), counts[what]);
        }
        Check.due("reach(0, 0)", x.reach(0, 0), -2);
        Check.due("field(0, 0)", x.field(0, 0), -2);
        Check.due("roster(0, 0)", x.roster(0, 0), -1);
        Check.due("undo()", x.undo(), -5);
        // two objects know nothing of one another
        WarabandiDesk y = Check.desk(FOUR);
        x.flow(7);
        Check.due("setting(0) of another one", y.setting(0), 60);
        Check.due("count(1) of a new one", x.count(1), 0);
        Whole.same("of a new one told nothing", Check.desk(""), WarabandiDesk::new);
        Check.says("The constants", "`NONE = -1`: There is none.");
        Check.due("NONE", WarabandiDesk.NONE, -1);
    }

    private static void feedOrder() {
        Check.says("Promise 2", "Twenty bytes come behind those on THE TAPE, the highest of each int first: how many it has.");
        WarabandiDesk x = new WarabandiDesk();
        // "star" "t 10" "079;" "flow" " 999" and ";mod" "e 1;" and blanks
        Check.due("feed", x.feed(0x73746172, 0x74203130, 0x3037393b, 0x666c6f77, 0x20393939), 20);
        Check.due("feed", x.feed(0x3b6d6f64, 0x6520313b, 0x20202020, 0x20202020, 0x20202020), 40);
        Check.due("tell(40)", x.tell(40), 3);
        Check.due("setting(1)", x.setting(1), 10079);
        Check.due("setting(0)", x.setting(0), 999);
        Check.due("setting(6)", x.setting(6), 1);
        // bytes above 127 at every place of an int
        int[] highs = {0xff000000, 0x00800000, 0x0000ff00, 0x00000080};
        for (int k = 0; k < highs.length; k++) {
            x = new WarabandiDesk();
            x.feed(0x20202020 & ~(255 << (24 - 8 * k)) | highs[k], 0, 0, 0, 0);
            Check.due("tell(4) with a high byte at " + k, x.tell(4), -31);
            Check.due("fault(1) with a high byte at " + k, x.fault(1), k);
        }
        // each of the twenty bytes has a place of its own
        for (int k = 0; k < 20; k++) {
            int[] five = {0x20202020, 0x20202020, 0x20202020, 0x20202020, 0x20202020};
            five[k / 4] += 1 << (24 - 8 * (k % 4));
            x = new WarabandiDesk();
            x.feed(five[0], five[1], five[2], five[3], five[4]);
            Check.due("tell(20)", x.tell(20), -31);
            Check.due("fault(1) of byte " + k, x.fault(1), k);
        }
    }

    private static void feedTooMany() {
        Check.says("Promise 2", "-4: it would have more than 800.");
        WarabandiDesk x = new WarabandiDesk();
        for (int k = 1; k <= 40; k++) {
            Check.due("feed " + k, x.feed(0x20202020, 0x20202020, 0x20202020, 0x20202020, 0x20202020), 20 * k);
        }
        Check.due("feed beyond 800", x.feed(0x78787878, 0, 0, 0, 0), -4);
        Check.due("feed beyond 800 again", x.feed(0x78787878, 0, 0, 0, 0), -4);
        Check.due("count(9)", x.count(9), 800);
        Check.due("tell(800)", x.tell(800), 0);
        Check.due("count(9) behind tell(800)", x.count(9), 0);
        Check.due("feed behind tell(800)", x.feed(0, 0, 0, 0, 0), 20);
    }

    private static void tellFirstBytes() {
        Check.says("Promise 3", "The first n bytes of THE TAPE (which is empty then) are THE TEXT: how many LINES.");
        WarabandiDesk x = new WarabandiDesk();
        x.feed(0x666c6f77, 0x20373b66, 0x6c6f7720, 0x383b7878, 0x78787878);
        Check.due("tell(14) of \"flow 7;flow 8;xxxxxx\"", x.tell(14), 2);
        Check.due("setting(0)", x.setting(0), 8);
        Check.due("count(9)", x.count(9), 0);
        Check.due("tell(0)", x.tell(0), 0);
        x.feed(0x666c6f77, 0x20373b66, 0x6c6f7720, 0x383b7878, 0x78787878);
        Check.due("tell(7)", x.tell(7), 1);
        Check.due("setting(0)", x.setting(0), 7);
        Check.due("tell(1) of an empty one", x.tell(1), -3);
        x.feed(0x666c6f77, 0x20373b66, 0x6c6f7720, 0x383b7878, 0x78787878);
        Check.due("tell(20)", x.tell(20), -31);
        Check.due("count(9) behind a FAULT", x.count(9), 0);
        Check.due("tell of 114 LINES", Check.tell(new WarabandiDesk(), "flow 1;".repeat(114)), 114);
        Check.due("tell of 133 LINES", Check.tell(new WarabandiDesk(), "mode1;".repeat(133)), 133);
    }

    private static void tellNoBytes() {
        Check.says("Promise 3", "The first n bytes of THE TAPE (which is empty then) are THE TEXT");
        WarabandiDesk x = Check.desk(FOUR + "flow 7;");
        x.feed(0x78787878, 0, 0, 0, 0);
        Check.due("tell(0)", x.tell(0), 0);
        Check.due("count(9) behind tell(0)", x.count(9), 0);
        Check.due("count(0) behind tell(0)", x.count(0), 0);
        Check.due("count(1) behind tell(0)", x.count(1), 0);
        Check.due("setting(0) behind tell(0)", x.setting(0), 60);
    }

    private static void tellRefused() {
        Check.says("Promise 3", "-3: n is below 0, above what there is (THE TAPE stays); a FAULT.");
        WarabandiDesk x = new WarabandiDesk();
        Check.due("tell(1) of none", x.tell(1), -3);
        x.feed(0x666c6f77, 0x20373b20, 0x20202020, 0x20202020, 0x20202020);
        Check.due("tell(-1)", x.tell(-1), -3);
        Check.due("tell(Integer.MIN_VALUE)", x.tell(Integer.MIN_VALUE), -3);
        Check.due("tell(21)", x.tell(21), -3);
        Check.due("tell(Integer.MAX_VALUE)", x.tell(Integer.MAX_VALUE), -3);
        Check.due("count(9)", x.count(9), 20);
        Check.due("feed", x.feed(0x20202020, 0x20202020, 0x20202020, 0x20202020, 0x78787878), 40);
        Check.due("tell(41)", x.tell(41), -3);
        Check.due("tell(40)", x.tell(40), -31);
        Check.due("fault(1)", x.fault(1), 36);
    }

    private static void faultOfTheLatest() {
        Check.says("Promise 4", "Of the latest tell() that emptied THE TAPE (be it of no byte), what 0: its FAULT (0), 1: its place (NONE).");
        WarabandiDesk x = new WarabandiDesk();
        String[] texts = {"flow 0;", "x", "crop a 1 1;", "shut 0 1 2;".repeat(7)};
        int[][] due = {{2, 5}, {1, 0}, {3, 5}, {4, 66}};
        for (int k = 0; k < texts.length; k++) {
            Check.tell(x, texts[k]);
            Check.due("fault(0) of \"" + texts[k] + "\"", x.fault(0), due[k][0]);
            Check.due("fault(1) of \"" + texts[k] + "\"", x.fault(1), due[k][1]);
        }
        // a tell() that is refused empties nothing; neither do acts
        Check.due("tell(1)", x.tell(1), -3);
        x.flow(5);
        x.undo();
        x.feed(0, 0, 0, 0, 0);
        Check.due("fault(0) still", x.fault(0), 4);
        Check.due("fault(1) still", x.fault(1), 66);
        x.tell(0);
        Check.tell(x, "flow 5;");
        Check.due("fault(0) of a text without one", x.fault(0), 0);
        Check.due("fault(1) of a text without one", x.fault(1), -1);
        Check.tell(x, "flow");
        Check.due("fault(1) at the end", x.fault(1), 4);
    }

    private static void faultOfNoByte() {
        Check.says("Promise 4", "(be it of no byte)");
        WarabandiDesk x = new WarabandiDesk();
        Check.tell(x, "flow 0;");
        Check.due("tell(0)", x.tell(0), 0);
        Check.due("fault(0)", x.fault(0), 0);
        Check.due("fault(1)", x.fault(1), -1);
    }

    private static void faultOfOthers() {
        Check.says("Promise 4", "NONE for others, and for place ahead of any.");
        WarabandiDesk x = new WarabandiDesk();
        Check.due("fault(0) ahead of any", x.fault(0), 0);
        Check.due("fault(1) ahead of any", x.fault(1), -1);
        Check.tell(x, "flow 0;");
        for (int what : new int[] {-1, 2, Integer.MIN_VALUE, Integer.MAX_VALUE}) {
            Check.due("fault(" + what + ")", x.fault(what), -1);
        }
    }

    private static void orderIs(WarabandiDesk x, int... order) {
        for (int p = 0; p < order.length; p++) {
            Check.due("place of " + order[p], x.field(order[p], 4), p);
        }
    }

    private static void move() {
        Check.says("Promise 5", "A FIELD comes to a place (from 0 on) of ORDER, the others keep theirs: where it was.");
        WarabandiDesk x = Check.desk(FOUR);
        Check.due("move(3, 0)", x.move(3, 0), 3);
        orderIs(x, 3, 0, 1, 2);
        Check.due("move(3, 3)", x.move(3, 3), 0);
        orderIs(x, 0, 1, 2, 3);
        Check.due("move(0, 3)", x.move(0, 3), 0);
        orderIs(x, 1, 2, 3, 0);
        Check.due("move(0, 3) where it is", x.move(0, 3), 3);
        orderIs(x, 1, 2, 3, 0);
        Check.due("move(2, 2)", x.move(2, 2), 1);
        orderIs(x, 1, 3, 2, 0);
        x = Check.desk("reach 0 0 0;field a 0 1;");
        Check.due("move(0, 0) of one", x.move(0, 0), 0);
        Check.due("move(0, 1) of one", x.move(0, 1), -3);
    }

    private static void moveRefused() {
        Check.says("Promise 5", "-2; -3: the place.");
        WarabandiDesk x = Check.desk(FOUR);
        Check.due("move(4, 0)", x.move(4, 0), -2);
        Check.due("move(-1, 0)", x.move(-1, 0), -2);
        Check.due("move(0, 4)", x.move(0, 4), -3);
        Check.due("move(0, -1)", x.move(0, -1), -3);
        Check.due("move(0, 0) without a FIELD", new WarabandiDesk().move(0, 0), -2);
        orderIs(x, 0, 1, 2, 3);
    }

    private static void swap() {
        Check.says("Promise 6", "-2 (one with itself, too); -3: the WEEK; -4.");
        WarabandiDesk x = Check.desk(FOUR);
        Check.due("swap(0, 1, 1)", x.swap(0, 1, 1), -2);
        Check.due("swap(0, 4, 0)", x.swap(0, 4, 0), -2);
        Check.due("swap(0, 0, 4)", x.swap(0, 0, 4), -2);
        Check.due("swap(0, -1, 0)", x.swap(0, -1, 0), -2);
        Check.due("swap(0, 0, -1)", x.swap(0, 0, -1), -2);
        Check.due("swap(-1, 0, 1)", x.swap(-1, 0, 1), -3);
        Check.due("swap(52, 0, 1)", x.swap(52, 0, 1), -3);
        Check.due("count(2)", x.count(2), 0);
        Check.says("Promise 6", "A SWAP more: how many there are.");
        Check.due("swap(0, 0, 3)", x.swap(0, 0, 3), 1);
        Check.due("swap(51, 3, 0)", x.swap(51, 3, 0), 2);
        for (int k = 3; k <= 12; k++) {
            Check.due("swap " + k, x.swap(7, 0, 1), k);
        }
        Check.due("swap 13", x.swap(7, 0, 1), -4);
        Check.due("undo()", x.undo(), 9);
        Check.due("swap 12 once more", x.swap(7, 0, 1), 12);
        // those of a text count
        x = Check.desk(FOUR + "swap 0 a b;".repeat(11));
        Check.due("swap 12 behind a text", x.swap(0, 0, 1), 12);
        Check.due("swap 13 behind a text", x.swap(0, 0, 1), -4);
    }

    private static void lend() {
        Check.says("Promise 7", "-2 (one with itself, too); -3: the WEEK, minutes; -4.");
        WarabandiDesk x = Check.desk(FOUR);
        Check.due("lend(0, 1, 1, 1)", x.lend(0, 1, 1, 1), -2);
        Check.due("lend(0, 4, 0, 1)", x.lend(0, 4, 0, 1), -2);
        Check.due("lend(0, 0, 4, 1)", x.lend(0, 0, 4, 1), -2);
        Check.due("lend(0, -1, 0, 1)", x.lend(0, -1, 0, 1), -2);
        Check.due("lend(0, 0, -1, 1)", x.lend(0, 0, -1, 1), -2);
        Check.due("lend(-1, 0, 1, 1)", x.lend(-1, 0, 1, 1), -3);
        Check.due("lend(52, 0, 1, 1)", x.lend(52, 0, 1, 1), -3);
        Check.due("lend(0, 0, 1, 0)", x.lend(0, 0, 1, 0), -3);
        Check.due("lend(0, 0, 1, -1)", x.lend(0, 0, 1, -1), -3);
        Check.due("lend(0, 0, 1, 1000)", x.lend(0, 0, 1, 1000), -3);
        Check.due("count(3)", x.count(3), 0);
        Check.says("Promise 7", "A LEND more: how many there are.");
        Check.due("lend(0, 0, 3, 1)", x.lend(0, 0, 3, 1), 1);
        Check.due("lend(51, 3, 0, 999)", x.lend(51, 3, 0, 999), 2);
        for (int k = 3; k <= 12; k++) {
            Check.due("lend " + k, x.lend(7, 0, 1, 5), k);
        }
        Check.due("lend 13", x.lend(7, 0, 1, 5), -4);
        Check.due("undo()", x.undo(), 9);
        Check.due("lend 12 once more", x.lend(7, 0, 1, 5), 12);
        // VOID ones, and those of a WEEK that FAILS, are taken all the same
        x = Check.desk("reach 0 60 0;field a 0 999;field b 0 1;rotate 1 1;");
        Check.due("lend(0, 0, 1, 5) of a WEEK that FAILS", x.lend(0, 0, 1, 5), 1);
        Check.due("lend(1, 1, 0, 11) of too much", x.lend(1, 1, 0, 11), 2);
        Check.due("isVoid(1)", x.isVoid(1), 1);
    }

    private static void shut() {
        Check.says("Promise 8", "-3: the WEEK, from, to; -4.");
        WarabandiDesk x = new WarabandiDesk();
        int[][] wrong = {{-1, 0, 1}, {52, 0, 1}, {0, -1, 1}, {0, 10080, 10080}, {0, 10080, 10081}, {0, 0, 0}, {0, 7, 7},
            {0, 7, 6}, {0, 0, 10081}, {0, 10079, 10079}, {0, 0, -1}, {0, 5, Integer.MIN_VALUE}, {0, 5, Integer.MAX_VALUE},
            {0, Integer.MAX_VALUE, Integer.MIN_VALUE}, {0, Integer.MIN_VALUE, 5}};
        for (int[] n : wrong) {
            Check.due("shut(" + n[0] + ", " + n[1] + ", " + n[2] + ")", x.shut(n[0], n[1], n[2]), -3);
        }
        Check.due("count(4)", x.count(4), 0);
        Check.says("Promise 8", "A SHUT more: how many there are.");
        Check.due("shut(0, 0, 1)", x.shut(0, 0, 1), 1);
        Check.due("shut(51, 10079, 10080)", x.shut(51, 10079, 10080), 2);
        Check.due("shut(0, 0, 10080)", x.shut(0, 0, 10080), 3);
        for (int k = 4; k <= 6; k++) {
            Check.due("shut " + k, x.shut(0, 0, 1), k);
        }
        Check.due("shut 7", x.shut(0, 0, 1), -4);
        Check.due("undo()", x.undo(), 5);
        Check.due("shut 6 once more", x.shut(0, 0, 1), 6);
    }

    private static void line() {
        Check.says("Promise 9", "SOAK of a REACH becomes 0: what it was. -2.");
        WarabandiDesk x = Check.desk("reach 1 1 0;reach 1 1 500;");
        Check.due("line(1)", x.line(1), 500);
        Check.due("line(1) again", x.line(1), 0);
        Check.due("line(0)", x.line(0), 0);
        Check.due("reach(1, 2)", x.reach(1, 2), 0);
        Check.due("line(2)", x.line(2), -2);
        Check.due("line(-1)", x.line(-1), -2);
        Check.due("line(0) without a REACH", new WarabandiDesk().line(0), -2);
        x = Check.desk("reach 1 1 7;".repeat(10));
        Check.due("line(9)", x.line(9), 7);
        Check.due("line(10)", x.line(10), -2);
    }

    private static void flow() {
        Check.says("Promise 10", "FLOW: what it was. -3.");
        WarabandiDesk x = new WarabandiDesk();
        Check.due("flow(1)", x.flow(1), 60);
        Check.due("flow(999)", x.flow(999), 1);
        Check.due("flow(0)", x.flow(0), -3);
        Check.due("flow(-1)", x.flow(-1), -3);
        Check.due("flow(1000)", x.flow(1000), -3);
        Check.due("setting(0)", x.setting(0), 999);
    }

    private static void turn() {
        Check.says("Promise 11", "EVERY and BY: 100 times EVERY and BY, as they were. -3.");
        WarabandiDesk x = new WarabandiDesk();
        Check.due("turn(52, 7)", x.turn(52, 7), 100);
        Check.due("turn(1, 0)", x.turn(1, 0), 5207);
        int[][] wrong = {{0, 0}, {-1, 0}, {53, 0}, {1, -1}, {1, 8}, {Integer.MAX_VALUE, 0}, {1, Integer.MIN_VALUE}};
        for (int[] n : wrong) {
            Check.due("turn(" + n[0] + ", " + n[1] + ")", x.turn(n[0], n[1]), -3);
        }
        Check.due("turn(9, 3)", x.turn(9, 3), 100);
        Check.due("setting(4)", x.setting(4), 9);
        Check.due("setting(5)", x.setting(5), 3);
    }

    private static void mode() {
        Check.says("Promise 12", "MODE: what it was. -3.");
        WarabandiDesk x = new WarabandiDesk();
        Check.due("mode(1)", x.mode(1), 0);
        Check.due("mode(2)", x.mode(2), -3);
        Check.due("mode(-1)", x.mode(-1), -3);
        Check.due("mode(0)", x.mode(0), 1);
        Check.due("setting(6)", x.setting(6), 0);
    }

    private static void land() {
        Check.says("Promise 13", "LAND of a FIELD: what it was. -2; -3.");
        WarabandiDesk x = Check.desk(FOUR);
        Check.due("land(3, 1)", x.land(3, 1), 8);
        Check.due("land(3, 999)", x.land(3, 999), 1);
        Check.due("land(3, 0)", x.land(3, 0), -3);
        Check.due("land(3, -1)", x.land(3, -1), -3);
        Check.due("land(3, 1000)", x.land(3, 1000), -3);
        Check.due("land(4, 1)", x.land(4, 1), -2);
        Check.due("land(-1, 1)", x.land(-1, 1), -2);
        Check.due("field(3, 1)", x.field(3, 1), 999);
        Check.due("land(0, 1) without a FIELD", new WarabandiDesk().land(0, 1), -2);
    }

    private static void undo() {
        Check.says("Promise 14", "The latest ACT is UNDONE: how many still can be. -5: none can.");
        WarabandiDesk x = new WarabandiDesk();
        Check.due("undo() of a new one", x.undo(), -5);
        x.flow(7);
        x.flow(8);
        Check.due("undo()", x.undo(), 1);
        Check.due("setting(0)", x.setting(0), 7);
        Check.due("undo()", x.undo(), 0);
        Check.due("setting(0)", x.setting(0), 60);
        Check.due("undo() of none", x.undo(), -5);
        Check.due("undo() of none again", x.undo(), -5);
        Check.due("setting(0)", x.setting(0), 60);
        // what was undone can't be undone; what comes then can
        x.flow(9);
        Check.due("undo()", x.undo(), 0);
        Check.due("setting(0)", x.setting(0), 60);
    }

    private static void undoOfEachKind() {
        Check.says("Promise 14", "The latest ACT is UNDONE");
        // ten acts over the oldest one, that of flow(7), which can't be undone any more
        WarabandiDesk x = Check.desk(FOUR);
        x.flow(7);
        x.move(0, 3);
        x.swap(0, 0, 1);
        x.lend(0, 0, 1, 5);
        x.shut(0, 0, 9);
        x.line(1);
        x.flow(77);
        x.turn(52, 7);
        x.mode(1);
        x.land(2, 88);
        x.move(3, 0);
        for (int left = 9; left >= 0; left--) {
            Check.due("undo()", x.undo(), left);
        }
        Check.due("undo() of the eleventh", x.undo(), -5);
        Whole.same("behind ten of all kinds", x, () -> Check.desk(FOUR + "flow 7;"));
        // each one of its own kind alone, and of these the latest
        String some = FOUR + "swap 0 a b;swap 1 c d;lend 0 a b 5;lend 1 c d 6;shut 0 0 9;shut 1 0 7;";
        for (int kind = 0; kind < 9; kind++) {
            x = Check.desk(some);
            actOf(x, kind);
            Check.due("undo() of kind " + kind, x.undo(), 0);
            Whole.same("behind an undo() of kind " + kind, x, () -> Check.desk(some));
        }
    }

    private static void actOf(WarabandiDesk x, int kind) {
        switch (kind) {
            case 0 -> x.move(1, 3);
            case 1 -> x.swap(1, 0, 1);
            case 2 -> x.lend(1, 3, 0, 9);
            case 3 -> x.shut(1, 20, 30);
            case 4 -> x.line(1);
            case 5 -> x.flow(999);
            case 6 -> x.turn(52, 7);
            case 7 -> x.mode(1);
            default -> x.land(3, 999);
        }
    }

    private static void field() {
        Check.says("Promise 15", "Of a FIELD, what 0 NODE, 1 LAND, 2 STORE, 3 USE, 4 its place in ORDER. -2.");
        WarabandiDesk x = Check.desk(FOUR + "crop d 9999 9998;");
        int[] due = {1, 8, 9999, 9998, 3, -2};
        for (int what = 0; what < due.length; what++) {
            Check.due("field(3, " + what + ")", x.field(3, what), due[what]);
        }
        Check.due("field(3, -1)", x.field(3, -1), -2);
        Check.due("field(4, 0)", x.field(4, 0), -2);
        Check.due("field(-1, 0)", x.field(-1, 0), -2);
    }

    private static void name() {
        Check.says("Promise 16", "Letter k (from 0 on) of a NAME, a as 1; k NONE: how many.");
        WarabandiDesk x = Check.desk("reach 0 0 0;field a 0 1;field zabcdefz 0 1;");
        Check.due("name(0, 0)", x.name(0, 0), 1);
        Check.due("name(0, -1)", x.name(0, -1), 1);
        Check.due("name(1, 0)", x.name(1, 0), 26);
        Check.due("name(1, 1)", x.name(1, 1), 1);
        Check.due("name(1, 7)", x.name(1, 7), 26);
        Check.due("name(1, -1)", x.name(1, -1), 8);
        Check.says("Promise 16", "NONE: not so many; -2; -3: k is below NONE.");
        Check.due("name(0, 1)", x.name(0, 1), -1);
        Check.due("name(1, 8)", x.name(1, 8), -1);
        Check.due("name(1, Integer.MAX_VALUE)", x.name(1, Integer.MAX_VALUE), -1);
        Check.due("name(2, 0)", x.name(2, 0), -2);
        Check.due("name(2, -1)", x.name(2, -1), -2);
        Check.due("name(-1, 0)", x.name(-1, 0), -2);
        Check.due("name(0, -2)", x.name(0, -2), -3);
        Check.due("name(0, Integer.MIN_VALUE)", x.name(0, Integer.MIN_VALUE), -3);
    }

    private static void reach() {
        Check.says("Promise 17", "Of a REACH, what 0 FILL, 1 DRAIN, 2 SOAK, 3 FLOW of its NODE. -2.");
        WarabandiDesk x = Check.desk("reach 60 59 500;reach 58 57 0;");
        int[] due = {60, 59, 500, 30, -2, 58, 57, 0, 30, -2};
        for (int k = 0; k < due.length; k++) {
            Check.due("reach(" + k / 5 + ", " + k % 5 + ")", x.reach(k / 5, k % 5), due[k]);
        }
        Check.due("reach(0, -1)", x.reach(0, -1), -2);
        Check.due("reach(2, 0)", x.reach(2, 0), -2);
        Check.due("reach(-1, 0)", x.reach(-1, 0), -2);
    }

    private static void setting() {
        Check.says("Promise 18", "What 0 FLOW, 1 START, 2, 3 the hours of NIGHT, 4 EVERY, 5 BY, 6 MODE. -2.");
        WarabandiDesk x = Check.desk("flow 999;start 10079;night 23 22;rotate 52 7;mode 1;");
        int[] due = {999, 10079, 23, 22, 52, 7, 1, -2};
        for (int what = 0; what < due.length; what++) {
            Check.due("setting(" + what + ")", x.setting(what), due[what]);
        }
        Check.due("setting(-1)", x.setting(-1), -2);
    }
}
