/** Promises 5 to 14: what is done by hand, and undone. */
public final class HandTest {
    private static final String FOUR =
            "reach 1 2 3;reach 4 5 60;field a 0 5;field b 1 6;field c 0 7;field d 1 8;";

    public static void main(String[] args) {
        move();
        swap();
        lend();
        shut();
        line();
        flow();
        turn();
        mode();
        land();
        undoKinds();
        undoOneOfMany();
        undoTen();
        undoTenMixed();
        undoForgets();
        Check.end();
    }

    private static void orderIs(WarabandiDesk x, int... order) {
        for (int p = 0; p < order.length; p++) {
            Check.due("place of " + order[p], x.field(order[p], 4), p);
            Check.due("roster(0, " + p + ")", x.roster(0, p), order[p]);
        }
    }

    private static void move() {
        Check.about("promise 5");
        WarabandiDesk x = Check.desk(FOUR);
        orderIs(x, 0, 1, 2, 3);
        Check.due("move(3, 0)", x.move(3, 0), 3);
        orderIs(x, 3, 0, 1, 2);
        Check.due("move(3, 0)", x.move(3, 0), 0);
        orderIs(x, 3, 0, 1, 2);
        Check.due("move(0, 3)", x.move(0, 3), 1);
        orderIs(x, 3, 1, 2, 0);
        Check.due("move(1, 2)", x.move(1, 2), 1);
        orderIs(x, 3, 2, 1, 0);
        Check.due("move(4, 0)", x.move(4, 0), -2);
        Check.due("move(-1, 0)", x.move(-1, 0), -2);
        Check.due("move(4, 9)", x.move(4, 9), -2);
        Check.due("move(0, -1)", x.move(0, -1), -3);
        Check.due("move(0, 4)", x.move(0, 4), -3);
        orderIs(x, 3, 2, 1, 0);
        Check.due("count(8)", x.count(8), 4);
    }

    private static void swap() {
        Check.about("promise 6");
        WarabandiDesk x = Check.desk(FOUR);
        Check.due("swap(0, 0, 1)", x.swap(0, 0, 1), 1);
        Check.due("swap(0, 1, 2)", x.swap(0, 1, 2), 2);
        // b a c d, then c a b d
        Check.due("roster(0, 0)", x.roster(0, 0), 2);
        Check.due("roster(0, 1)", x.roster(0, 1), 0);
        Check.due("roster(0, 2)", x.roster(0, 2), 1);
        Check.due("roster(1, 0)", x.roster(1, 0), 0);
        Check.due("swap(0, 4, 0)", x.swap(0, 4, 0), -2);
        Check.due("swap(0, 0, 4)", x.swap(0, 0, 4), -2);
        Check.due("swap(0, -1, 0)", x.swap(0, -1, 0), -2);
        Check.due("swap(0, 1, 1)", x.swap(0, 1, 1), -2);
        Check.due("swap(52, 1, 1)", x.swap(52, 1, 1), -2);
        Check.due("swap(52, 0, 1)", x.swap(52, 0, 1), -3);
        Check.due("swap(-1, 0, 1)", x.swap(-1, 0, 1), -3);
        for (int k = 3; k <= 12; k++) {
            Check.due("swap " + k, x.swap(51, 0, 1), k);
        }
        Check.due("swap 13", x.swap(51, 0, 1), -4);
        Check.due("swap 13, no week", x.swap(52, 0, 1), -3);
        Check.due("swap 13, one with itself", x.swap(51, 1, 1), -2);
        Check.due("count(2)", x.count(2), 12);
    }

    private static void lend() {
        Check.about("promise 7");
        WarabandiDesk x = Check.desk(FOUR);
        Check.due("lend(0, 0, 1, 1)", x.lend(0, 0, 1, 1), 1);
        Check.due("lend(51, 0, 1, 999)", x.lend(51, 0, 1, 999), 2);
        Check.due("lend(0, 4, 0, 1)", x.lend(0, 4, 0, 1), -2);
        Check.due("lend(0, 0, 4, 1)", x.lend(0, 0, 4, 1), -2);
        Check.due("lend(0, 0, -1, 1)", x.lend(0, 0, -1, 1), -2);
        Check.due("lend(0, 2, 2, 1)", x.lend(0, 2, 2, 1), -2);
        Check.due("lend(52, 2, 2, 0)", x.lend(52, 2, 2, 0), -2);
        Check.due("lend(52, 0, 1, 1)", x.lend(52, 0, 1, 1), -3);
        Check.due("lend(-1, 0, 1, 1)", x.lend(-1, 0, 1, 1), -3);
        Check.due("lend(0, 0, 1, 0)", x.lend(0, 0, 1, 0), -3);
        Check.due("lend(0, 0, 1, 1000)", x.lend(0, 0, 1, 1000), -3);
        for (int k = 3; k <= 12; k++) {
            Check.due("lend " + k, x.lend(1, 0, 1, 5), k);
        }
        Check.due("lend 13", x.lend(1, 0, 1, 5), -4);
        Check.due("lend 13, no minutes", x.lend(1, 0, 1, 0), -3);
        Check.due("lend 13, one with itself", x.lend(1, 0, 0, 5), -2);
        Check.due("count(3)", x.count(3), 12);
    }

    private static void shut() {
        Check.about("promise 8");
        WarabandiDesk x = new WarabandiDesk();
        Check.due("shut(0, 0, 1)", x.shut(0, 0, 1), 1);
        Check.due("shut(51, 10079, 10080)", x.shut(51, 10079, 10080), 2);
        Check.due("shut(52, 0, 1)", x.shut(52, 0, 1), -3);
        Check.due("shut(-1, 0, 1)", x.shut(-1, 0, 1), -3);
        Check.due("shut(0, -1, 1)", x.shut(0, -1, 1), -3);
        Check.due("shut(0, 10080, 10081)", x.shut(0, 10080, 10081), -3);
        Check.due("shut(0, 7, 7)", x.shut(0, 7, 7), -3);
        Check.due("shut(0, 7, 6)", x.shut(0, 7, 6), -3);
        Check.due("shut(0, 7, 10081)", x.shut(0, 7, 10081), -3);
        for (int k = 3; k <= 6; k++) {
            Check.due("shut " + k, x.shut(0, 0, 10080), k);
        }
        Check.due("shut 7", x.shut(0, 0, 1), -4);
        Check.due("shut 7, no week", x.shut(52, 0, 1), -3);
        Check.due("count(4)", x.count(4), 6);
    }

    private static void line() {
        Check.about("promise 9");
        WarabandiDesk x = Check.desk("reach 0 0 100;reach 0 0 200;");
        Check.due("reach(1, 3)", x.reach(1, 3), 44);
        Check.due("line(0)", x.line(0), 100);
        Check.due("reach(0, 2)", x.reach(0, 2), 0);
        Check.due("reach(1, 2)", x.reach(1, 2), 200);
        Check.due("reach(1, 3)", x.reach(1, 3), 48);
        Check.due("line(0)", x.line(0), 0);
        Check.due("count(8)", x.count(8), 2);
        Check.due("line(2)", x.line(2), -2);
        Check.due("line(-1)", x.line(-1), -2);
    }

    private static void flow() {
        Check.about("promise 10");
        WarabandiDesk x = new WarabandiDesk();
        Check.due("flow(1)", x.flow(1), 60);
        Check.due("flow(999)", x.flow(999), 1);
        Check.due("flow(0)", x.flow(0), -3);
        Check.due("flow(1000)", x.flow(1000), -3);
        Check.due("flow(-5)", x.flow(-5), -3);
        Check.due("setting(0)", x.setting(0), 999);
        Check.due("flow(999)", x.flow(999), 999);
        Check.due("count(8)", x.count(8), 3);
    }

    private static void turn() {
        Check.about("promise 11");
        WarabandiDesk x = new WarabandiDesk();
        Check.due("turn(52, 7)", x.turn(52, 7), 100);
        Check.due("turn(1, 0)", x.turn(1, 0), 5207);
        Check.due("turn(0, 0)", x.turn(0, 0), -3);
        Check.due("turn(53, 0)", x.turn(53, 0), -3);
        Check.due("turn(1, -1)", x.turn(1, -1), -3);
        Check.due("turn(1, 8)", x.turn(1, 8), -3);
        Check.due("turn(3, 2)", x.turn(3, 2), 100);
        Check.due("setting(4)", x.setting(4), 3);
        Check.due("setting(5)", x.setting(5), 2);
    }

    private static void mode() {
        Check.about("promise 12");
        WarabandiDesk x = new WarabandiDesk();
        Check.due("mode(1)", x.mode(1), 0);
        Check.due("mode(2)", x.mode(2), -3);
        Check.due("mode(-1)", x.mode(-1), -3);
        Check.due("setting(6)", x.setting(6), 1);
        Check.due("mode(0)", x.mode(0), 1);
    }

    private static void land() {
        Check.about("promise 13");
        WarabandiDesk x = Check.desk(FOUR);
        Check.due("land(1, 999)", x.land(1, 999), 6);
        Check.due("land(1, 1)", x.land(1, 1), 999);
        Check.due("land(4, 1)", x.land(4, 1), -2);
        Check.due("land(-1, 1)", x.land(-1, 1), -2);
        Check.due("land(4, 0)", x.land(4, 0), -2);
        Check.due("land(1, 0)", x.land(1, 0), -3);
        Check.due("land(1, 1000)", x.land(1, 1000), -3);
        Check.due("field(1, 1)", x.field(1, 1), 1);
        Check.due("field(0, 1)", x.field(0, 1), 5);
    }

    private static void undoKinds() {
        Check.about("promise 14");
        WarabandiDesk x = Check.desk(FOUR);
        Check.due("undo() of nothing", x.undo(), -5);
        x.move(0, 2);
        x.swap(0, 0, 1);
        x.lend(0, 0, 1, 5);
        x.shut(0, 0, 9);
        x.line(1);
        x.flow(77);
        x.turn(4, 5);
        x.mode(1);
        x.land(2, 88);
        Check.due("count(8)", x.count(8), 9);
        x.land(2, 0);
        x.flow(0);
        x.swap(0, 1, 1);
        Check.due("count(8)", x.count(8), 9);
        Check.due("undo() of land", x.undo(), 8);
        Check.due("field(2, 1)", x.field(2, 1), 7);
        Check.due("undo() of mode", x.undo(), 7);
        Check.due("setting(6)", x.setting(6), 0);
        Check.due("undo() of turn", x.undo(), 6);
        Check.due("setting(4)", x.setting(4), 1);
        Check.due("setting(5)", x.setting(5), 0);
        Check.due("setting(0)", x.setting(0), 77);
        Check.due("undo() of flow", x.undo(), 5);
        Check.due("setting(0)", x.setting(0), 60);
        Check.due("undo() of line", x.undo(), 4);
        Check.due("reach(1, 2)", x.reach(1, 2), 60);
        Check.due("undo() of shut", x.undo(), 3);
        Check.due("count(4)", x.count(4), 0);
        Check.due("count(3)", x.count(3), 1);
        Check.due("undo() of lend", x.undo(), 2);
        Check.due("count(3)", x.count(3), 0);
        Check.due("count(2)", x.count(2), 1);
        Check.due("undo() of swap", x.undo(), 1);
        Check.due("count(2)", x.count(2), 0);
        orderIs(x, 1, 2, 0, 3);
        Check.due("undo() of move", x.undo(), 0);
        orderIs(x, 0, 1, 2, 3);
        Check.due("undo() of nothing", x.undo(), -5);
        x.move(3, 1);
        orderIs(x, 0, 3, 1, 2);
        Check.due("undo() of move", x.undo(), 0);
        orderIs(x, 0, 1, 2, 3);
        x.turn(52, 7);
        x.turn(9, 3);
        x.undo();
        Check.due("setting(4)", x.setting(4), 52);
        Check.due("setting(5)", x.setting(5), 7);
    }

    private static void undoOneOfMany() {
        Check.about("promise 14, one of many");
        WarabandiDesk x = Check.desk(FOUR + "swap 0 a b;lend 0 a b 1;shut 0 1 2;");
        x.swap(1, 0, 1);
        x.swap(1, 2, 3);
        x.undo();
        Check.due("count(2)", x.count(2), 2);
        Check.due("roster(1, 2)", x.roster(1, 2), 2);
        Check.due("roster(1, 0)", x.roster(1, 0), 1);
        x.lend(1, 0, 1, 1);
        x.lend(1, 0, 1, 2);
        x.undo();
        Check.due("count(3)", x.count(3), 2);
        Check.due("balance(51, 0, 1)", x.balance(51, 0, 1), 100002);
        x.shut(1, 0, 1);
        x.shut(1, 0, 2);
        x.undo();
        Check.due("count(4)", x.count(4), 2);
        Check.due("count(8)", x.count(8), 3);
    }

    private static void undoTenMixed() {
        Check.about("promise 14, the latest ten of all kinds");
        WarabandiDesk x = Check.desk(FOUR);
        x.flow(7);
        x.line(1);
        x.land(3, 77);
        x.land(0, 50);
        x.mode(1);
        x.turn(5, 6);
        x.move(0, 3);
        x.swap(2, 0, 1);
        x.flow(8);
        x.line(0);
        x.lend(2, 0, 1, 5);
        x.move(2, 0);
        x.shut(2, 5, 6);
        for (int k = 9; k >= 0; k--) {
            Check.due("undo()", x.undo(), k);
        }
        Check.due("undo()", x.undo(), -5);
        Check.due("setting(0)", x.setting(0), 7);
        Check.due("setting(4)", x.setting(4), 1);
        Check.due("setting(6)", x.setting(6), 0);
        Check.due("reach(0, 2)", x.reach(0, 2), 3);
        Check.due("reach(1, 2)", x.reach(1, 2), 0);
        Check.due("field(3, 1)", x.field(3, 1), 77);
        Check.due("field(0, 1)", x.field(0, 1), 5);
        for (int what = 2; what <= 4; what++) {
            Check.due("count(" + what + ")", x.count(what), 0);
        }
        orderIs(x, 0, 1, 2, 3);
    }

    private static void undoTen() {
        Check.about("promise 14, the latest ten");
        WarabandiDesk x = new WarabandiDesk();
        for (int k = 1; k <= 13; k++) {
            Check.due("flow(" + k + ")", x.flow(k), k == 1 ? 60 : k - 1);
            Check.due("count(8)", x.count(8), Math.min(k, 10));
        }
        for (int k = 9; k >= 0; k--) {
            Check.due("undo()", x.undo(), k);
            Check.due("setting(0)", x.setting(0), 3 + k);
        }
        Check.due("undo()", x.undo(), -5);
        Check.due("setting(0)", x.setting(0), 3);
        // acts that change nothing are acts
        x.flow(3);
        x.mode(0);
        Check.due("undo()", x.undo(), 1);
        Check.due("undo()", x.undo(), 0);
    }

    private static void undoForgets() {
        Check.about("promise 14, behind tell");
        WarabandiDesk x = Check.desk(FOUR);
        x.flow(9);
        Check.due("tell with a fault", Check.tell(x, "x"), -31);
        Check.due("tell that is none", x.tell(3), -3);
        Check.due("count(8)", x.count(8), 1);
        Check.due("undo()", x.undo(), 0);
        Check.due("setting(0)", x.setting(0), 60);
        x.flow(9);
        Check.due("tell", Check.tell(x, "flow 8;"), 1);
        Check.due("count(8)", x.count(8), 0);
        Check.due("undo()", x.undo(), -5);
        Check.due("setting(0)", x.setting(0), 8);
    }
}
