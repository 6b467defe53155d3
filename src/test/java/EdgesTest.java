/** Every call that asks, with numbers at and beyond all edges, held against the plain model; none may throw. */
public final class EdgesTest {
    private static final int[] EDGES = {Integer.MIN_VALUE, -2, -1, 0, 1, 2, 3, 7, 8, 10, 51, 52, 53, 800,
        10079, 10080, 524159, 524160, 534239, 534240, Integer.MAX_VALUE};
    private static final int[] FEW = {Integer.MIN_VALUE, -2, -1, 0, 1, 2, 4, 9, 51, 52, Integer.MAX_VALUE};
    private static final String[] TEXTS = {
        "",
        "reach 60 60 500;shut 0 5 10;",
        "reach 0 60 0;field a 0 999;field b 0 1;rotate 1 1;lend 0 a b 5;lend 1 a b 5;start 10079;",
        "reach 10 5 10;reach 20 6 99;reach 30 7 0;field a 0 100;field b 2 200;field c 1 100;rotate 2 1;mode 1;"
            + "crop a 5000 900;crop b 2000 700;swap 1 a b;lend 1 b c 500;lend 2 c b 999;shut 1 100 4000;start 77;",
        "reach 9 3 1;reach 1 8 2;field a 0 10;field b 1 20;field c 0 30;field d 1 40;field e 0 50;field f 1 60;"
            + "field g 0 70;field h 1 80;rotate 1 3;crop h 9999 150;lend 0 h a 40;lend 51 g b 90;shut 51 10079 10080;"};

    private WarabandiDesk desk;
    private Model model;
    private String text;
    private int calls;

    public static void main(String[] args) {
        for (String text : TEXTS) {
            Check.about("edges behind \"" + text + "\"");
            new EdgesTest().go(text);
        }
        Check.end();
    }

    private void go(String aText) {
        text = aText;
        renew();
        for (int n : EDGES) {
            one(n);
            for (int m : EDGES) {
                two(n, m);
            }
        }
        for (int n : FEW) {
            for (int m : FEW) {
                for (int k : FEW) {
                    three(n, m, k);
                }
            }
        }
        refused();
    }

    /** An object is promised for 512 calls alone. */
    private void renew() {
        desk = Check.desk(text);
        model = new Model();
        for (int[] row : Check.feeds(text)) {
            model.feed(row[0], row[1], row[2], row[3], row[4]);
        }
        model.tell(text.length());
        calls = 0;
    }

    private void same(String call, long got, long want) {
        Check.due(call, got, want);
        calls++;
        if (calls > 400) {
            renew();
        }
    }

    private void one(int n) {
        String in = "(" + n + ")";
        same("fault" + in, desk.fault(n), model.fault(n));
        same("setting" + in, desk.setting(n), model.setting(n));
        same("net" + in, desk.net(n), model.net(n));
        same("weight" + in, desk.weight(n), model.weight(n));
        same("fails" + in, desk.fails(n), model.fails(n));
        same("isVoid" + in, desk.isVoid(n), model.isVoid(n));
        same("all" + in, desk.all(n), model.all(n));
        same("first" + in, desk.first(n, true), model.first(n, true));
        same("first" + in, desk.first(n, false), model.first(n, false));
        same("tail" + in, desk.tail(n), model.tail(n));
        same("leastFlow" + in, desk.leastFlow(n), model.leastFlow(n));
        same("lining" + in, desk.lining(n), model.lining(n));
        same("order" + in, desk.order(n), model.order(n));
        same("fairest" + in, desk.fairest(n), model.fairest(n));
        same("settles" + in, desk.settles(n), model.settles(n));
        same("count" + in, desk.count(n), model.count(n));
    }

    private void two(int n, int m) {
        String in = "(" + n + ", " + m + ")";
        same("field" + in, desk.field(n, m), model.field(n, m));
        same("name" + in, desk.name(n, m), model.name(n, m));
        same("reach" + in, desk.reach(n, m), model.reach(n, m));
        same("roster" + in, desk.roster(n, m), model.roster(n, m));
        same("water" + in, desk.water(n, m), model.water(n, m));
        same("at" + in, desk.at(n, m), model.at(n, m));
        same("when" + in, desk.when(n, m), model.when(n, m));
        same("depth" + in, desk.depth(n, m), model.depth(n, m));
        same("soil" + in, desk.soil(n, m), model.soil(n, m));
        same("even" + in, desk.even(n, m), model.even(n, m));
        same("partners" + in, desk.partners(n, m), model.partners(n, m));
        if (n == 0 || n < 0 || n > 50) {
            same("matched" + in, desk.matched(n, m), model.matched(n, m));
        }
        same("soaked" + in, desk.soaked(n, m, true), model.soaked(n, m, true));
        same("soaked" + in, desk.soaked(n, m, false), model.soaked(n, m, false));
    }

    private void three(int n, int m, int k) {
        String in = "(" + n + ", " + m + ", " + k + ")";
        same("inTurn" + in, desk.inTurn(n, m, k), model.inTurn(n, m, k));
        same("dry" + in, desk.dry(n, m, k), model.dry(n, m, k));
        same("nights" + in, desk.nights(n, m, k), model.nights(n, m, k));
        same("balance" + in, desk.balance(n, m, k), model.balance(n, m, k));
    }

    /** Acts at the edges: what is refused changes nothing, what is taken is undone. */
    private void refused() {
        for (int n : EDGES) {
            act("tell(" + n + ")", n > 0 ? desk.tell(n) : -3, n > 0 ? model.tell(n) : -3);
            act("line(" + n + ")", desk.line(n), model.line(n));
            act("flow(" + n + ")", desk.flow(n), model.flow(n));
            act("mode(" + n + ")", desk.mode(n), model.mode(n));
            for (int m : EDGES) {
                String in = "(" + n + ", " + m + ")";
                act("move" + in, desk.move(n, m), model.move(n, m));
                act("turn" + in, desk.turn(n, m), model.turn(n, m));
                act("land" + in, desk.land(n, m), model.land(n, m));
            }
        }
        for (int n : FEW) {
            for (int m : FEW) {
                for (int k : FEW) {
                    String in = "(" + n + ", " + m + ", " + k;
                    act("swap" + in + ")", desk.swap(n, m, k), model.swap(n, m, k));
                    act("shut" + in + ")", desk.shut(n, m, k), model.shut(n, m, k));
                    act("lend" + in + ", 7)", desk.lend(n, m, k, 7), model.lend(n, m, k, 7));
                    act("lend" + in + ", 0)", desk.lend(n, m, k, 0), model.lend(n, m, k, 0));
                }
            }
        }
    }

    private void act(String call, long got, long want) {
        same(call, got, want);
        same("count(8) behind " + call, desk.count(8), model.count(8));
        same("undo() behind " + call, desk.undo(), model.undo());
    }
}
