import java.util.ArrayList;
import java.util.List;
import java.util.Random;

/** Long runs of calls, made up by a fixed seed, held against the plain model of the document. */
public final class AgainstModelTest {
    private static final int RUNS = 60;
    /** An object is promised for 512 calls alone, and a text may take some sixty more. */
    private static final int CALLS = 450;
    private static final String[] NAMES = {"a", "b", "ab", "reaches", "zzzzzzzz", "flo", "mill", "q"};

    private final Random random;
    private final WarabandiDesk desk = new WarabandiDesk();
    private final Model model = new Model();
    private final List<String> calls = new ArrayList<>();
    private int fields;
    private int reaches;

    private AgainstModelTest(long seed) {
        random = new Random(seed);
    }

    public static void main(String[] args) {
        for (int run = 0; run < RUNS && Check.wrongs() == 0; run++) {
            Check.about("made-up run " + run);
            new AgainstModelTest(1000 + run).go(run);
        }
        Check.end();
    }

    private void go(int run) {
        if (run % 8 != 7) {
            tellText(run % 3 == 0);
        }
        while (calls.size() < CALLS && Check.wrongs() == 0) {
            int kind = random.nextInt(100);
            if (kind < 2) {
                tellText(random.nextInt(3) == 0);
            } else if (kind < 30) {
                act();
            } else {
                ask(run % 4 == 0);
            }
        }
        if (Check.wrongs() != 0) {
            calls.forEach(System.out::println);
        }
    }

    private void same(String call, long got, long want) {
        calls.add(call + " = " + got);
        Check.due(call, got, want);
    }

    // ---- numbers

    private int below(int n) {
        return random.nextInt(n);
    }

    private int within(int low, int high) {
        return low + random.nextInt(high - low + 1);
    }

    /** Mostly what can be, now and then an edge or what can't. */
    private int near(int low, int high) {
        int pick = below(40);
        if (pick == 0) {
            return low - 1;
        }
        if (pick == 1) {
            return high + 1;
        }
        if (pick == 2) {
            return random.nextInt();
        }
        if (pick < 8) {
            return pick % 2 == 0 ? low : Math.max(low, high);
        }
        return high < low ? low : within(low, high);
    }

    private int anyField() {
        return near(0, fields - 1);
    }

    private int anyWeek() {
        return below(3) == 0 ? near(0, 51) : near(0, 4);
    }

    // ---- texts

    private void tellText(boolean spoil) {
        String text = madeUpText();
        if (spoil) {
            text = spoilt(text);
        }
        if (text.length() > 800) {
            text = text.substring(0, 800);
        }
        for (int[] row : Check.feeds(text)) {
            same("feed", desk.feed(row[0], row[1], row[2], row[3], row[4]),
                    model.feed(row[0], row[1], row[2], row[3], row[4]));
        }
        int held = model.count(9);
        int n = held > text.length() + 19 ? below(held) : text.length();
        same("tell(" + n + ") of \"" + text + "\"", desk.tell(n), model.tell(n));
        same("fault(0)", desk.fault(0), model.fault(0));
        same("fault(1)", desk.fault(1), model.fault(1));
        fields = model.count(1);
        reaches = model.count(0);
        for (int what = 0; what < 10; what++) {
            same("count(" + what + ")", desk.count(what), model.count(what));
        }
    }

    private String blanks() {
        return " ".repeat(below(12) == 0 ? within(1, 3) : 0);
    }

    private void put(StringBuilder text, Object... parts) {
        for (int k = 0; k < parts.length; k++) {
            text.append(k == 0 ? blanks() : " ").append(parts[k]);
        }
        text.append(blanks()).append(';');
    }

    private String madeUpText() {
        StringBuilder text = new StringBuilder();
        int courses = within(1, below(3) == 0 ? 10 : 4);
        int farms = within(1, below(3) == 0 ? 8 : 5);
        int most = below(3) == 0 ? 60 : 20;
        int soak = below(4) == 0 ? 500 : 120;
        for (int r = 0; r < courses; r++) {
            put(text, "reach", below(most + 1), below(most + 1), below(soak + 1));
        }
        int big = below(3) == 0 ? 999 : 120;
        for (int f = 0; f < farms; f++) {
            put(text, "field", NAMES[f], below(courses), below(6) == 0 ? 1 : within(20, big));
        }
        putSettings(text);
        for (int f = 0; f < farms; f++) {
            if (below(3) > 0) {
                int store = below(8) == 0 ? 0 : below(6000);
                put(text, "crop", NAMES[f], store, below(3) == 0 ? below(3000) : below(600));
            }
        }
        putRows(text, farms);
        return text.toString();
    }

    private void putSettings(StringBuilder text) {
        if (below(2) == 0) {
            put(text, "flow", below(3) == 0 ? within(1, 999) : within(20, 120));
        }
        if (below(2) == 0) {
            put(text, "start", below(10080));
        }
        if (below(2) == 0) {
            put(text, "night", below(24), below(24));
        }
        if (below(2) == 0) {
            put(text, "rotate", within(1, below(3) == 0 ? 52 : 3), below(8));
        }
        if (below(2) == 0) {
            put(text, "mode", below(2));
        }
    }

    private void putRows(StringBuilder text, int farms) {
        for (int k = below(8); k > 0 && farms > 1; k--) {
            int one = below(farms);
            int other = (one + within(1, farms - 1)) % farms;
            switch (below(3)) {
                case 0 -> put(text, "swap", below(5), NAMES[one], NAMES[other]);
                case 1 -> put(text, "lend", below(5), NAMES[one], NAMES[other], within(1, 999));
                default -> {
                    int from = below(10080);
                    put(text, "shut", below(5), from, within(from + 1, Math.min(10080, from + 4000)));
                }
            }
        }
    }

    private String spoilt(String text) {
        StringBuilder other = new StringBuilder(text);
        int place = below(text.length());
        switch (below(9)) {
            case 0 -> other.deleteCharAt(place);
            case 1 -> other.insert(place, " ;ax9\u00e9\u0000-R".charAt(below(9)));
            case 2 -> other.setCharAt(place, " ;ax9\u00ff\u0000-R".charAt(below(9)));
            case 3 -> other.setLength(place);
            case 4 -> other.append("field ").append(NAMES[below(8)]).append(" 0 5;");
            case 5 -> other.append("reach 1 1 1;".repeat(within(1, 10)));
            case 6 -> other.append(one("swap 3 a b;", "lend 7 b a 9;", "shut 9 8 9;").repeat(within(3, 13)));
            case 7 -> other.append(one("swap 3 a a;", "crop x 1 1;", "shut 0 9 9;", "lend 52 a b 1;", "field mode 0 1;",
                    "field abcdefghi 0 1;", "flow 1000;", "start 00001;", "start 000001;", "mode2;", "flow5;",
                    "crop a 10000 1;", "crop a 1 10000;", "lend 1 a b 0;", "shut 0 10080 10080;", "night 24 0;",
                    "night 0 24;", "rotate 0 0;", "rotate 53 0;", "rotate 1 8;", "flow 0;", "reach 61 0 0;",
                    "reach 0 61 0;", "reach 0 0 501;", "field y 10 1;", "field y 0 0;", "field y 0 1000;"));
            default -> other.insert(other.indexOf(";") + 1, one("crop b 9 9;", ";", "flow 9", "5;", "swap 1 a b;"));
        }
        return other.toString();
    }

    private String one(String... some) {
        return some[below(some.length)];
    }

    // ---- calls

    private void act() {
        int a = anyWeek();
        int f = anyField();
        int g = anyField();
        switch (below(11)) {
            case 0 -> {
                int p = near(0, fields - 1);
                same("move(" + f + ", " + p + ")", desk.move(f, p), model.move(f, p));
            }
            case 1 -> same("swap(" + a + ", " + f + ", " + g + ")", desk.swap(a, f, g), model.swap(a, f, g));
            case 2, 3 -> {
                int m = near(1, below(2) == 0 ? 999 : 60);
                same("lend(" + a + ", " + f + ", " + g + ", " + m + ")", desk.lend(a, f, g, m), model.lend(a, f, g, m));
            }
            case 4 -> {
                int from = near(0, 10079);
                int to = near(Math.min(10080, Math.max(1, from + 1)), 10080);
                same("shut(" + a + ", " + from + ", " + to + ")", desk.shut(a, from, to), model.shut(a, from, to));
            }
            case 5 -> {
                int r = near(0, reaches - 1);
                same("line(" + r + ")", desk.line(r), model.line(r));
            }
            case 6 -> {
                int n = near(1, 999);
                same("flow(" + n + ")", desk.flow(n), model.flow(n));
            }
            case 7 -> {
                int every = near(1, 52);
                int by = near(0, 7);
                same("turn(" + every + ", " + by + ")", desk.turn(every, by), model.turn(every, by));
            }
            case 8 -> {
                int n = near(0, 1);
                same("mode(" + n + ")", desk.mode(n), model.mode(n));
            }
            case 9 -> {
                int n = near(1, 999);
                same("land(" + f + ", " + n + ")", desk.land(f, n), model.land(f, n));
            }
            default -> {
                for (int k = within(1, 4); k > 0; k--) {
                    same("undo()", desk.undo(), model.undo());
                }
            }
        }
    }

    private void ask(boolean dear) {
        int pick = below(dear ? 36 : 30);
        if (pick < 8) {
            askTold();
        } else if (pick < 22) {
            askWeek();
        } else if (pick < 30) {
            askSoil();
        } else {
            askBest();
        }
    }

    private void askTold() {
        int f = anyField();
        int n = near(0, 9);
        switch (below(7)) {
            case 0 -> same("field(" + f + ", " + n + ")", desk.field(f, n), model.field(f, n));
            case 1 -> same("name(" + f + ", " + (n - 1) + ")", desk.name(f, n - 1), model.name(f, n - 1));
            case 2 -> {
                int r = near(0, reaches - 1);
                int what = near(0, 3);
                same("reach(" + r + ", " + what + ")", desk.reach(r, what), model.reach(r, what));
            }
            case 3 -> same("setting(" + n + ")", desk.setting(n), model.setting(n));
            case 4 -> same("count(" + n + ")", desk.count(n), model.count(n));
            case 5 -> same("fault(" + n + ")", desk.fault(n), model.fault(n));
            default -> same("weight(" + f + ")", desk.weight(f), model.weight(f));
        }
    }

    private void askWeek() {
        int w = anyWeek();
        int f = anyField();
        int minute = below(4) == 0 ? near(0, 540000) : near(0, 40000);
        switch (below(10)) {
            case 0 -> {
                int p = near(0, fields);
                same("roster(" + w + ", " + p + ")", desk.roster(w, p), model.roster(w, p));
            }
            case 1, 2 -> {
                int what = near(0, 9);
                same("inTurn(" + w + ", " + f + ", " + what + ")", desk.inTurn(w, f, what), model.inTurn(w, f, what));
            }
            case 3 -> same("net(" + w + ")", desk.net(w), model.net(w));
            case 4 -> same("fails(" + w + ")", desk.fails(w), model.fails(w));
            case 5 -> {
                int k = near(0, model.count(3));
                same("isVoid(" + k + ")", desk.isVoid(k), model.isVoid(k));
            }
            case 6 -> same("water(" + w + ", " + f + ")", desk.water(w, f), model.water(w, f));
            case 7 -> same("all(" + w + ")", desk.all(w), model.all(w));
            case 8 -> {
                int what = near(0, 3);
                same("at(" + minute + ", " + what + ")", desk.at(minute, what), model.at(minute, what));
            }
            default -> same("when(" + f + ", " + minute + ")", desk.when(f, minute), model.when(f, minute));
        }
    }

    private void askSoil() {
        int w = anyWeek();
        int f = anyField();
        boolean most = random.nextBoolean();
        switch (below(9)) {
            case 0 -> same("depth(" + w + ", " + f + ")", desk.depth(w, f), model.depth(w, f));
            case 1 -> same("first(" + w + ", " + most + ")", desk.first(w, most), model.first(w, most));
            case 2 -> same("soil(" + w + ", " + f + ")", desk.soil(w, f), model.soil(w, f));
            case 3 -> {
                int what = near(0, 1);
                same("dry(" + w + ", " + f + ", " + what + ")", desk.dry(w, f, what), model.dry(w, f, what));
            }
            case 4 -> same("tail(" + w + ")", desk.tail(w), model.tail(w));
            case 5 -> {
                int to = near(w, 51);
                same("nights(" + w + ", " + to + ", " + f + ")", desk.nights(w, to, f), model.nights(w, to, f));
            }
            case 6 -> {
                int flow = near(1, 999);
                int left = near(Math.max(0, flow / 2 - 1), flow);
                same("soaked(" + flow + ", " + left + ", " + most + ")",
                        desk.soaked(flow, left, most), model.soaked(flow, left, most));
            }
            case 7 -> {
                int g = anyField();
                same("balance(" + w + ", " + f + ", " + g + ")", desk.balance(w, f, g), model.balance(w, f, g));
            }
            default -> same("settles(" + w + ")", desk.settles(w), model.settles(w));
        }
    }

    private void askBest() {
        int w = anyWeek();
        int f = anyField();
        switch (below(8)) {
            case 0 -> {
                int few = below(8) == 0 ? w : Math.min(w, 3);
                same("leastFlow(" + few + ")", desk.leastFlow(few), model.leastFlow(few));
            }
            case 1 -> same("lining(" + w + ")", desk.lining(w), model.lining(w));
            case 2 -> {
                int place = near(-1, fields);
                same("order(" + place + ")", desk.order(place), model.order(place));
            }
            case 3 -> {
                int n = near(1, below(4) == 0 ? 52 : 8);
                int what = near(0, 1);
                same("even(" + n + ", " + what + ")", desk.even(n, what), model.even(n, what));
            }
            case 4, 5 -> same("partners(" + w + ", " + f + ")", desk.partners(w, f), model.partners(w, f));
            case 6 -> {
                int g = near(-1, fields - 1);
                same("matched(" + w + ", " + g + ")", desk.matched(w, g), model.matched(w, g));
            }
            default -> same("fairest(" + w + ")", desk.fairest(w), model.fairest(w));
        }
    }
}
