import java.util.ArrayList;
import java.util.List;
import java.util.function.Supplier;

/** All that can be asked of a small object cheaply, so that two of them can be held against one another. */
final class Whole {
    private Whole() { }

    /** An object must answer like another one, made anew, but for fault(), and be undone alike. Both are used up by this. */
    static void same(String when, WarabandiDesk x, Supplier<WarabandiDesk> make) {
        List<String> calls = new ArrayList<>();
        List<Long> got = answers(x, calls);
        List<Long> want = answers(make.get(), null);
        for (int k = 0; k < want.size() || k < got.size(); k++) {
            long is = k < got.size() ? got.get(k) : Long.MIN_VALUE;
            long due = k < want.size() ? want.get(k) : Long.MIN_VALUE;
            Check.due((k < calls.size() ? calls.get(k) : "as many answers") + " " + when, is, due);
        }
    }

    private static List<Long> answers(WarabandiDesk x, List<String> calls) {
        List<Long> all = new ArrayList<>();
        put(all, calls, "count(9)", x.count(9));
        put(all, calls, "count(8)", x.count(8));
        told(x, all, calls);
        week(x, 0, all, calls);
        week(x, 1, all, calls);
        for (int k = 0; k < 10 && x.count(8) > 0; k++) {
            put(all, calls, "undo()", x.undo());
            put(all, calls, "count(8)", x.count(8));
            brief(x, all, calls);
        }
        return all;
    }

    private static void put(List<Long> all, List<String> calls, String call, long answer) {
        all.add(answer);
        if (calls != null) {
            calls.add(call);
        }
    }

    private static void told(WarabandiDesk x, List<Long> all, List<String> calls) {
        for (int what = 0; what < 8; what++) {
            put(all, calls, "count(" + what + ")", x.count(what));
        }
        for (int what = 0; what < 7; what++) {
            put(all, calls, "setting(" + what + ")", x.setting(what));
        }
        for (int r = 0; r < x.count(0); r++) {
            for (int what = 0; what < 4; what++) {
                put(all, calls, "reach(" + r + ", " + what + ")", x.reach(r, what));
            }
        }
        for (int f = 0; f < x.count(1); f++) {
            for (int what = 0; what < 5; what++) {
                put(all, calls, "field(" + f + ", " + what + ")", x.field(f, what));
            }
            put(all, calls, "name(" + f + ", -1)", x.name(f, -1));
            put(all, calls, "name(" + f + ", 0)", x.name(f, 0));
        }
        for (int k = 0; k < x.count(3); k++) {
            put(all, calls, "isVoid(" + k + ")", x.isVoid(k));
        }
    }

    private static void week(WarabandiDesk x, int week, List<Long> all, List<String> calls) {
        for (int f = 0; f < x.count(1); f++) {
            for (int what = 0; what < 10; what++) {
                put(all, calls, "inTurn(" + week + ", " + f + ", " + what + ")", x.inTurn(week, f, what));
            }
            put(all, calls, "water(" + week + ", " + f + ")", x.water(week, f));
            put(all, calls, "balance(" + week + ", " + f + ", 0)", x.balance(week, f, 0));
        }
    }

    private static void brief(WarabandiDesk x, List<Long> all, List<String> calls) {
        for (int what = 2; what < 8; what++) {
            put(all, calls, "count(" + what + ")", x.count(what));
        }
        for (int what = 0; what < 7; what++) {
            put(all, calls, "setting(" + what + ")", x.setting(what));
        }
        for (int f = 0; f < x.count(1); f++) {
            put(all, calls, "field(" + f + ", 4)", x.field(f, 4));
        }
        put(all, calls, "all(0)", x.all(0));
        put(all, calls, "all(1)", x.all(1));
    }
}
