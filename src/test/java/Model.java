import java.util.ArrayDeque;
import java.util.ArrayList;
import java.util.Arrays;
import java.util.Comparator;
import java.util.Deque;
import java.util.List;
import java.util.Map;

/**
 * The document once more, for the tests: minute by minute, with all ways tried and whole states kept,
 * so that it shares no shortcut with the class that it is held against.
 */
final class Model {
    static final int NONE = -1;
    private static final int WEEK = 10080;
    private static final Map<String, String> LINES = Map.ofEntries(
            Map.entry("reach", "0-60 0-60 0-500"), Map.entry("field", "new node 1-999"),
            Map.entry("crop", "known 0-9999 0-9999"), Map.entry("flow", "1-999"), Map.entry("start", "0-10079"),
            Map.entry("night", "0-23 0-23"), Map.entry("rotate", "1-52 0-7"), Map.entry("mode", "0-1"),
            Map.entry("swap", "0-51 known known"), Map.entry("lend", "0-51 known known 1-999"),
            Map.entry("shut", "0-51 0-10079 above"));

    /** All that a text or an act can change. */
    private static final class State {
        List<int[]> reaches = new ArrayList<>();
        List<String> names = new ArrayList<>();
        List<int[]> fields = new ArrayList<>();
        List<Integer> order = new ArrayList<>();
        int[] settings = {60, 0, 18, 6, 1, 0, 0};
        List<int[]> swaps = new ArrayList<>();
        List<int[]> lends = new ArrayList<>();
        List<int[]> shuts = new ArrayList<>();

        State copy() {
            State c = new State();
            c.reaches = copyOf(reaches);
            c.names = new ArrayList<>(names);
            c.fields = copyOf(fields);
            c.order = new ArrayList<>(order);
            c.settings = settings.clone();
            c.swaps = copyOf(swaps);
            c.lends = copyOf(lends);
            c.shuts = copyOf(shuts);
            return c;
        }

        private static List<int[]> copyOf(List<int[]> rows) {
            List<int[]> copies = new ArrayList<>();
            for (int[] row : rows) {
                copies.add(row.clone());
            }
            return copies;
        }
    }

    /** A week as the document's second part tells it. */
    private static final class Week {
        List<Integer> roster;
        int[] fill;
        int[] drain;
        int[] share;
        int[] turn;
        int[] length;
        int[] begin;
        int net = WEEK;
        boolean fails;
        List<int[]> voids = new ArrayList<>();
        int[] owner = new int[WEEK];
        boolean[] filling = new boolean[WEEK];
        boolean[] shut = new boolean[WEEK];
        boolean[] night = new boolean[WEEK];
        int[] nights;
        long[] water;
    }

    private static final class Fault extends RuntimeException {
        private static final long serialVersionUID = 1L;
        final int kind;
        final int place;

        Fault(int kind, int place) {
            this.kind = kind;
            this.place = place;
        }
    }

    private record Token(char kind, String text, int place) { }

    private State now = new State();
    private final Deque<State> before = new ArrayDeque<>();
    private final List<Integer> tape = new ArrayList<>();
    private int lastFault = 0;
    private int lastPlace = NONE;

    // ---- the text

    int feed(int... five) {
        if (tape.size() + 20 > 800) {
            return -4;
        }
        for (int n : five) {
            for (int k = 3; k >= 0; k--) {
                tape.add((n >>> (8 * k)) & 255);
            }
        }
        return tape.size();
    }

    int tell(int n) {
        if (n < 0 || n > tape.size()) {
            return -3;
        }
        List<Integer> text = new ArrayList<>(tape.subList(0, n));
        tape.clear();
        try {
            State told = new State();
            int lines = readAll(text, told);
            now = told;
            before.clear();
            lastFault = 0;
            lastPlace = NONE;
            return lines;
        } catch (Fault fault) {
            lastFault = fault.kind;
            lastPlace = fault.place;
            return -30 - fault.kind;
        }
    }

    private static List<Token> tokens(List<Integer> text) {
        List<Token> found = new ArrayList<>();
        int k = 0;
        while (k < text.size()) {
            int from = k;
            char kind = kindOf(text.get(k));
            StringBuilder letters = new StringBuilder();
            do {
                letters.append((char) (int) text.get(k));
                k++;
            } while (k < text.size() && (kind == 'N' || kind == 'W') && kindOf(text.get(k)) == kind);
            if (kind != ' ') {
                found.add(new Token(kind, letters.toString(), from));
            }
        }
        found.add(new Token('E', "", text.size()));
        return found;
    }

    private static char kindOf(int b) {
        return b >= '0' && b <= '9' ? 'N' : b >= 'a' && b <= 'z' ? 'W' : b == 32 ? ' ' : 'O';
    }

    private static int readAll(List<Integer> text, State told) {
        List<Token> tokens = tokens(text);
        int k = 0;
        int lines = 0;
        while (tokens.get(k).kind() != 'E') {
            Token word = tokens.get(k++);
            if (!LINES.containsKey(word.text())) {
                throw new Fault(1, word.place());
            }
            checkRoom(word, told);
            List<Object> values = new ArrayList<>();
            for (String part : LINES.get(word.text()).split(" ")) {
                values.add(readPart(part, tokens.get(k++), values, told));
            }
            if (!tokens.get(k).text().equals(";")) {
                throw new Fault(1, tokens.get(k).place());
            }
            k++;
            take(word.text(), values, told);
            lines++;
        }
        return lines;
    }

    private static void checkRoom(Token word, State told) {
        boolean full = switch (word.text()) {
            case "reach" -> told.reaches.size() == 10;
            case "field" -> told.fields.size() == 8;
            case "swap" -> told.swaps.size() == 12;
            case "lend" -> told.lends.size() == 12;
            case "shut" -> told.shuts.size() == 6;
            default -> false;
        };
        if (full) {
            throw new Fault(4, word.place());
        }
    }

    private static Object readPart(String part, Token token, List<Object> values, State told) {
        if (part.equals("new") || part.equals("known")) {
            String name = token.text();
            if (token.kind() != 'W' || name.length() > 8 || LINES.containsKey(name)) {
                throw new Fault(1, token.place());
            }
            boolean wrong = told.names.contains(name) == part.equals("new") || values.contains(name);
            if (wrong) {
                throw new Fault(3, token.place());
            }
            return name;
        }
        if (token.kind() != 'N') {
            throw new Fault(1, token.place());
        }
        int low = 0;
        int high = told.reaches.size() - 1;
        if (part.equals("above")) {
            low = (int) values.get(1) + 1;
            high = 10080;
        } else if (!part.equals("node")) {
            low = Integer.parseInt(part.split("-")[0]);
            high = Integer.parseInt(part.split("-")[1]);
        }
        if (token.text().length() > 5) {
            throw new Fault(2, token.place());
        }
        int n = Integer.parseInt(token.text());
        if (n < low || n > high) {
            throw new Fault(2, token.place());
        }
        return n;
    }

    private static void take(String word, List<Object> values, State told) {
        int[] n = new int[values.size()];
        for (int k = 0; k < n.length; k++) {
            n[k] = values.get(k) instanceof String name ? told.names.indexOf(name) : (int) values.get(k);
        }
        switch (word) {
            case "reach" -> told.reaches.add(n);
            case "field" -> {
                told.order.add(told.names.size());
                told.names.add((String) values.get(0));
                told.fields.add(new int[] {n[1], n[2], 0, 0});
            }
            case "crop" -> {
                told.fields.get(n[0])[2] = n[1];
                told.fields.get(n[0])[3] = n[2];
            }
            case "swap" -> told.swaps.add(n);
            case "lend" -> told.lends.add(n);
            case "shut" -> told.shuts.add(n);
            case "flow" -> told.settings[0] = n[0];
            case "start" -> told.settings[1] = n[0];
            case "night" -> System.arraycopy(n, 0, told.settings, 2, 2);
            case "rotate" -> System.arraycopy(n, 0, told.settings, 4, 2);
            default -> told.settings[6] = n[0];
        }
    }

    int fault(int what) {
        return what == 0 ? lastFault : what == 1 ? lastPlace : NONE;
    }

    // ---- by hand

    private void keep() {
        before.addLast(now.copy());
        if (before.size() > 10) {
            before.removeFirst();
        }
    }

    private boolean noField(int f) {
        return f < 0 || f >= now.fields.size();
    }

    private static boolean noWeek(int w) {
        return w < 0 || w > 51;
    }

    int move(int field, int place) {
        if (noField(field)) {
            return -2;
        }
        if (place < 0 || place >= now.fields.size()) {
            return -3;
        }
        keep();
        int was = now.order.indexOf(field);
        now.order.remove(was);
        now.order.add(place, field);
        return was;
    }

    int swap(int week, int field, int other) {
        if (noField(field) || noField(other) || field == other) {
            return -2;
        }
        if (noWeek(week)) {
            return -3;
        }
        if (now.swaps.size() == 12) {
            return -4;
        }
        keep();
        now.swaps.add(new int[] {week, field, other});
        return now.swaps.size();
    }

    int lend(int week, int field, int other, int minutes) {
        if (noField(field) || noField(other) || field == other) {
            return -2;
        }
        if (noWeek(week) || minutes < 1 || minutes > 999) {
            return -3;
        }
        if (now.lends.size() == 12) {
            return -4;
        }
        keep();
        now.lends.add(new int[] {week, field, other, minutes});
        return now.lends.size();
    }

    int shut(int week, int from, int to) {
        if (noWeek(week) || from < 0 || from > 10079 || to <= from || to > 10080) {
            return -3;
        }
        if (now.shuts.size() == 6) {
            return -4;
        }
        keep();
        now.shuts.add(new int[] {week, from, to});
        return now.shuts.size();
    }

    int line(int reach) {
        if (reach < 0 || reach >= now.reaches.size()) {
            return -2;
        }
        keep();
        int was = now.reaches.get(reach)[2];
        now.reaches.get(reach)[2] = 0;
        return was;
    }

    private int set(int which, int n, int low, int high) {
        if (n < low || n > high) {
            return -3;
        }
        keep();
        int was = now.settings[which];
        now.settings[which] = n;
        return was;
    }

    int flow(int n) {
        return set(0, n, 1, 999);
    }

    int mode(int n) {
        return set(6, n, 0, 1);
    }

    int turn(int every, int by) {
        if (every < 1 || every > 52 || by < 0 || by > 7) {
            return -3;
        }
        keep();
        int was = now.settings[4] * 100 + now.settings[5];
        now.settings[4] = every;
        now.settings[5] = by;
        return was;
    }

    int land(int field, int n) {
        if (noField(field)) {
            return -2;
        }
        if (n < 1 || n > 999) {
            return -3;
        }
        keep();
        int was = now.fields.get(field)[1];
        now.fields.get(field)[1] = n;
        return was;
    }

    int undo() {
        if (before.isEmpty()) {
            return -5;
        }
        now = before.removeLast();
        return before.size();
    }

    // ---- what was told

    int field(int field, int what) {
        if (noField(field) || what < 0 || what > 4) {
            return -2;
        }
        return what == 4 ? now.order.indexOf(field) : now.fields.get(field)[what];
    }

    int name(int field, int k) {
        if (noField(field)) {
            return -2;
        }
        if (k < -1) {
            return -3;
        }
        String name = now.names.get(field);
        return k == -1 ? name.length() : k < name.length() ? name.charAt(k) - 'a' + 1 : NONE;
    }

    int reach(int reach, int what) {
        if (reach < 0 || reach >= now.reaches.size() || what < 0 || what > 3) {
            return -2;
        }
        return what == 3 ? flowOf(now, reach) : now.reaches.get(reach)[what];
    }

    int setting(int what) {
        return what < 0 || what > 6 ? -2 : now.settings[what];
    }

    // ---- a week

    private static int flowOf(State s, int node) {
        int flow = s.settings[0];
        for (int r = 0; r <= node; r++) {
            flow = flow - flow * s.reaches.get(r)[2] / 1000;
        }
        return flow;
    }

    private static int nodeOf(State s, int f) {
        return s.fields.get(f)[0];
    }

    private static int between(State s, int what, int behind, int upTo) {
        int sum = 0;
        for (int r = behind + 1; r <= upTo; r++) {
            sum += s.reaches.get(r)[what];
        }
        return sum;
    }

    private static List<Integer> rosterOf(State s, int w) {
        int n = s.fields.size();
        List<Integer> roster = new ArrayList<>(s.order);
        if (n > 0) {
            int times = w / s.settings[4] * s.settings[5] % n;
            for (int k = 0; k < times; k++) {
                roster.add(roster.remove(0));
            }
        }
        for (int[] swap : s.swaps) {
            if (swap[0] == w) {
                exchange(roster, swap[1], swap[2]);
            }
        }
        return roster;
    }

    private static void exchange(List<Integer> roster, int f, int g) {
        int p = roster.indexOf(f);
        int q = roster.indexOf(g);
        roster.set(p, g);
        roster.set(q, f);
    }

    private static long weightOf(State s, int f) {
        long land = s.fields.get(f)[1];
        return s.settings[6] == 0 ? land : land * 1000000L / flowOf(s, nodeOf(s, f));
    }

    private static int netOf(State s, List<Integer> roster) {
        int net = WEEK;
        for (int p = 0; p < roster.size(); p++) {
            net += drainAt(s, roster, p) - fillAt(s, roster, p);
        }
        return net;
    }

    private static int fillAt(State s, List<Integer> roster, int p) {
        return between(s, 0, p == 0 ? -1 : nodeOf(s, roster.get(p - 1)), nodeOf(s, roster.get(p)));
    }

    private static int drainAt(State s, List<Integer> roster, int p) {
        boolean isLast = p == roster.size() - 1;
        return between(s, 1, isLast ? -1 : nodeOf(s, roster.get(p + 1)), nodeOf(s, roster.get(p)));
    }

    private static Week weekOf(State s, int w) {
        return weekOf(s, w, rosterOf(s, w));
    }

    private static Week weekOf(State s, int w, List<Integer> roster) {
        int n = roster.size();
        Week week = new Week();
        week.roster = roster;
        week.fill = new int[n];
        week.drain = new int[n];
        week.share = new int[n];
        week.turn = new int[n];
        week.begin = new int[n];
        week.nights = new int[n];
        week.water = new long[n];
        for (int p = 0; p < n; p++) {
            week.fill[roster.get(p)] = fillAt(s, roster, p);
            week.drain[roster.get(p)] = drainAt(s, roster, p);
        }
        week.net = netOf(s, roster);
        share(s, week);
        for (int f = 0; f < n; f++) {
            week.turn[f] = week.share[f] + week.fill[f] - week.drain[f];
            week.fails |= week.turn[f] < 0;
        }
        week.length = week.turn.clone();
        if (!week.fails && n > 0) {
            lendIn(s, week, w);
            walk(s, week, w);
        }
        return week;
    }

    private static void share(State s, Week week) {
        long all = 0;
        for (int f = 0; f < week.share.length; f++) {
            all += weightOf(s, f);
        }
        long sum = all;
        int left = week.net;
        for (int f = 0; f < week.share.length; f++) {
            week.share[f] = (int) (week.net * weightOf(s, f) / sum);
            left -= week.share[f];
        }
        List<Integer> byCut = new ArrayList<>(week.roster);
        byCut.sort(Comparator.comparingLong(f -> -(week.net * weightOf(s, f) % sum)));
        for (int k = 0; k < left && !byCut.isEmpty(); k++) {
            week.share[byCut.get(k)]++;
        }
    }

    private static void lendIn(State s, Week week, int w) {
        for (int[] lend : s.lends) {
            if (lend[0] == w) {
                if (week.length[lend[1]] - week.fill[lend[1]] < lend[3]) {
                    week.voids.add(lend);
                } else {
                    week.length[lend[1]] -= lend[3];
                    week.length[lend[2]] += lend[3];
                }
            }
        }
    }

    private static boolean isNight(State s, int minute) {
        int hour = minute / 60 % 24;
        int from = s.settings[2];
        int to = s.settings[3];
        if (from == to) {
            return false;
        }
        return to < from ? hour >= from || hour < to : hour >= from && hour < to;
    }

    /** Goes through the week minute by minute. */
    private static void walk(State s, Week week, int w) {
        int minute = 0;
        for (int f : week.roster) {
            week.begin[f] = minute;
            for (int k = 0; k < week.length[f]; k++) {
                week.owner[minute] = f;
                week.filling[minute] = k < week.fill[f];
                for (int[] shut : s.shuts) {
                    week.shut[minute] |= shut[0] == w && minute >= shut[1] && minute < shut[2];
                }
                week.night[minute] = isNight(s, s.settings[1] + w * WEEK + minute);
                week.nights[f] += week.night[minute] ? 1 : 0;
                week.water[f] += week.filling[minute] || week.shut[minute] ? 0 : 1;
                minute++;
            }
            week.water[f] = (week.water[f] + week.drain[f]) * flowOf(s, nodeOf(s, f));
        }
        if (minute != WEEK) {
            throw new IllegalStateException("the lengths are not one week together: " + minute);
        }
    }

    int roster(int week, int place) {
        if (noWeek(week) || place < 0) {
            return -3;
        }
        List<Integer> roster = rosterOf(now, week);
        return place < roster.size() ? roster.get(place) : NONE;
    }

    int inTurn(int week, int field, int what) {
        if (noField(field) || what < 0 || what > 9) {
            return -2;
        }
        if (noWeek(week)) {
            return -3;
        }
        Week at = weekOf(now, week);
        if (at.fails && what >= 4) {
            return -6;
        }
        return switch (what) {
            case 0 -> at.roster.indexOf(field);
            case 1 -> at.fill[field];
            case 2 -> at.drain[field];
            case 3 -> at.share[field];
            case 4 -> at.turn[field];
            case 5 -> at.length[field];
            case 6 -> at.begin[field];
            case 7 -> at.nights[field];
            default -> countMinutes(at, field, what == 8);
        };
    }

    private static int countMinutes(Week at, int field, boolean filling) {
        int sum = 0;
        for (int m = at.begin[field]; m < at.begin[field] + at.length[field]; m++) {
            sum += (filling ? at.filling[m] : at.shut[m] && !at.filling[m]) ? 1 : 0;
        }
        return sum;
    }

    int net(int week) {
        return noWeek(week) ? -3 : now.fields.isEmpty() ? -5 : netOf(now, rosterOf(now, week));
    }

    int weight(int field) {
        return noField(field) ? -2 : (int) weightOf(now, field);
    }

    int fails(int week) {
        return noWeek(week) ? -3 : weekOf(now, week).fails ? 1 : 0;
    }

    int isVoid(int k) {
        if (k < 0) {
            return -3;
        }
        if (k >= now.lends.size()) {
            return NONE;
        }
        Week at = weekOf(now, now.lends.get(k)[0]);
        return at.fails ? -6 : at.voids.contains(now.lends.get(k)) ? 1 : 0;
    }

    long water(int week, int field) {
        return noField(field) ? -2 : noWeek(week) ? -3 : weekOf(now, week).water[field];
    }

    long all(int week) {
        return noWeek(week) ? -3 : allOf(now, week);
    }

    private static long allOf(State s, int week) {
        return Arrays.stream(weekOf(s, week).water).sum();
    }

    int at(int minute, int what) {
        if (what < 0 || what > 3) {
            return -2;
        }
        if (minute < 0) {
            return -3;
        }
        long since = (long) minute - now.settings[1];
        if (since < 0 || since >= 52L * WEEK || now.fields.isEmpty()) {
            return NONE;
        }
        Week week = weekOf(now, (int) (since / WEEK));
        int m = (int) (since % WEEK);
        if (week.fails) {
            return NONE;
        }
        boolean[] flags = what == 1 ? week.filling : what == 2 ? week.shut : week.night;
        return what == 0 ? week.owner[m] : flags[m] ? 1 : 0;
    }

    int when(int field, int minute) {
        if (noField(field)) {
            return -2;
        }
        if (minute < 0) {
            return -3;
        }
        for (int w = 0; w < 52; w++) {
            int begin = now.settings[1] + w * WEEK;
            Week week = begin + WEEK <= minute ? null : weekOf(now, w);
            for (int m = 0; week != null && !week.fails && m < WEEK; m++) {
                if (begin + m >= minute && week.owner[m] == field && !week.filling[m] && !week.shut[m]) {
                    return begin + m;
                }
            }
        }
        return NONE;
    }

    // ---- land, soil

    private static long depthOf(State s, Week week, int f) {
        return week.water[f] / s.fields.get(f)[1];
    }

    long depth(int week, int field) {
        return noField(field) ? -2 : noWeek(week) ? -3 : depthOf(now, weekOf(now, week), field);
    }

    int first(int week, boolean most) {
        if (noWeek(week)) {
            return -3;
        }
        Week at = weekOf(now, week);
        List<Integer> sorted = new ArrayList<>();
        for (int f = 0; f < now.fields.size(); f++) {
            sorted.add(f);
        }
        sorted.sort(Comparator.comparingLong(f -> (most ? -1 : 1) * depthOf(now, at, f)));
        return sorted.isEmpty() ? NONE : sorted.get(0);
    }

    /** Soil of a field behind each week; the weeks in which it is dry are put in a list. */
    private static int soilOf(State s, int week, int f, List<Integer> dryWeeks) {
        long soil = s.fields.get(f)[2];
        for (int w = 0; w <= week; w++) {
            soil = Math.min(soil + depthOf(s, weekOf(s, w), f), s.fields.get(f)[2]) - s.fields.get(f)[3];
            if (soil < 0) {
                dryWeeks.add(w);
                soil = 0;
            }
        }
        return (int) soil;
    }

    int soil(int week, int field) {
        return noField(field) ? -2 : noWeek(week) ? -3 : soilOf(now, week, field, new ArrayList<>());
    }

    int dry(int week, int field, int what) {
        if (noField(field) || what < 0 || what > 1) {
            return -2;
        }
        if (noWeek(week)) {
            return -3;
        }
        List<Integer> dryWeeks = new ArrayList<>();
        soilOf(now, week, field, dryWeeks);
        return what == 0 ? dryWeeks.size() : dryWeeks.isEmpty() ? NONE : dryWeeks.get(0);
    }

    private int endField(int sign) {
        int found = NONE;
        for (int f = now.fields.size() - 1; f >= 0; f--) {
            if (found == NONE || sign * nodeOf(now, f) >= sign * nodeOf(now, found)) {
                found = f;
            }
        }
        return found;
    }

    long tail(int week) {
        if (noWeek(week)) {
            return -3;
        }
        if (now.fields.isEmpty()) {
            return NONE;
        }
        Week at = weekOf(now, week);
        long head = depthOf(now, at, endField(-1));
        return head == 0 ? NONE : 1000 * depthOf(now, at, endField(1)) / head;
    }

    int leastFlow(int week) {
        if (noWeek(week)) {
            return -3;
        }
        if (now.fields.isEmpty()) {
            return -5;
        }
        State other = now.copy();
        for (int flow = 1; flow <= 999; flow++) {
            other.settings[0] = flow;
            if (!isEverDry(other, week)) {
                return flow;
            }
        }
        return NONE;
    }

    private static boolean isEverDry(State s, int week) {
        long[] soil = new long[s.fields.size()];
        for (int w = 0; w <= week; w++) {
            Week at = weekOf(s, w);
            for (int f = 0; f < soil.length; f++) {
                int store = s.fields.get(f)[2];
                soil[f] = Math.min((w == 0 ? store : soil[f]) + depthOf(s, at, f), store) - s.fields.get(f)[3];
                if (soil[f] < 0) {
                    return true;
                }
            }
        }
        return false;
    }

    // ---- what is best

    int lining(int week) {
        if (noWeek(week)) {
            return -3;
        }
        int found = NONE;
        long best = -1;
        for (int r = 0; r < now.reaches.size(); r++) {
            State lined = now.copy();
            lined.reaches.get(r)[2] = 0;
            long sum = allOf(lined, week);
            if (sum > best) {
                best = sum;
                found = r;
            }
        }
        return found;
    }

    int order(int place) {
        if (place < -1) {
            return -3;
        }
        if (now.fields.isEmpty()) {
            return -5;
        }
        List<Integer> best = new ArrayList<>();
        tryOrders(new ArrayList<>(), best);
        return place == -1 ? netOf(now, best) : place < best.size() ? best.get(place) : NONE;
    }

    private void tryOrders(List<Integer> some, List<Integer> best) {
        if (some.size() == now.fields.size()) {
            if (best.isEmpty() || netOf(now, some) > netOf(now, best)) {
                best.clear();
                best.addAll(some);
            }
            return;
        }
        for (int f = 0; f < now.fields.size(); f++) {
            if (!some.contains(f)) {
                some.add(f);
                tryOrders(some, best);
                some.remove(some.size() - 1);
            }
        }
    }

    int even(int n, int what) {
        if (what < 0 || what > 1) {
            return -2;
        }
        if (n < 1 || n > 52) {
            return -3;
        }
        if (now.fields.isEmpty()) {
            return -5;
        }
        int[] spreads = new int[now.fields.size()];
        for (int by = 0; by < spreads.length; by++) {
            State other = now.copy();
            other.settings[5] = by;
            int[] sums = new int[spreads.length];
            for (int w = 0; w < n; w++) {
                Week at = weekOf(other, w);
                for (int f = 0; f < sums.length; f++) {
                    sums[f] += at.nights[f];
                }
            }
            spreads[by] = Arrays.stream(sums).max().getAsInt() - Arrays.stream(sums).min().getAsInt();
        }
        int least = Arrays.stream(spreads).min().getAsInt();
        int by = 0;
        while (spreads[by] != least) {
            by++;
        }
        return what == 0 ? by : least;
    }

    int partners(int week, int field) {
        if (noField(field)) {
            return -2;
        }
        if (noWeek(week)) {
            return -3;
        }
        Week at = weekOf(now, week);
        if (at.fails) {
            return -6;
        }
        int bits = 0;
        for (int g = 0; g < now.fields.size(); g++) {
            if (g != field) {
                State other = now.copy();
                other.swaps.add(new int[] {week, field, g});
                Week then = weekOf(other, week);
                boolean fits = !then.fails && then.nights[field] < at.nights[field] && then.nights[g] <= at.nights[g];
                bits += fits ? 1 << g : 0;
            }
        }
        return bits;
    }

    int matched(int week, int field) {
        if (field != NONE && noField(field)) {
            return -2;
        }
        if (noWeek(week)) {
            return -3;
        }
        if (now.fields.isEmpty()) {
            return -5;
        }
        if (weekOf(now, week).fails) {
            return -6;
        }
        List<int[]> ways = new ArrayList<>();
        int[] none = new int[now.fields.size()];
        Arrays.fill(none, NONE);
        allWays(none, none.length - 1, ways);
        // Each way as a row to compare: the greatest night, the couples, then with whom each one is.
        List<int[]> rows = new ArrayList<>();
        for (int[] mates : ways) {
            int[] row = rowOf(mates, week);
            if (row != null) {
                rows.add(row);
            }
        }
        rows.sort(Arrays::compare);
        return field == NONE ? rows.get(0)[0] : rows.get(0)[field + 2];
    }

    private static void allWays(int[] mates, int f, List<int[]> ways) {
        if (f < 0) {
            ways.add(mates.clone());
            return;
        }
        allWays(mates, f - 1, ways);
        for (int g = 0; g < f; g++) {
            if (mates[f] == NONE && mates[g] == NONE) {
                mates[f] = g;
                mates[g] = f;
                allWays(mates, f - 1, ways);
                mates[f] = NONE;
                mates[g] = NONE;
            }
        }
    }

    private int[] rowOf(int[] mates, int week) {
        List<Integer> roster = rosterOf(now, week);
        int[] row = new int[mates.length + 2];
        for (int f = 0; f < mates.length; f++) {
            row[f + 2] = mates[f];
            if (mates[f] > f) {
                row[1]++;
                exchange(roster, f, mates[f]);
            }
        }
        Week at = weekOf(now, week, roster);
        row[0] = Arrays.stream(at.nights).max().getAsInt();
        return at.fails ? null : row;
    }

    int nights(int from, int to, int field) {
        if (noField(field)) {
            return -2;
        }
        if (noWeek(from) || noWeek(to) || to < from) {
            return -3;
        }
        int sum = 0;
        for (int w = from; w <= to; w++) {
            sum += weekOf(now, w).nights[field];
        }
        return sum;
    }

    int soaked(int flow, int left, boolean most) {
        if (flow < 1 || flow > 999 || left < 0 || left > flow) {
            return -3;
        }
        List<Integer> fit = new ArrayList<>();
        for (int soak = 0; soak <= 500; soak++) {
            if (flow - flow * soak / 1000 == left) {
                fit.add(soak);
            }
        }
        return fit.isEmpty() ? NONE : fit.get(most ? fit.size() - 1 : 0);
    }

    long fairest(int week) {
        if (noWeek(week)) {
            return -3;
        }
        if (now.fields.isEmpty()) {
            return -5;
        }
        long best = -1;
        for (int by = 0; by < now.fields.size(); by++) {
            State other = now.copy();
            other.settings[5] = by;
            Week at = weekOf(other, week);
            long least = Long.MAX_VALUE;
            for (int f = 0; f < now.fields.size(); f++) {
                least = Math.min(least, depthOf(other, at, f));
            }
            best = Math.max(best, least);
        }
        return best;
    }

    private int lentOf(int[] lend, int week) {
        Week at = weekOf(now, lend[0]);
        return lend[0] > week || at.fails || at.voids.contains(lend) ? 0 : lend[3];
    }

    int balance(int week, int field, int other) {
        if (noField(field) || noField(other)) {
            return -2;
        }
        if (noWeek(week)) {
            return -3;
        }
        int sum = 100000;
        for (int[] lend : now.lends) {
            sum += lend[1] == field && lend[2] == other ? lentOf(lend, week) : 0;
            sum -= lend[2] == field && lend[1] == other ? lentOf(lend, week) : 0;
        }
        return sum;
    }

    int settles(int week) {
        if (noWeek(week)) {
            return -3;
        }
        int[] owed = new int[now.fields.size()];
        for (int[] lend : now.lends) {
            owed[lend[1]] += lentOf(lend, week);
            owed[lend[2]] -= lentOf(lend, week);
        }
        return fewest(owed, 0);
    }

    /** Settles the first one that is not even, with each one that it can pay or be paid by. */
    private static int fewest(int[] owed, int from) {
        int f = from;
        while (f < owed.length && owed[f] == 0) {
            f++;
        }
        if (f == owed.length) {
            return 0;
        }
        int best = Integer.MAX_VALUE;
        for (int g = f + 1; g < owed.length; g++) {
            if ((long) owed[f] * owed[g] < 0) {
                int kept = owed[g];
                owed[g] += owed[f];
                best = Math.min(best, 1 + fewest(owed, f + 1));
                owed[g] = kept;
            }
        }
        return best;
    }

    int count(int what) {
        return switch (what) {
            case 0 -> now.reaches.size();
            case 1 -> now.fields.size();
            case 2 -> now.swaps.size();
            case 3 -> now.lends.size();
            case 4 -> now.shuts.size();
            case 5 -> endField(-1);
            case 6 -> endField(1);
            case 7 -> now.fields.stream().mapToInt(f -> f[1]).sum();
            case 8 -> before.size();
            case 9 -> tape.size();
            default -> NONE;
        };
    }
}
