import java.util.Arrays;

/** Water by turns along a course: who has it when, what each one gets, and what would be best. */
public final class WarabandiDesk {
    public static final int NONE = -1;

    private static final int NO_SUCH = -2;
    private static final int BAD_NUMBER = -3;
    private static final int TOO_MANY = -4;
    private static final int CANNOT_BE = -5;
    private static final int WEEK_FAILS = -6;
    private static final int BAD_TEXT = -30;

    private static final int MAX_REACHES = 10;
    private static final int MAX_FIELDS = 8;
    private static final int MAX_SWAPS = 12;
    private static final int MAX_LENDS = 12;
    private static final int MAX_SHUTS = 6;
    private static final int MAX_ACTS = 10;
    private static final int MAX_TAPE = 800;
    private static final int FEED_BYTES = 20;

    private static final int MAX_FILL = 60;
    private static final int MAX_SOAK = 500;
    private static final int MAX_LAND = 999;
    private static final int MAX_STORE = 9999;
    private static final int MAX_FLOW = 999;
    private static final int MAX_EVERY = 52;
    private static final int MAX_BY = 7;
    private static final int MAX_MODE = 1;
    private static final int MAX_LENT = 999;
    private static final int MAX_HOUR = 23;

    private static final int WEEKS = 52;
    private static final int WEEK_MINUTES = 10080;
    private static final int DAY_MINUTES = 1440;
    private static final int HOUR_MINUTES = 60;
    private static final int DAY_HOURS = 24;
    private static final int THOUSAND = 1000;
    private static final int MILLION = 1000000;
    private static final int BALANCE_ZERO = 100000;

    /** Places of the settings, as the document numbers them. */
    private static final int FLOW = 0;
    private static final int START = 1;
    private static final int NIGHT_FROM = 2;
    private static final int NIGHT_TO = 3;
    private static final int EVERY = 4;
    private static final int BY = 5;
    private static final int MODE = 6;
    private static final int SETTINGS = 7;

    /** Columns of the rows of SWAPS, LENDS and SHUTS; the week is the first one of each. */
    private static final int ROW_WEEK = 0;
    private static final int ROW_ONE = 1;
    private static final int ROW_OTHER = 2;
    private static final int ROW_MINUTES = 3;
    private static final int SWAP_WIDTH = 3;
    private static final int LEND_WIDTH = 4;
    private static final int SHUT_WIDTH = 3;

    private static final int ACT_MOVE = 0;
    private static final int ACT_SWAP = 1;
    private static final int ACT_LEND = 2;
    private static final int ACT_SHUT = 3;
    private static final int ACT_LINE = 4;
    private static final int ACT_SETTING = 5;
    private static final int ACT_TURN = 6;
    private static final int ACT_LAND = 7;

    private final Told told;
    private final Reader reader;
    private final Acts acts;
    private final Canal canal;
    private final WeekPlan plan;
    private final Season season;
    private final Sequencer sequencer;
    private final Matcher matcher;
    private final Settler settler;
    private final int[] scratch;

    public WarabandiDesk() {
        told = new Told();
        reader = new Reader();
        acts = new Acts();
        canal = new Canal(told);
        plan = new WeekPlan(told, canal);
        season = new Season(told, plan);
        sequencer = new Sequencer(told);
        matcher = new Matcher(told, plan);
        settler = new Settler();
        scratch = new int[MAX_FIELDS];
    }

    public int feed(int a, int b, int c, int d, int e) {
        if (reader.held + FEED_BYTES > MAX_TAPE) {
            return TOO_MANY;
        }
        reader.takeInt(a);
        reader.takeInt(b);
        reader.takeInt(c);
        reader.takeInt(d);
        reader.takeInt(e);
        return reader.held;
    }

    public int tell(int n) {
        if (n < 0 || n > reader.held) {
            return BAD_NUMBER;
        }
        reader.open(n);
        int lines = 0;
        for (; lines < MAX_TAPE && reader.hasMore(); lines++) {
            reader.readLine();
        }
        if (reader.wrong != 0) {
            return BAD_TEXT - reader.wrong;
        }
        told.copyFrom(reader.draft);
        acts.held = 0;
        return lines;
    }

    public int fault(int what) {
        switch (what) {
            case 0:
                return reader.wrong;
            case 1:
                return reader.wrongAt;
            default:
                return NONE;
        }
    }

    // ---- by hand

    public int move(int field, int place) {
        if (told.lacksField(field)) {
            return NO_SUCH;
        }
        if (place < 0 || place >= told.fields) {
            return BAD_NUMBER;
        }
        int before = told.placeInOrder(field);
        told.bringTo(field, place);
        acts.keep(ACT_MOVE, field, before);
        return before;
    }

    public int swap(int week, int field, int other) {
        if (told.lacksPair(field, other)) {
            return NO_SUCH;
        }
        if (isNoWeek(week)) {
            return BAD_NUMBER;
        }
        if (told.swaps.isFull()) {
            return TOO_MANY;
        }
        told.swaps.addRow(week, field, other, 0);
        acts.keep(ACT_SWAP, 0, 0);
        return told.swaps.held;
    }

    public int lend(int week, int field, int other, int minutes) {
        if (told.lacksPair(field, other)) {
            return NO_SUCH;
        }
        if (isNoWeek(week) || minutes < 1 || minutes > MAX_LENT) {
            return BAD_NUMBER;
        }
        if (told.lends.isFull()) {
            return TOO_MANY;
        }
        told.lends.addRow(week, field, other, minutes);
        acts.keep(ACT_LEND, 0, 0);
        return told.lends.held;
    }

    public int shut(int week, int from, int to) {
        if (isNoWeek(week) || from < 0 || from >= WEEK_MINUTES || to <= from || to > WEEK_MINUTES) {
            return BAD_NUMBER;
        }
        if (told.shuts.isFull()) {
            return TOO_MANY;
        }
        told.shuts.addRow(week, from, to, 0);
        acts.keep(ACT_SHUT, 0, 0);
        return told.shuts.held;
    }

    public int line(int reach) {
        if (told.lacksReach(reach)) {
            return NO_SUCH;
        }
        int before = told.soaks[reach];
        told.soaks[reach] = 0;
        acts.keep(ACT_LINE, reach, before);
        return before;
    }

    public int flow(int n) {
        if (n < 1 || n > MAX_FLOW) {
            return BAD_NUMBER;
        }
        return changeSetting(FLOW, n);
    }

    public int turn(int every, int by) {
        if (every < 1 || every > MAX_EVERY || by < 0 || by > MAX_BY) {
            return BAD_NUMBER;
        }
        int before = 100 * told.settings[EVERY] + told.settings[BY];
        told.settings[EVERY] = every;
        told.settings[BY] = by;
        acts.keep(ACT_TURN, 0, before);
        return before;
    }

    public int mode(int n) {
        if (n < 0 || n > MAX_MODE) {
            return BAD_NUMBER;
        }
        return changeSetting(MODE, n);
    }

    public int land(int field, int n) {
        if (told.lacksField(field)) {
            return NO_SUCH;
        }
        if (n < 1 || n > MAX_LAND) {
            return BAD_NUMBER;
        }
        int before = told.lands[field];
        told.lands[field] = n;
        acts.keep(ACT_LAND, field, before);
        return before;
    }

    public int undo() {
        if (acts.held <= 0 || acts.held > MAX_ACTS) {
            return CANNOT_BE;
        }
        acts.held--;
        takeBack(acts.kinds[acts.held], acts.targets[acts.held], acts.befores[acts.held]);
        return acts.held;
    }

    private int changeSetting(int which, int n) {
        int before = told.settings[which];
        told.settings[which] = n;
        acts.keep(ACT_SETTING, which, before);
        return before;
    }

    private void takeBack(int kind, int target, int before) {
        switch (kind) {
            case ACT_MOVE:
                told.bringTo(target, before);
                break;
            case ACT_SWAP:
                told.swaps.dropLast();
                break;
            case ACT_LEND:
                told.lends.dropLast();
                break;
            case ACT_SHUT:
                told.shuts.dropLast();
                break;
            case ACT_LINE:
                told.soaks[target] = before;
                break;
            case ACT_SETTING:
                told.settings[target] = before;
                break;
            case ACT_TURN:
                told.settings[EVERY] = before / 100;
                told.settings[BY] = before % 100;
                break;
            default:
                told.lands[target] = before;
                break;
        }
    }

    // ---- what was told

    public int field(int field, int what) {
        if (told.lacksField(field)) {
            return NO_SUCH;
        }
        switch (what) {
            case 0:
                return told.nodes[field];
            case 1:
                return told.lands[field];
            case 2:
                return told.stores[field];
            case 3:
                return told.uses[field];
            case 4:
                return told.placeInOrder(field);
            default:
                return NO_SUCH;
        }
    }

    public int name(int field, int k) {
        if (told.lacksField(field)) {
            return NO_SUCH;
        }
        if (k < NONE) {
            return BAD_NUMBER;
        }
        int letters = Reader.lettersOf(told.names[field]);
        if (k == NONE) {
            return letters;
        }
        return k < letters ? Reader.letterOf(told.names[field], k) : NONE;
    }

    public int reach(int reach, int what) {
        if (told.lacksReach(reach)) {
            return NO_SUCH;
        }
        switch (what) {
            case 0:
                return told.fillTo[reach + 1] - told.fillTo[reach];
            case 1:
                return told.drainTo[reach + 1] - told.drainTo[reach];
            case 2:
                return told.soaks[reach];
            case 3:
                canal.letIn(told.settings[FLOW], NONE);
                return canal.flowAt(reach);
            default:
                return NO_SUCH;
        }
    }

    public int setting(int what) {
        return what < 0 || what >= SETTINGS ? NO_SUCH : told.settings[what];
    }

    // ---- a week

    public int roster(int week, int place) {
        if (isNoWeek(week) || place < 0) {
            return BAD_NUMBER;
        }
        if (place >= told.fields) {
            return NONE;
        }
        plan.lineUp(week, told.settings[BY]);
        return plan.ranks[place];
    }

    public int inTurn(int week, int field, int what) {
        if (told.lacksField(field) || what < 0 || what > 9) {
            return NO_SUCH;
        }
        if (isNoWeek(week)) {
            return BAD_NUMBER;
        }
        planWeek(week);
        if (plan.failing && what >= 4) {
            return WEEK_FAILS;
        }
        return plan.partOf(field, what);
    }

    public int net(int week) {
        if (isNoWeek(week)) {
            return BAD_NUMBER;
        }
        if (told.fields == 0) {
            return CANNOT_BE;
        }
        planWeek(week);
        return plan.netMinutes;
    }

    public int weight(int field) {
        if (told.lacksField(field)) {
            return NO_SUCH;
        }
        canal.letIn(told.settings[FLOW], NONE);
        return canal.weights[field];
    }

    public int fails(int week) {
        if (isNoWeek(week)) {
            return BAD_NUMBER;
        }
        planWeek(week);
        return plan.failing ? 1 : 0;
    }

    public int isVoid(int k) {
        if (k < 0) {
            return BAD_NUMBER;
        }
        if (k >= told.lends.held) {
            return NONE;
        }
        planWeek(told.lends.cell(k, ROW_WEEK));
        if (plan.failing) {
            return WEEK_FAILS;
        }
        return plan.isLent(k) ? 0 : 1;
    }

    public long water(int week, int field) {
        if (told.lacksField(field)) {
            return NO_SUCH;
        }
        if (isNoWeek(week)) {
            return BAD_NUMBER;
        }
        planWeek(week);
        return plan.waterOf(field);
    }

    public long all(int week) {
        if (isNoWeek(week)) {
            return BAD_NUMBER;
        }
        planWeek(week);
        return plan.waterTogether();
    }

    public int at(int minute, int what) {
        if (what < 0 || what > 3) {
            return NO_SUCH;
        }
        if (minute < 0) {
            return BAD_NUMBER;
        }
        int since = minute - told.settings[START];
        if (since < 0 || since >= WEEKS * WEEK_MINUTES || told.fields == 0) {
            return NONE;
        }
        planWeek(since / WEEK_MINUTES);
        if (plan.failing) {
            return NONE;
        }
        return plan.stateAt(since % WEEK_MINUTES, what);
    }

    public int when(int field, int minute) {
        if (told.lacksField(field)) {
            return NO_SUCH;
        }
        if (minute < 0) {
            return BAD_NUMBER;
        }
        int since = Math.max(minute - told.settings[START], 0);
        for (int week = since / WEEK_MINUTES; week < WEEKS; week++) {
            planWeek(week);
            int begin = week * WEEK_MINUTES;
            int found = plan.failing ? NONE : plan.firstUseful(field, since - begin);
            if (found != NONE) {
                return told.settings[START] + begin + found;
            }
        }
        return NONE;
    }

    // ---- land, soil

    public long depth(int week, int field) {
        if (told.lacksField(field)) {
            return NO_SUCH;
        }
        if (isNoWeek(week)) {
            return BAD_NUMBER;
        }
        planWeek(week);
        return plan.depthOf(field);
    }

    public int first(int week, boolean most) {
        if (isNoWeek(week)) {
            return BAD_NUMBER;
        }
        planWeek(week);
        int found = NONE;
        long best = 0;
        for (int f = 0; f < told.fields; f++) {
            long deep = plan.depthOf(f);
            if (found == NONE || (most ? deep > best : deep < best)) {
                found = f;
                best = deep;
            }
        }
        return found;
    }

    public int soil(int week, int field) {
        if (told.lacksField(field)) {
            return NO_SUCH;
        }
        if (isNoWeek(week)) {
            return BAD_NUMBER;
        }
        openSeason();
        int level = told.stores[field];
        season.reckonTo(week);
        for (int w = 0; w <= week; w++) {
            level = Math.max(soilBehind(w, field, level), 0);
        }
        return level;
    }

    public int dry(int week, int field, int what) {
        if (told.lacksField(field) || what < 0 || what > 1) {
            return NO_SUCH;
        }
        if (isNoWeek(week)) {
            return BAD_NUMBER;
        }
        openSeason();
        int level = told.stores[field];
        int times = 0;
        int earliest = NONE;
        season.reckonTo(week);
        for (int w = 0; w <= week; w++) {
            level = soilBehind(w, field, level);
            if (level < 0) {
                level = 0;
                times++;
                earliest = earliest == NONE ? w : earliest;
            }
        }
        return what == 0 ? times : earliest;
    }

    public long tail(int week) {
        if (isNoWeek(week)) {
            return BAD_NUMBER;
        }
        if (told.fields == 0) {
            return NONE;
        }
        planWeek(week);
        long ofHead = plan.depthOf(told.headField());
        return ofHead <= 0 ? NONE : plan.depthOf(told.tailField()) * THOUSAND / ofHead;
    }

    public int leastFlow(int week) {
        if (isNoWeek(week)) {
            return BAD_NUMBER;
        }
        if (told.fields == 0) {
            return CANNOT_BE;
        }
        season.open(told.settings[BY]);
        for (int n = 1; n <= MAX_FLOW; n++) {
            canal.letIn(n, NONE);
            // By land alone the minutes do not depend on the flow: they are kept for all flows.
            if (told.settings[MODE] != 0) {
                season.forget();
            }
            if (staysMoist(week)) {
                return n;
            }
        }
        return NONE;
    }

    private void openSeason() {
        canal.letIn(told.settings[FLOW], NONE);
        season.open(told.settings[BY]);
    }

    /** The soil behind a week, by that ahead of it; below 0 if the field is dry in it. */
    private int soilBehind(int week, int field, int level) {
        int land = told.lands[field];
        int deep = land <= 0 ? 0 : season.gainedIn(week, field) * canal.flowAt(told.nodes[field]) / land;
        return Math.min(level + deep, told.stores[field]) - told.uses[field];
    }

    private boolean staysMoist(int week) {
        System.arraycopy(told.stores, 0, scratch, 0, MAX_FIELDS);
        for (int w = 0; w <= week; w++) {
            season.reckonTo(w);
            for (int f = 0; f < told.fields; f++) {
                scratch[f] = soilBehind(w, f, scratch[f]);
                if (scratch[f] < 0) {
                    return false;
                }
            }
        }
        return true;
    }

    // ---- what is best

    public int lining(int week) {
        if (isNoWeek(week)) {
            return BAD_NUMBER;
        }
        plan.lineUp(week, told.settings[BY]);
        int found = NONE;
        long best = 0;
        for (int r = 0; r < told.reaches; r++) {
            canal.letIn(told.settings[FLOW], r);
            plan.reckon();
            long together = plan.waterTogether();
            if (found == NONE || together > best) {
                found = r;
                best = together;
            }
        }
        return found;
    }

    public int order(int place) {
        if (place < NONE) {
            return BAD_NUMBER;
        }
        if (told.fields == 0) {
            return CANNOT_BE;
        }
        if (place >= told.fields) {
            return NONE;
        }
        sequencer.search();
        return place == NONE ? sequencer.bestNet : sequencer.best[place];
    }

    public int even(int n, int what) {
        if (what < 0 || what > 1) {
            return NO_SUCH;
        }
        if (n < 1 || n > WEEKS) {
            return BAD_NUMBER;
        }
        if (told.fields == 0) {
            return CANNOT_BE;
        }
        canal.letIn(told.settings[FLOW], NONE);
        int found = NONE;
        int best = 0;
        for (int by = 0; by < told.fields; by++) {
            int spread = nightSpread(n, by);
            if (found == NONE || spread < best) {
                found = by;
                best = spread;
            }
        }
        return what == 0 ? found : best;
    }

    public int partners(int week, int field) {
        if (told.lacksField(field)) {
            return NO_SUCH;
        }
        if (isNoWeek(week)) {
            return BAD_NUMBER;
        }
        planWeek(week);
        if (plan.failing) {
            return WEEK_FAILS;
        }
        for (int f = 0; f < told.fields; f++) {
            scratch[f] = plan.nightOf(f);
        }
        int bits = 0;
        for (int other = 0; other < told.fields; other++) {
            if (other != field && isPartner(field, other)) {
                bits |= 1 << other;
            }
        }
        return bits;
    }

    public int matched(int week, int field) {
        if (field != NONE && told.lacksField(field)) {
            return NO_SUCH;
        }
        if (isNoWeek(week)) {
            return BAD_NUMBER;
        }
        if (told.fields == 0) {
            return CANNOT_BE;
        }
        planWeek(week);
        if (plan.failing) {
            return WEEK_FAILS;
        }
        matcher.search();
        return field == NONE ? matcher.leastNight : matcher.best[field];
    }

    public int nights(int from, int to, int field) {
        if (told.lacksField(field)) {
            return NO_SUCH;
        }
        if (isNoWeek(from) || isNoWeek(to) || to < from) {
            return BAD_NUMBER;
        }
        openSeason();
        int sum = 0;
        season.reckonTo(to);
        for (int w = from; w <= to; w++) {
            sum += season.nightIn(w, field);
        }
        return sum;
    }

    public int soaked(int flow, int left, boolean most) {
        if (flow < 1 || flow > MAX_FLOW || left < 0 || left > flow) {
            return BAD_NUMBER;
        }
        int found = NONE;
        for (int soak = 0; soak <= MAX_SOAK; soak++) {
            if (Canal.leftBehind(flow, soak) == left && (most || found == NONE)) {
                found = soak;
            }
        }
        return found;
    }

    public long fairest(int week) {
        if (isNoWeek(week)) {
            return BAD_NUMBER;
        }
        if (told.fields == 0) {
            return CANNOT_BE;
        }
        canal.letIn(told.settings[FLOW], NONE);
        long best = 0;
        for (int by = 0; by < told.fields; by++) {
            plan.lineUp(week, by);
            plan.reckon();
            best = Math.max(best, plan.leastDepth());
        }
        return best;
    }

    public int balance(int week, int field, int other) {
        if (told.lacksField(field) || told.lacksField(other)) {
            return NO_SUCH;
        }
        if (isNoWeek(week)) {
            return BAD_NUMBER;
        }
        int sum = BALANCE_ZERO;
        for (int k = 0; k < told.lends.held; k++) {
            int giver = told.lends.cell(k, ROW_ONE);
            int taker = told.lends.cell(k, ROW_OTHER);
            if (giver == field && taker == other) {
                sum += lentBy(k, week);
            } else if (giver == other && taker == field) {
                sum -= lentBy(k, week);
            }
        }
        return sum;
    }

    public int settles(int week) {
        if (isNoWeek(week)) {
            return BAD_NUMBER;
        }
        Arrays.fill(scratch, 0);
        for (int k = 0; k < told.lends.held; k++) {
            int minutes = lentBy(k, week);
            scratch[told.lends.cell(k, ROW_ONE)] += minutes;
            scratch[told.lends.cell(k, ROW_OTHER)] -= minutes;
        }
        return settler.fewestPayments(scratch, told.fields);
    }

    public int count(int what) {
        switch (what) {
            case 0:
                return told.reaches;
            case 1:
                return told.fields;
            case 2:
                return told.swaps.held;
            case 3:
                return told.lends.held;
            case 4:
                return told.shuts.held;
            case 5:
                return told.headField();
            case 6:
                return told.tailField();
            case 7:
                return told.landTogether();
            case 8:
                return acts.held;
            case 9:
                return reader.held;
            default:
                return NONE;
        }
    }

    /** By how much the most night of a field in the weeks below n is above the least, by another BY. */
    private int nightSpread(int n, int by) {
        season.open(by);
        season.reckonTo(n - 1);
        int most = 0;
        int least = 0;
        for (int f = 0; f < told.fields; f++) {
            int sum = 0;
            for (int w = 0; w < n; w++) {
                sum += season.nightIn(w, f);
            }
            most = f == 0 ? sum : Math.max(most, sum);
            least = f == 0 ? sum : Math.min(least, sum);
        }
        return most - least;
    }

    /** Whether a swap in the planned week helps one and harms not the other; scratch has the nights without it. */
    private boolean isPartner(int field, int other) {
        plan.exchange(field, other);
        plan.reckon();
        boolean helps = !plan.failing && plan.nightOf(field) < scratch[field]
                && plan.nightOf(other) <= scratch[other];
        plan.exchange(field, other);
        return helps;
    }

    /** Minutes of a LEND that count up to a week: 0 if it is later, VOID, or its week fails. */
    private int lentBy(int k, int week) {
        int own = told.lends.cell(k, ROW_WEEK);
        if (own > week) {
            return 0;
        }
        planWeek(own);
        return !plan.failing && plan.isLent(k) ? told.lends.cell(k, ROW_MINUTES) : 0;
    }

    private void planWeek(int week) {
        canal.letIn(told.settings[FLOW], NONE);
        plan.lineUp(week, told.settings[BY]);
        plan.reckon();
    }

    private static boolean isNoWeek(int week) {
        return week < 0 || week >= WEEKS;
    }

    /** Rows of a few numbers each, up to a limit. */
    private static final class Rows {
        private final int limit;
        private final int width;
        private final int[] cells;
        private int held;

        Rows(int limit, int width) {
            this.limit = limit;
            this.width = width;
            cells = new int[limit * width];
        }

        boolean isFull() {
            return held >= limit;
        }

        void addRow(int a, int b, int c, int d) {
            if (held >= limit) {
                return;
            }
            int from = held * width;
            putCell(from, 0, a);
            putCell(from, 1, b);
            putCell(from, 2, c);
            putCell(from, 3, d);
            held++;
        }

        private void putCell(int from, int column, int n) {
            if (column < width) {
                cells[from + column] = n;
            }
        }

        void dropLast() {
            held = Math.max(held - 1, 0);
        }

        int cell(int row, int column) {
            boolean isThere = row >= 0 && row < held && column >= 0 && column < width;
            return isThere ? cells[row * width + column] : 0;
        }

        void copyFrom(Rows other) {
            System.arraycopy(other.cells, 0, cells, 0, Math.min(cells.length, other.cells.length));
            held = Math.min(other.held, limit);
        }
    }

    /** All that was told, by a text and by hand. */
    private static final class Told {
        private int reaches;
        /** FILL and DRAIN of the reaches below one, added, so that those of a stretch are one difference. */
        private final int[] fillTo = new int[MAX_REACHES + 1];
        private final int[] drainTo = new int[MAX_REACHES + 1];
        private final int[] soaks = new int[MAX_REACHES];
        private int fields;
        private final long[] names = new long[MAX_FIELDS];
        private final int[] nodes = new int[MAX_FIELDS];
        private final int[] lands = new int[MAX_FIELDS];
        private final int[] stores = new int[MAX_FIELDS];
        private final int[] uses = new int[MAX_FIELDS];
        private final int[] ordered = new int[MAX_FIELDS];
        private final int[] settings = new int[SETTINGS];
        private final Rows swaps = new Rows(MAX_SWAPS, SWAP_WIDTH);
        private final Rows lends = new Rows(MAX_LENDS, LEND_WIDTH);
        private final Rows shuts = new Rows(MAX_SHUTS, SHUT_WIDTH);

        Told() {
            clear();
        }

        void clear() {
            reaches = 0;
            fields = 0;
            swaps.held = 0;
            lends.held = 0;
            shuts.held = 0;
            settings[FLOW] = 60;
            settings[START] = 0;
            settings[NIGHT_FROM] = 18;
            settings[NIGHT_TO] = 6;
            settings[EVERY] = 1;
            settings[BY] = 0;
            settings[MODE] = 0;
        }

        void copyFrom(Told other) {
            reaches = other.reaches;
            fields = other.fields;
            System.arraycopy(other.fillTo, 0, fillTo, 0, MAX_REACHES + 1);
            System.arraycopy(other.drainTo, 0, drainTo, 0, MAX_REACHES + 1);
            System.arraycopy(other.soaks, 0, soaks, 0, MAX_REACHES);
            System.arraycopy(other.names, 0, names, 0, MAX_FIELDS);
            System.arraycopy(other.nodes, 0, nodes, 0, MAX_FIELDS);
            System.arraycopy(other.lands, 0, lands, 0, MAX_FIELDS);
            System.arraycopy(other.stores, 0, stores, 0, MAX_FIELDS);
            System.arraycopy(other.uses, 0, uses, 0, MAX_FIELDS);
            System.arraycopy(other.ordered, 0, ordered, 0, MAX_FIELDS);
            System.arraycopy(other.settings, 0, settings, 0, SETTINGS);
            swaps.copyFrom(other.swaps);
            lends.copyFrom(other.lends);
            shuts.copyFrom(other.shuts);
        }

        void addReach(int fill, int drain, int soak) {
            if (reaches >= MAX_REACHES) {
                return;
            }
            soaks[reaches] = soak;
            fillTo[reaches + 1] = fillTo[reaches] + fill;
            drainTo[reaches + 1] = drainTo[reaches] + drain;
            reaches++;
        }

        void addField(long name, int node, int land) {
            if (fields >= MAX_FIELDS) {
                return;
            }
            names[fields] = name;
            nodes[fields] = node;
            lands[fields] = land;
            stores[fields] = 0;
            uses[fields] = 0;
            ordered[fields] = fields;
            fields++;
        }

        boolean lacksReach(int r) {
            return r < 0 || r >= reaches;
        }

        boolean lacksField(int f) {
            return f < 0 || f >= fields;
        }

        boolean lacksPair(int f, int g) {
            return lacksField(f) || lacksField(g) || f == g;
        }

        int fieldNamed(long name) {
            for (int f = 0; f < fields; f++) {
                if (names[f] == name) {
                    return f;
                }
            }
            return NONE;
        }

        int placeInOrder(int f) {
            for (int p = 0; p < fields; p++) {
                if (ordered[p] == f) {
                    return p;
                }
            }
            return NONE;
        }

        void bringTo(int f, int place) {
            int p = placeInOrder(f);
            if (p == NONE || place < 0 || place >= fields) {
                return;
            }
            for (; p < place; p++) {
                ordered[p] = ordered[p + 1];
            }
            for (; p > place; p--) {
                ordered[p] = ordered[p - 1];
            }
            ordered[place] = f;
        }

        /** FILL of the reaches behind one node, up to another one; none if that is not farther. */
        int fillBehind(int from, int to) {
            return to > from ? fillTo[to + 1] - fillTo[from + 1] : 0;
        }

        int drainBehind(int from, int to) {
            return to > from ? drainTo[to + 1] - drainTo[from + 1] : 0;
        }

        int headField() {
            int found = NONE;
            for (int f = 0; f < fields; f++) {
                if (found == NONE || nodes[f] < nodes[found]) {
                    found = f;
                }
            }
            return found;
        }

        int tailField() {
            int found = NONE;
            for (int f = 0; f < fields; f++) {
                if (found == NONE || nodes[f] > nodes[found]) {
                    found = f;
                }
            }
            return found;
        }

        int landTogether() {
            int sum = 0;
            for (int f = 0; f < fields; f++) {
                sum += lands[f];
            }
            return sum;
        }

        boolean isNight(int hour) {
            int from = settings[NIGHT_FROM];
            int to = settings[NIGHT_TO];
            return from <= to ? hour >= from && hour < to : hour >= from || hour < to;
        }

        /** Minutes of the night among the first ones from MINUTE 0 on. */
        int nightBefore(int minute) {
            int from = settings[NIGHT_FROM] * HOUR_MINUTES;
            int to = settings[NIGHT_TO] * HOUR_MINUTES;
            int aDay = from <= to ? to - from : DAY_MINUTES - from + to;
            int rest = minute % DAY_MINUTES;
            int today = from <= to
                    ? Math.max(Math.min(rest, to) - from, 0)
                    : Math.min(rest, to) + Math.max(rest - from, 0);
            return minute / DAY_MINUTES * aDay + today;
        }
    }

    /** THE TAPE, and the reading of a text from it into a draft. */
    private static final class Reader {
        private static final String WORDS = "reach field crop flow start night rotate mode swap lend shut ";
        private static final int WORD_REACH = 0;
        private static final int WORD_FIELD = 1;
        private static final int WORD_CROP = 2;
        private static final int WORD_FLOW = 3;
        private static final int WORD_START = 4;
        private static final int WORD_NIGHT = 5;
        private static final int WORD_ROTATE = 6;
        private static final int WORD_MODE = 7;
        private static final int WORD_SWAP = 8;
        private static final int WORD_LEND = 9;
        private static final int WORD_SHUT = 10;

        private static final int CANNOT_STAND = 1;
        private static final int OUT_OF_BOUNDS = 2;
        private static final int WRONG_NAME = 3;
        private static final int ONE_TOO_MANY = 4;

        private static final int BLANK = 32;
        private static final int MAX_DIGITS = 5;
        private static final int MAX_LETTERS = 8;
        /** A name is held as a number, five bits a letter, the first one lowest, 0 behind the last one. */
        private static final int LETTER_BITS = 5;
        private static final int LETTER_MASK = 31;

        private final Told draft = new Told();
        private final byte[] tape = new byte[MAX_TAPE];
        private int held;
        private int end;
        private int spot;
        private int wordAt;
        private int wordLength;
        /** The first fault of the latest text: once there is one, nothing more is read. */
        private int wrong;
        private int wrongAt = NONE;

        void takeInt(int n) {
            for (int shift = 24; shift >= 0 && held < MAX_TAPE; shift -= 8) {
                tape[held] = (byte) (n >> shift);
                held++;
            }
        }

        /** Takes the first n bytes as a text to be read into the draft, and empties THE TAPE. */
        void open(int n) {
            end = Math.min(n, held);
            spot = 0;
            held = 0;
            wrong = 0;
            wrongAt = NONE;
            draft.clear();
        }

        boolean hasMore() {
            skipBlanks();
            return wrong == 0 && spot < end;
        }

        void readLine() {
            readWord();
            switch (wordKind()) {
                case WORD_REACH:
                    readReach();
                    break;
                case WORD_FIELD:
                    readField();
                    break;
                case WORD_CROP:
                    readCrop();
                    break;
                case WORD_SWAP:
                    readSwap();
                    break;
                case WORD_LEND:
                    readLend();
                    break;
                case WORD_SHUT:
                    readShut();
                    break;
                default:
                    readSetting();
                    break;
            }
            readLineEnd();
        }

        private void readReach() {
            if (draft.reaches >= MAX_REACHES) {
                refuse(ONE_TOO_MANY, wordAt);
            }
            int fill = readNumber(0, MAX_FILL);
            int drain = readNumber(0, MAX_FILL);
            int soak = readNumber(0, MAX_SOAK);
            if (wrong == 0) {
                draft.addReach(fill, drain, soak);
            }
        }

        private void readField() {
            if (draft.fields >= MAX_FIELDS) {
                refuse(ONE_TOO_MANY, wordAt);
            }
            long name = readName();
            if (draft.fieldNamed(name) != NONE) {
                refuse(WRONG_NAME, wordAt);
            }
            int node = readNumber(0, draft.reaches - 1);
            int land = readNumber(1, MAX_LAND);
            if (wrong == 0) {
                draft.addField(name, node, land);
            }
        }

        private void readCrop() {
            int f = readKnownField(NONE);
            int store = readNumber(0, MAX_STORE);
            int use = readNumber(0, MAX_STORE);
            if (wrong == 0 && !draft.lacksField(f)) {
                draft.stores[f] = store;
                draft.uses[f] = use;
            }
        }

        private void readSwap() {
            refuseIfFull(draft.swaps);
            int week = readNumber(0, WEEKS - 1);
            int one = readKnownField(NONE);
            int other = readKnownField(one);
            if (wrong == 0) {
                draft.swaps.addRow(week, one, other, 0);
            }
        }

        private void readLend() {
            refuseIfFull(draft.lends);
            int week = readNumber(0, WEEKS - 1);
            int one = readKnownField(NONE);
            int other = readKnownField(one);
            int minutes = readNumber(1, MAX_LENT);
            if (wrong == 0) {
                draft.lends.addRow(week, one, other, minutes);
            }
        }

        private void readShut() {
            refuseIfFull(draft.shuts);
            int week = readNumber(0, WEEKS - 1);
            int from = readNumber(0, WEEK_MINUTES - 1);
            int to = readNumber(from + 1, WEEK_MINUTES);
            if (wrong == 0) {
                draft.shuts.addRow(week, from, to, 0);
            }
        }

        private void readSetting() {
            switch (wordKind()) {
                case WORD_FLOW:
                    draft.settings[FLOW] = readNumber(1, MAX_FLOW);
                    break;
                case WORD_START:
                    draft.settings[START] = readNumber(0, WEEK_MINUTES - 1);
                    break;
                case WORD_NIGHT:
                    draft.settings[NIGHT_FROM] = readNumber(0, MAX_HOUR);
                    draft.settings[NIGHT_TO] = readNumber(0, MAX_HOUR);
                    break;
                case WORD_ROTATE:
                    draft.settings[EVERY] = readNumber(1, MAX_EVERY);
                    draft.settings[BY] = readNumber(0, MAX_BY);
                    break;
                case WORD_MODE:
                    draft.settings[MODE] = readNumber(0, MAX_MODE);
                    break;
                default:
                    refuse(CANNOT_STAND, wordAt);
                    break;
            }
        }

        private void refuseIfFull(Rows rows) {
            if (rows.isFull()) {
                refuse(ONE_TOO_MANY, wordAt);
            }
        }

        private void readLineEnd() {
            skipBlanks();
            if (spot < end && tape[spot] == ';') {
                spot++;
            } else {
                refuse(CANNOT_STAND, spot);
            }
        }

        private int readNumber(int low, int high) {
            skipBlanks();
            int from = spot;
            int value = 0;
            for (; spot < end && isDigit(tape[spot]); spot++) {
                if (spot - from < MAX_DIGITS) {
                    value = value * 10 + tape[spot] - '0';
                }
            }
            if (spot == from) {
                refuse(CANNOT_STAND, from);
            } else if (spot - from > MAX_DIGITS || value < low || value > high) {
                refuse(OUT_OF_BOUNDS, from);
            }
            return value;
        }

        /** Reads letters as long as they go on: the first eight of them as a name. */
        private long readWord() {
            skipBlanks();
            wordAt = spot;
            long name = 0;
            for (; spot < end && isLetter(tape[spot]); spot++) {
                int k = spot - wordAt;
                if (k < MAX_LETTERS) {
                    name |= (long) (tape[spot] - 'a' + 1) << (k * LETTER_BITS);
                }
            }
            wordLength = spot - wordAt;
            return name;
        }

        private long readName() {
            long name = readWord();
            if (wordLength == 0 || wordLength > MAX_LETTERS || wordKind() != NONE) {
                refuse(CANNOT_STAND, wordAt);
            }
            return name;
        }

        /** Reads the name of a field told ahead, other than one (or NONE). */
        private int readKnownField(int unlike) {
            int f = draft.fieldNamed(readName());
            if (f == NONE || f == unlike) {
                refuse(WRONG_NAME, wordAt);
            }
            return f;
        }

        /** Which of WORDS the word read last is, or NONE. */
        private int wordKind() {
            int kind = 0;
            int from = 0;
            for (int i = 0; i < WORDS.length(); i++) {
                if (WORDS.charAt(i) == ' ') {
                    if (i - from == wordLength && isWordAt(from)) {
                        return kind;
                    }
                    kind++;
                    from = i + 1;
                }
            }
            return NONE;
        }

        private boolean isWordAt(int from) {
            for (int k = 0; k < wordLength && from + k < WORDS.length() && wordAt + k < end; k++) {
                if (WORDS.charAt(from + k) != tape[wordAt + k]) {
                    return false;
                }
            }
            return true;
        }

        private void skipBlanks() {
            while (spot < end && tape[spot] == BLANK) {
                spot++;
            }
        }

        private void refuse(int what, int place) {
            if (wrong == 0) {
                wrong = what;
                wrongAt = place;
            }
        }

        private static boolean isDigit(byte b) {
            return b >= '0' && b <= '9';
        }

        private static boolean isLetter(byte b) {
            return b >= 'a' && b <= 'z';
        }

        static int letterOf(long name, int k) {
            return k < 0 || k >= MAX_LETTERS ? 0 : (int) (name >> (k * LETTER_BITS)) & LETTER_MASK;
        }

        static int lettersOf(long name) {
            int k = 0;
            while (k < MAX_LETTERS && letterOf(name, k) != 0) {
                k++;
            }
            return k;
        }
    }

    /** The latest acts, each with what it changed and how that was before. */
    private static final class Acts {
        private final int[] kinds = new int[MAX_ACTS];
        private final int[] targets = new int[MAX_ACTS];
        private final int[] befores = new int[MAX_ACTS];
        private int held;

        void keep(int kind, int target, int before) {
            if (held >= MAX_ACTS) {
                dropOldest(kinds);
                dropOldest(targets);
                dropOldest(befores);
                held = MAX_ACTS - 1;
            }
            kinds[held] = kind;
            targets[held] = target;
            befores[held] = before;
            held++;
        }

        private static void dropOldest(int[] row) {
            System.arraycopy(row, 1, row, 0, MAX_ACTS - 1);
        }
    }

    /** What flows at each node, and the weights of the fields by that. */
    private static final class Canal {
        private final Told told;
        private final int[] flows = new int[MAX_REACHES];
        private final int[] weights = new int[MAX_FIELDS];
        private long weightSum;

        Canal(Told told) {
            this.told = told;
        }

        /** Lets a flow in at the head, as if the reach lined (or NONE) did not soak. */
        void letIn(int flow, int lined) {
            int left = flow;
            for (int r = 0; r < told.reaches; r++) {
                left = leftBehind(left, r == lined ? 0 : told.soaks[r]);
                flows[r] = left;
            }
            weightSum = 0;
            for (int f = 0; f < told.fields; f++) {
                weights[f] = weightBy(told.lands[f], flowAt(told.nodes[f]));
                weightSum += weights[f];
            }
        }

        private int weightBy(int land, int flow) {
            return told.settings[MODE] == 0 || flow <= 0 ? land : land * MILLION / flow;
        }

        int flowAt(int node) {
            return node < 0 || node >= MAX_REACHES ? 0 : flows[node];
        }

        static int leftBehind(int flow, int soak) {
            return flow - flow * soak / THOUSAND;
        }
    }

    /** The minutes of a week that are shut, as stretches one behind the other. */
    private static final class Closed {
        private final Told told;
        private final int[] from = new int[MAX_SHUTS];
        private final int[] to = new int[MAX_SHUTS];
        private int stretches;

        Closed(Told told) {
            this.told = told;
        }

        void gather(int week) {
            stretches = 0;
            for (int k = 0; k < told.shuts.held; k++) {
                if (told.shuts.cell(k, ROW_WEEK) == week) {
                    insertStretch(told.shuts.cell(k, ROW_ONE), told.shuts.cell(k, ROW_OTHER));
                }
            }
            joinStretches();
        }

        private void insertStretch(int begin, int end) {
            if (stretches >= MAX_SHUTS) {
                return;
            }
            int p = stretches;
            for (; p > 0 && from[p - 1] > begin; p--) {
                from[p] = from[p - 1];
                to[p] = to[p - 1];
            }
            from[p] = begin;
            to[p] = end;
            stretches++;
        }

        /** Makes one of those that overlap, so that no minute is counted twice. */
        private void joinStretches() {
            int joined = 0;
            for (int k = 0; k < stretches; k++) {
                if (joined > 0 && from[k] <= to[joined - 1]) {
                    to[joined - 1] = Math.max(to[joined - 1], to[k]);
                } else {
                    from[joined] = from[k];
                    to[joined] = to[k];
                    joined++;
                }
            }
            stretches = joined;
        }

        int minutesWithin(int begin, int end) {
            int sum = 0;
            for (int k = 0; k < stretches; k++) {
                sum += Math.max(Math.min(to[k], end) - Math.max(from[k], begin), 0);
            }
            return sum;
        }

        /** The first minute from one on that is not shut. */
        int openFrom(int minute) {
            int found = minute;
            for (int k = 0; k < stretches; k++) {
                if (from[k] <= found && found < to[k]) {
                    found = to[k];
                }
            }
            return found;
        }
    }

    /** One week: its roster, and what each field has of its minutes. */
    private static final class WeekPlan {
        private final Told told;
        private final Canal canal;
        private final Closed closed;
        private int week;
        /** The roster: the field at each place. */
        private final int[] ranks = new int[MAX_FIELDS];
        private final int[] fills = new int[MAX_FIELDS];
        private final int[] drains = new int[MAX_FIELDS];
        private final int[] shares = new int[MAX_FIELDS];
        private final long[] cutOff = new long[MAX_FIELDS];
        private final int[] turns = new int[MAX_FIELDS];
        private final int[] lengths = new int[MAX_FIELDS];
        private final int[] begins = new int[MAX_FIELDS];
        /** A bit for each LEND of the week that is not VOID. */
        private int lentBits;
        private int netMinutes;
        private boolean failing;

        WeekPlan(Told told, Canal canal) {
            this.told = told;
            this.canal = canal;
            closed = new Closed(told);
        }

        /** Puts the fields of a week in their places; nothing else is reckoned yet. */
        void lineUp(int aWeek, int by) {
            week = aWeek;
            int n = told.fields;
            int front = turnedBy(aWeek, by);
            for (int p = 0; p < n; p++) {
                int from = p + front;
                ranks[p] = told.ordered[from < n ? from : from - n];
            }
            for (int k = 0; k < told.swaps.held; k++) {
                if (told.swaps.cell(k, ROW_WEEK) == aWeek) {
                    exchange(told.swaps.cell(k, ROW_ONE), told.swaps.cell(k, ROW_OTHER));
                }
            }
            closed.gather(aWeek);
        }

        /** How many from the front on go behind the others. */
        int turnedBy(int aWeek, int by) {
            int every = told.settings[EVERY];
            return every <= 0 || told.fields <= 0 ? 0 : aWeek / every * by % told.fields;
        }

        void exchange(int one, int other) {
            int p = placeOf(one);
            int q = placeOf(other);
            if (p != NONE && q != NONE) {
                ranks[p] = other;
                ranks[q] = one;
            }
        }

        int placeOf(int f) {
            for (int p = 0; p < told.fields; p++) {
                if (ranks[p] == f) {
                    return p;
                }
            }
            return NONE;
        }

        /** Reckons the week by its roster and by what the canal lets in. */
        void reckon() {
            fitCourse();
            shareOut();
            takeTurns();
            lentBits = 0;
            if (!failing) {
                passLends();
                followOn();
            }
        }

        private void fitCourse() {
            int n = told.fields;
            netMinutes = WEEK_MINUTES;
            for (int p = 0; p < n; p++) {
                int f = ranks[p];
                int ahead = p == 0 ? NONE : told.nodes[ranks[p - 1]];
                int next = p == n - 1 ? NONE : told.nodes[ranks[p + 1]];
                fills[f] = told.fillBehind(ahead, told.nodes[f]);
                drains[f] = told.drainBehind(next, told.nodes[f]);
                netMinutes += drains[f] - fills[f];
            }
        }

        private void shareOut() {
            long sum = canal.weightSum;
            if (sum <= 0) {
                return;
            }
            int left = netMinutes;
            for (int f = 0; f < told.fields; f++) {
                long part = (long) netMinutes * canal.weights[f];
                shares[f] = (int) (part / sum);
                cutOff[f] = part % sum;
                left -= shares[f];
            }
            for (int k = 0; k < left && k < told.fields; k++) {
                giveOneMore();
            }
        }

        private void giveOneMore() {
            int most = NONE;
            for (int p = 0; p < told.fields; p++) {
                int f = ranks[p];
                if (most == NONE || cutOff[f] > cutOff[most]) {
                    most = f;
                }
            }
            if (most != NONE) {
                shares[most]++;
                cutOff[most] = -1;
            }
        }

        private void takeTurns() {
            failing = false;
            for (int f = 0; f < told.fields; f++) {
                turns[f] = shares[f] + fills[f] - drains[f];
                lengths[f] = turns[f];
                failing |= turns[f] < 0;
            }
        }

        private void passLends() {
            for (int k = 0; k < told.lends.held; k++) {
                int giver = told.lends.cell(k, ROW_ONE);
                int minutes = told.lends.cell(k, ROW_MINUTES);
                boolean isHere = told.lends.cell(k, ROW_WEEK) == week;
                if (isHere && lengths[giver] - fills[giver] >= minutes) {
                    lengths[giver] -= minutes;
                    lengths[told.lends.cell(k, ROW_OTHER)] += minutes;
                    lentBits |= 1 << k;
                }
            }
        }

        private void followOn() {
            int begin = 0;
            for (int p = 0; p < told.fields; p++) {
                begins[ranks[p]] = begin;
                begin += lengths[ranks[p]];
            }
        }

        boolean isLent(int k) {
            return (lentBits >> k & 1) == 1;
        }

        int fillingOf(int f) {
            return Math.min(fills[f], lengths[f]);
        }

        /** Minutes that are shut, but not filling. */
        int shutOf(int f) {
            return closed.minutesWithin(begins[f] + fillingOf(f), begins[f] + lengths[f]);
        }

        int nightOf(int f) {
            if (failing) {
                return 0;
            }
            // A week has seven whole days, so the night lies alike in all weeks.
            int begin = told.settings[START] + begins[f];
            return told.nightBefore(begin + lengths[f]) - told.nightBefore(begin);
        }

        /** Minutes that bring water: those that are neither filling nor shut, and what drains. */
        int gainedOf(int f) {
            return failing ? 0 : lengths[f] - fillingOf(f) - shutOf(f) + drains[f];
        }

        long waterOf(int f) {
            return (long) gainedOf(f) * canal.flowAt(told.nodes[f]);
        }

        long waterTogether() {
            long sum = 0;
            for (int f = 0; f < told.fields; f++) {
                sum += waterOf(f);
            }
            return sum;
        }

        long depthOf(int f) {
            return told.lands[f] <= 0 ? 0 : waterOf(f) / told.lands[f];
        }

        long leastDepth() {
            long least = 0;
            for (int f = 0; f < told.fields; f++) {
                long deep = depthOf(f);
                least = f == 0 ? deep : Math.min(least, deep);
            }
            return least;
        }

        int partOf(int f, int what) {
            switch (what) {
                case 0:
                    return placeOf(f);
                case 1:
                    return fills[f];
                case 2:
                    return drains[f];
                case 3:
                    return shares[f];
                case 4:
                    return turns[f];
                case 5:
                    return lengths[f];
                case 6:
                    return begins[f];
                case 7:
                    return nightOf(f);
                case 8:
                    return fillingOf(f);
                default:
                    return shutOf(f);
            }
        }

        /** Of a minute of the week: who has it, or whether it is filling, shut, by night. */
        int stateAt(int minute, int what) {
            int f = holderAt(minute);
            if (f == NONE) {
                return NONE;
            }
            switch (what) {
                case 0:
                    return f;
                case 1:
                    return minute - begins[f] < fillingOf(f) ? 1 : 0;
                case 2:
                    return closed.minutesWithin(minute, minute + 1);
                default:
                    int hour = (told.settings[START] + minute) / HOUR_MINUTES % DAY_HOURS;
                    return told.isNight(hour) ? 1 : 0;
            }
        }

        private int holderAt(int minute) {
            for (int p = 0; p < told.fields; p++) {
                int f = ranks[p];
                if (minute < begins[f] + lengths[f]) {
                    return f;
                }
            }
            return NONE;
        }

        /** The first minute of the week, from one on, that brings a field water, or NONE. */
        int firstUseful(int f, int minute) {
            int found = closed.openFrom(Math.max(minute, begins[f] + fillingOf(f)));
            return found < begins[f] + lengths[f] ? found : NONE;
        }
    }

    /** The weeks from 0 on, reckoned one by one as they are asked for; weeks that are alike only once. */
    private static final class Season {
        private final Told told;
        private final WeekPlan plan;
        /** For each week the first one that is like it. */
        private final int[] alike = new int[WEEKS];
        /** By how many are turned, the first week so that has no swap, lend or shut of its own. */
        private final int[] plainWeeks = new int[MAX_FIELDS];
        private final int[] gained = new int[WEEKS * MAX_FIELDS];
        private final int[] dark = new int[WEEKS * MAX_FIELDS];
        private int by;
        private int reckoned;

        Season(Told told, WeekPlan plan) {
            this.told = told;
            this.plan = plan;
        }

        void open(int aBy) {
            by = aBy;
            reckoned = 0;
            Arrays.fill(alike, NONE);
            markOwn(told.swaps);
            markOwn(told.lends);
            markOwn(told.shuts);
            Arrays.fill(plainWeeks, NONE);
            for (int w = 0; w < WEEKS; w++) {
                if (alike[w] == NONE) {
                    alike[w] = firstLike(w);
                }
            }
        }

        /** Weeks already reckoned are reckoned anew when they are asked for. */
        void forget() {
            reckoned = 0;
        }

        /** Reckons the weeks up to one that are not yet; only of these the others may be asked. */
        void reckonTo(int week) {
            for (; reckoned <= week && reckoned < WEEKS; reckoned++) {
                if (alike[reckoned] == reckoned) {
                    reckonOne(reckoned);
                }
            }
        }

        int gainedIn(int week, int f) {
            return gained[alike[week] * MAX_FIELDS + f];
        }

        int nightIn(int week, int f) {
            return dark[alike[week] * MAX_FIELDS + f];
        }

        private void markOwn(Rows rows) {
            for (int k = 0; k < rows.held; k++) {
                int w = rows.cell(k, ROW_WEEK);
                alike[w] = w;
            }
        }

        private int firstLike(int week) {
            int front = plan.turnedBy(week, by);
            if (plainWeeks[front] == NONE) {
                plainWeeks[front] = week;
            }
            return plainWeeks[front];
        }

        private void reckonOne(int week) {
            plan.lineUp(week, by);
            plan.reckon();
            for (int f = 0; f < told.fields; f++) {
                gained[week * MAX_FIELDS + f] = plan.gainedOf(f);
                dark[week * MAX_FIELDS + f] = plan.nightOf(f);
            }
        }
    }

    /** Finds the order of fields by which most minutes are left for all. */
    private static final class Sequencer {
        private final Told told;
        /** By the fields that are placed (bits) and the last one of them: the best of what is still to come. */
        private final int[] rest = new int[(1 << MAX_FIELDS) * MAX_FIELDS];
        private final int[] best = new int[MAX_FIELDS];
        private int bestNet;

        Sequencer(Told told) {
            this.told = told;
        }

        void search() {
            int full = (1 << told.fields) - 1;
            for (int placed = full; placed > 0; placed--) {
                for (int last = 0; last < told.fields; last++) {
                    if ((placed >> last & 1) == 1) {
                        rest[placed * MAX_FIELDS + last] = bestRest(placed, last);
                    }
                }
            }
            bestNet = WEEK_MINUTES;
            int placed = 0;
            int last = NONE;
            for (int p = 0; p < told.fields; p++) {
                int next = bestNext(placed, last);
                bestNet += step(last, next);
                best[p] = next;
                placed |= 1 << next;
                last = next;
            }
            bestNet += step(last, NONE);
        }

        private int bestRest(int placed, int last) {
            int next = bestNext(placed, last);
            return next == NONE ? step(last, NONE) : worthOf(placed, last, next);
        }

        /** The first one of the fields that may come next by which the rest is best, NONE if all are placed. */
        private int bestNext(int placed, int last) {
            int found = NONE;
            int most = 0;
            for (int next = 0; next < told.fields; next++) {
                if ((placed >> next & 1) == 0) {
                    int worth = worthOf(placed, last, next);
                    if (found == NONE || worth > most) {
                        found = next;
                        most = worth;
                    }
                }
            }
            return found;
        }

        private int worthOf(int placed, int last, int next) {
            return step(last, next) + rest[(placed | 1 << next) * MAX_FIELDS + next];
        }

        /** What NET gains where the water goes from one field to another one; NONE is the head of the course. */
        private int step(int from, int to) {
            int here = from == NONE ? NONE : told.nodes[from];
            int there = to == NONE ? NONE : told.nodes[to];
            return told.drainBehind(there, here) - told.fillBehind(here, there);
        }
    }

    /** Finds the couples that change their places so that the most night of a field is least. */
    private static final class Matcher {
        private final Told told;
        private final WeekPlan plan;
        private final int[] ranksBefore = new int[MAX_FIELDS];
        private final int[] mates = new int[MAX_FIELDS];
        private final int[] best = new int[MAX_FIELDS];
        private int leastNight;
        private int fewestCouples;

        Matcher(Told told, WeekPlan plan) {
            this.told = told;
            this.plan = plan;
        }

        /** Searches by the week that is planned. */
        void search() {
            System.arraycopy(plan.ranks, 0, ranksBefore, 0, MAX_FIELDS);
            Arrays.fill(mates, NONE);
            Arrays.fill(best, NONE);
            leastNight = NONE;
            fewestCouples = 0;
            coupleFrom(this, 0, 0);
        }

        /**
         * Tries all ways for the fields from one on, those that come first by the document first,
         * so that of like ones the first one found is kept. It goes one deeper for each field.
         */
        private static void coupleFrom(Matcher matcher, int f, int couples) {
            int fields = matcher.told.fields;
            int[] mates = matcher.mates;
            if (f >= fields) {
                matcher.tryMates(couples);
                return;
            }
            coupleFrom(matcher, f + 1, couples);
            for (int g = f + 1; g < fields && mates[f] == NONE; g++) {
                if (mates[g] == NONE) {
                    mates[f] = g;
                    mates[g] = f;
                    coupleFrom(matcher, f + 1, couples + 1);
                    mates[f] = NONE;
                    mates[g] = NONE;
                }
            }
        }

        private void tryMates(int couples) {
            for (int p = 0; p < told.fields; p++) {
                int f = ranksBefore[p];
                plan.ranks[p] = mates[f] == NONE ? f : mates[f];
            }
            plan.reckon();
            if (plan.failing) {
                return;
            }
            int most = 0;
            for (int f = 0; f < told.fields; f++) {
                most = Math.max(most, plan.nightOf(f));
            }
            boolean isBetter = leastNight == NONE || most < leastNight
                    || most == leastNight && couples < fewestCouples;
            if (isBetter) {
                leastNight = most;
                fewestCouples = couples;
                System.arraycopy(mates, 0, best, 0, MAX_FIELDS);
            }
        }
    }

    /** Finds how few payments settle what each one is owed. */
    private static final class Settler {
        private final int[] sums = new int[1 << MAX_FIELDS];
        private final int[] groups = new int[1 << MAX_FIELDS];

        /**
         * A group that owes nothing to others settles by one payment less than it has members:
         * so the most groups make the fewest payments.
         */
        int fewestPayments(int[] owed, int members) {
            int full = (1 << members) - 1;
            sums[0] = 0;
            groups[0] = 0;
            for (int set = 1; set <= full; set++) {
                int most = 0;
                for (int f = 0; f < members; f++) {
                    if ((set >> f & 1) == 1) {
                        int others = set ^ 1 << f;
                        most = Math.max(most, groups[others]);
                        sums[set] = sums[others] + owed[f];
                    }
                }
                groups[set] = sums[set] == 0 ? most + 1 : most;
            }
            return members - groups[full];
        }
    }
}
