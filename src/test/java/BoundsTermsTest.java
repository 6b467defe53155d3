/** The boundary cases that "Terms" names ahead of THE TEXT: how many there are, and from what to what. */
public final class BoundsTermsTest {
    private static final String ONE = "reach 0 0 0;field a 0 10;";

    public static void main(String[] args) {
        reachesAtMost();
        nodes();
        reachNumbers();
        fieldsAtMost();
        names();
        land();
        crops();
        flowAndStart();
        nightHours();
        nightWithinADay();
        nightOverMidnight();
        noNight();
        everyAndBy();
        mode();
        weeks();
        Check.end();
    }

    private static void wrong(String text, int kind) {
        WarabandiDesk x = new WarabandiDesk();
        Check.due("tell of \"" + text + "\"", Check.tell(x, text), -30 - kind);
        Check.due("count(1) behind \"" + text + "\"", x.count(1), 0);
        Check.due("count(0) behind \"" + text + "\"", x.count(0), 0);
    }

    private static void reachesAtMost() {
        Check.says("Terms", "REACHES 0, 1 .. (at most 10), one behind the other from the head on");
        WarabandiDesk x = Check.desk("reach 1 2 3;".repeat(10));
        Check.due("count(0) of ten", x.count(0), 10);
        Check.due("reach(9, 0)", x.reach(9, 0), 1);
        Check.due("reach(10, 0)", x.reach(10, 0), -2);
        Check.due("reach(-1, 0)", x.reach(-1, 0), -2);
        wrong("reach 1 2 3;".repeat(11), 4);
        x = Check.desk("reach 7 0 0;reach 8 0 0;");
        Check.due("reach(0, 0)", x.reach(0, 0), 7);
        Check.due("reach(1, 0)", x.reach(1, 0), 8);
    }

    private static void nodes() {
        Check.says("Terms", "NODE k is at the end of REACH k");
        String ten = "reach 1 2 0;".repeat(9) + "reach 10 20 500;";
        WarabandiDesk x = Check.desk(ten + "field a 0 10;");
        Check.due("FILL to NODE 0", x.inTurn(0, 0, 1), 1);
        Check.due("DRAIN to NODE 0", x.inTurn(0, 0, 2), 2);
        x = Check.desk(ten + "field a 9 10;");
        Check.due("FILL to NODE 9", x.inTurn(0, 0, 1), 19);
        Check.due("DRAIN to NODE 9", x.inTurn(0, 0, 2), 38);
        Check.due("FLOW of NODE 8", x.reach(8, 3), 60);
        Check.due("FLOW of NODE 9", x.reach(9, 3), 30);
    }

    private static void reachNumbers() {
        Check.says("Terms", "A REACH has FILL, DRAIN (minutes, 0 to 60 each), SOAK (0 to 500, of a thousand).");
        WarabandiDesk x = Check.desk("reach 0 0 0;reach 60 60 500;");
        int[] due = {0, 0, 0, 60, 60, 60, 500, 30};
        for (int k = 0; k < due.length; k++) {
            Check.due("reach(" + k / 4 + ", " + k % 4 + ")", x.reach(k / 4, k % 4), due[k]);
        }
        wrong("reach 61 0 0;", 2);
        wrong("reach 0 61 0;", 2);
        wrong("reach 0 0 501;", 2);
        wrong("reach -1 0 0;", 1);
    }

    private static String fields(int n) {
        StringBuilder text = new StringBuilder("reach 0 0 0;");
        for (int f = 0; f < n; f++) {
            text.append("field ").append((char) ('a' + f)).append(" 0 1;");
        }
        return text.toString();
    }

    private static void fieldsAtMost() {
        Check.says("Terms", "FIELDS 0, 1 .. (at most 8)");
        WarabandiDesk x = Check.desk(fields(8));
        Check.due("count(1) of eight", x.count(1), 8);
        Check.due("name(7, 0)", x.name(7, 0), 8);
        Check.due("field(8, 0)", x.field(8, 0), -2);
        wrong(fields(9), 4);
    }

    private static void names() {
        Check.says("Terms", "a NAME (1 to 8 small letters, none of those below, unlike ones)");
        WarabandiDesk x = Check.desk("reach 0 0 0;field z 0 1;field abcdefgh 0 1;field abcdefgi 0 1;field zz 0 1;");
        Check.due("letters of z", x.name(0, -1), 1);
        Check.due("letters of abcdefgh", x.name(1, -1), 8);
        Check.due("last letter of abcdefgi", x.name(2, 7), 9);
        Check.due("letters of zz", x.name(3, -1), 2);
        wrong("reach 0 0 0;field abcdefghi 0 1;", 1);
        wrong("reach 0 0 0;field 0 1;", 1);
        wrong("reach 0 0 0;field A 0 1;", 1);
        wrong("reach 0 0 0;field aB 0 1;", 1);
        wrong("reach 0 0 0;field a 0 1;field a 0 1;", 3);
        wrong("reach 0 0 0;field abcdefgh 0 1;field abcdefgh 0 1;", 3);
        for (String word : new String[] {"reach", "field", "crop", "flow", "start", "night", "rotate", "mode",
            "swap", "lend", "shut"}) {
            wrong("reach 0 0 0;field " + word + " 0 1;", 1);
            x = Check.desk("reach 0 0 0;field " + word + "x 0 1;field " + word.substring(1) + " 0 1;");
            Check.due("letters of " + word + "x", x.name(0, -1), word.length() + 1);
        }
    }

    private static void land() {
        Check.says("Terms", "LAND (tenths of an acre, 1 to 999)");
        WarabandiDesk x = Check.desk("reach 0 0 0;field a 0 1;field b 0 999;");
        Check.due("field(0, 1)", x.field(0, 1), 1);
        Check.due("field(1, 1)", x.field(1, 1), 999);
        wrong("reach 0 0 0;field a 0 0;", 2);
        wrong("reach 0 0 0;field a 0 1000;", 2);
    }

    private static void crops() {
        Check.says("Terms", "STORE, USE (0 to 9999 each; 0 at first)");
        WarabandiDesk x = Check.desk(ONE);
        Check.due("STORE at first", x.field(0, 2), 0);
        Check.due("USE at first", x.field(0, 3), 0);
        x = Check.desk(ONE + "crop a 9999 0;field b 0 1;crop b 0 9999;");
        Check.due("field(0, 2)", x.field(0, 2), 9999);
        Check.due("field(0, 3)", x.field(0, 3), 0);
        Check.due("field(1, 2)", x.field(1, 2), 0);
        Check.due("field(1, 3)", x.field(1, 3), 9999);
        wrong(ONE + "crop a 10000 0;", 2);
        wrong(ONE + "crop a 0 10000;", 2);
        Check.tell(x, ONE);
        Check.due("STORE at first, behind another text", x.field(0, 2), 0);
        Check.due("USE at first, behind another text", x.field(0, 3), 0);
    }

    private static void settingBounds(String word, int what, int low, int high, int first) {
        Check.due(word + " at first", new WarabandiDesk().setting(what), first);
        Check.due(word + " at first, behind a text", Check.desk(ONE).setting(what), first);
        Check.due(word + " " + low, Check.desk(word + " " + low + ";").setting(what), low);
        Check.due(word + " " + high, Check.desk(word + " " + high + ";").setting(what), high);
        wrong(word + " " + (high + 1) + ";", 2);
        if (low > 0) {
            wrong(word + " " + (low - 1) + ";", 2);
        }
    }

    private static void flowAndStart() {
        Check.says("Terms", "FLOW 1 to 999 (60 at first)");
        settingBounds("flow", 0, 1, 999, 60);
        Check.says("Terms", "START 0 to 10079 (0)");
        settingBounds("start", 1, 0, 10079, 0);
    }

    private static void nightHours() {
        Check.says("Terms", "NIGHT from an hour to an hour (0 to 23; 18, 6)");
        WarabandiDesk x = new WarabandiDesk();
        Check.due("setting(2)", x.setting(2), 18);
        Check.due("setting(3)", x.setting(3), 6);
        x = Check.desk("night 0 23;");
        Check.due("setting(2) of night 0 23", x.setting(2), 0);
        Check.due("setting(3) of night 0 23", x.setting(3), 23);
        x = Check.desk("night 23 0;");
        Check.due("setting(2) of night 23 0", x.setting(2), 23);
        Check.due("setting(3) of night 23 0", x.setting(3), 0);
        wrong("night 24 0;", 2);
        wrong("night 0 24;", 2);
    }

    /** Whether each hour of a day is night, looked at in its first and its last minute. */
    private static void hoursAre(String night, String due) {
        WarabandiDesk x = Check.desk(ONE + night);
        int minutes = 0;
        for (int hour = 0; hour < 24; hour++) {
            int is = due.charAt(hour) - '0';
            minutes += 60 * is;
            Check.due("at(" + 60 * hour + ", 3) of " + night, x.at(60 * hour, 3), is);
            Check.due("at(" + (60 * hour + 59) + ", 3) of " + night, x.at(60 * hour + 59, 3), is);
        }
        Check.due("NIGHT of all by " + night, x.inTurn(0, 0, 7), 7 * minutes);
    }

    private static void nightWithinADay() {
        Check.says("Terms", "hours from the first one on, below the second one");
        hoursAre("night 5 7;", "000001100000000000000000");
        hoursAre("night 0 1;", "100000000000000000000000");
        hoursAre("night 0 23;", "111111111111111111111110");
        hoursAre("night 22 23;", "000000000000000000000010");
    }

    private static void nightOverMidnight() {
        Check.says("Terms", "or, if that is less, from the first on or below the second");
        hoursAre("", "111111000000000000111111");
        hoursAre("night 22 3;", "111000000000000000000011");
        hoursAre("night 23 0;", "000000000000000000000001");
        hoursAre("night 1 0;", "011111111111111111111111");
        hoursAre("night 23 22;", "111111111111111111111101");
    }

    private static void noNight() {
        Check.says("Terms", "(none, if they are alike)");
        hoursAre("night 0 0;", "0".repeat(24));
        hoursAre("night 12 12;", "0".repeat(24));
        hoursAre("night 23 23;", "0".repeat(24));
    }

    private static void everyAndBy() {
        Check.says("Terms", "EVERY 1 to 52 (1), BY 0 to 7 (0): how the roster is turned.");
        WarabandiDesk x = new WarabandiDesk();
        Check.due("EVERY at first", x.setting(4), 1);
        Check.due("BY at first", x.setting(5), 0);
        x = Check.desk("rotate 1 0;");
        Check.due("EVERY of rotate 1 0", x.setting(4), 1);
        Check.due("BY of rotate 1 0", x.setting(5), 0);
        x = Check.desk("rotate 52 7;");
        Check.due("EVERY of rotate 52 7", x.setting(4), 52);
        Check.due("BY of rotate 52 7", x.setting(5), 7);
        wrong("rotate 0 0;", 2);
        wrong("rotate 53 0;", 2);
        wrong("rotate 1 8;", 2);
    }

    private static void mode() {
        Check.says("Terms", "MODE 0, 1 (0).");
        settingBounds("mode", 6, 0, 1, 0);
    }

    private static void weeks() {
        Check.says("Terms", "WEEKS 0 .. 51.");
        String two = ONE + "field b 0 10;";
        WarabandiDesk x = Check.desk(two + "swap 0 a b;swap 51 a b;lend 0 a b 1;lend 51 a b 1;shut 0 0 1;shut 51 0 1;");
        Check.due("roster(0, 0)", x.roster(0, 0), 1);
        Check.due("roster(50, 0)", x.roster(50, 0), 0);
        Check.due("roster(51, 0)", x.roster(51, 0), 1);
        Check.due("roster(52, 0)", x.roster(52, 0), -3);
        Check.due("roster(-1, 0)", x.roster(-1, 0), -3);
        Check.due("inTurn(51, 0, 5)", x.inTurn(51, 0, 5), 5039);
        Check.due("inTurn(51, 1, 9)", x.inTurn(51, 1, 9), 1);
        wrong(two + "swap 52 a b;", 2);
        wrong(two + "lend 52 a b 1;", 2);
        wrong("shut 52 0 1;", 2);
    }
}
