/** The boundary cases that THE TEXT names, with its FAULTS. In a text told here, ^ marks the place of its fault. */
public final class BoundsTextTest {
    private static final String REACH = "reach 1 2 3;";
    private static final String FARMS = "reach 1 2 3;field a 0 5;field b 0 6;";
    private static final String[] WORDS = {"reach", "field", "crop", "flow", "start", "night", "rotate", "mode",
        "swap", "lend", "shut"};

    public static void main(String[] args) {
        linesAndTheirEnds();
        reachLine();
        settingLines();
        nodeToldAhead();
        cropLatest();
        swapsOfAText();
        lendsOfAText();
        shutsOfAText();
        latestCounts();
        fieldToldAhead();
        numbersGoOn();
        wordsGoOn();
        otherBytes();
        blanksBetween();
        blanksNeeded();
        firstFault();
        leastOfOnePlace();
        cannotStand();
        theEnd();
        namesThatCannotStand();
        outOfBounds();
        moreThanFiveDigits();
        wrongNames();
        oneTooMany();
        allStays();
        inPlaceOfAll();
        Check.end();
    }

    private static void fine(String text, int lines) {
        WarabandiDesk x = new WarabandiDesk();
        Check.due("tell of \"" + text + "\"", Check.tell(x, text), lines);
        Check.due("fault(0) of \"" + text + "\"", x.fault(0), 0);
        Check.due("fault(1) of \"" + text + "\"", x.fault(1), -1);
    }

    private static void wrong(int kind, String marked) {
        int place = marked.indexOf('^');
        String text = marked.substring(0, place) + marked.substring(place + 1);
        WarabandiDesk x = new WarabandiDesk();
        Check.due("tell of \"" + text + "\"", Check.tell(x, text), -30 - kind);
        Check.due("fault(0) of \"" + text + "\"", x.fault(0), kind);
        Check.due("fault(1) of \"" + text + "\"", x.fault(1), place);
        Check.due("count(9) behind \"" + text + "\"", x.count(9), 0);
    }

    private static void linesAndTheirEnds() {
        Check.says("THE TEXT", "THE TEXT: { LINE ; }.");
        fine("", 0);
        fine(" ", 0);
        fine("flow 5;", 1);
        fine("flow 5;flow 5;", 2);
        wrong(1, "^;");
        wrong(1, "flow 5;^;");
        wrong(1, "flow 5^");
        wrong(1, "flow 5 ^flow 5;");
        wrong(1, "flow 5;flow 5^");
    }

    private static void reachLine() {
        Check.says("THE TEXT", "reach N N N (FILL, DRAIN, SOAK)");
        WarabandiDesk x = Check.desk("reach 60 0 500;");
        Check.due("FILL", x.reach(0, 0), 60);
        Check.due("DRAIN", x.reach(0, 1), 0);
        Check.due("SOAK", x.reach(0, 2), 500);
        wrong(1, "reach^;");
        wrong(1, "reach 1^;");
        wrong(1, "reach 1 2^;");
        wrong(1, "reach 1 2 3 ^4;");
    }

    private static void settingLines() {
        Check.says("THE TEXT", "flow N | start N | night N N | rotate N N (EVERY, BY) | mode N");
        WarabandiDesk x = Check.desk("flow 999;start 10079;night 23 0;rotate 52 0;mode 1;");
        int[] due = {999, 10079, 23, 0, 52, 0, 1};
        for (int what = 0; what < due.length; what++) {
            Check.due("setting(" + what + ")", x.setting(what), due[what]);
        }
        for (String word : new String[] {"flow", "start", "mode"}) {
            wrong(1, word + "^;");
            wrong(1, word + " 1 ^1;");
        }
        for (String word : new String[] {"night", "rotate"}) {
            wrong(1, word + "^;");
            wrong(1, word + " 1^;");
            wrong(1, word + " 1 1 ^1;");
        }
    }

    private static void nodeToldAhead() {
        Check.says("THE TEXT", "field NAME N N (NODE of a REACH told ahead, LAND)");
        wrong(2, "field a ^0 5;");
        wrong(2, "field a ^0 5;reach 1 2 3;");
        fine(REACH + "field a 0 5;", 2);
        wrong(2, REACH + "field a ^1 5;");
        wrong(2, REACH + "field a ^1 5;" + REACH);
        fine(REACH + REACH + "field a 1 5;", 3);
        fine(REACH.repeat(10) + "field a 9 5;", 11);
        wrong(2, REACH.repeat(10) + "field a ^10 5;");
        wrong(2, REACH + "field a 0 ^0;");
        wrong(2, REACH + "field a 0 ^1000;");
    }

    private static void cropLatest() {
        Check.says("THE TEXT", "crop F N N (STORE, USE; the latest counts)");
        WarabandiDesk x = Check.desk(FARMS + "crop a 9999 9999;crop b 7 8;crop a 0 1;");
        Check.due("field(0, 2)", x.field(0, 2), 0);
        Check.due("field(0, 3)", x.field(0, 3), 1);
        Check.due("field(1, 2)", x.field(1, 2), 7);
        Check.due("field(1, 3)", x.field(1, 3), 8);
        fine(FARMS + "crop a 1 1;".repeat(60), 63);
        wrong(2, FARMS + "crop a ^10000 0;");
        wrong(2, FARMS + "crop a 0 ^10000;");
    }

    private static void swapsOfAText() {
        Check.says("THE TEXT", "swap N F F (WEEK, two unlike FIELDS; 12 at most)");
        fine(FARMS + "swap 0 a b;swap 51 b a;", 5);
        fine(FARMS + "swap 0 a b;".repeat(12), 15);
        wrong(4, FARMS + "swap 0 a b;".repeat(12) + "^swap 0 a b;");
        wrong(3, FARMS + "swap 0 a ^a;");
        wrong(2, FARMS + "swap ^52 a b;");
    }

    private static void lendsOfAText() {
        Check.says("THE TEXT", "lend N F F N (WEEK, from whom, to whom, minutes 1 to 999; 12 at most)");
        fine(FARMS + "lend 0 a b 1;lend 51 b a 999;", 5);
        fine(FARMS + "lend 0 a b 1;".repeat(12), 15);
        wrong(4, FARMS + "lend 0 a b 1;".repeat(12) + "^lend 0 a b 1;");
        wrong(3, FARMS + "lend 0 b ^b 1;");
        wrong(2, FARMS + "lend ^52 a b 1;");
        wrong(2, FARMS + "lend 0 a b ^0;");
        wrong(2, FARMS + "lend 0 a b ^1000;");
        WarabandiDesk x = Check.desk(FARMS + "lend 0 a b 7;");
        Check.due("from whom", x.balance(0, 0, 1), 100007);
        Check.due("to whom", x.balance(0, 1, 0), 99993);
    }

    private static void shutsOfAText() {
        Check.says("THE TEXT", "shut N N N (WEEK, from minute 0 to 10079, to a minute above that, 10080 at most; 6 at most)");
        fine("shut 0 0 1;shut 51 10079 10080;shut 0 0 10080;", 3);
        wrong(2, "shut ^52 0 1;");
        wrong(2, "shut 0 ^10080 10080;");
        wrong(2, "shut 0 0 ^0;");
        wrong(2, "shut 0 9 ^9;");
        wrong(2, "shut 0 9 ^8;");
        wrong(2, "shut 0 10079 ^10079;");
        wrong(2, "shut 0 10079 ^10081;");
        fine("shut 0 0 1;".repeat(6), 6);
        wrong(4, "shut 0 0 1;".repeat(6) + "^shut 0 0 1;");
    }

    private static void latestCounts() {
        Check.says("THE TEXT", "flow, start, night, rotate, mode: the latest counts.");
        WarabandiDesk x = Check.desk("flow 999;start 10079;night 23 22;rotate 52 7;mode 1;"
                + "flow 1;start 0;night 0 1;rotate 1 0;mode 0;");
        int[] due = {1, 0, 0, 1, 1, 0, 0};
        for (int what = 0; what < due.length; what++) {
            Check.due("setting(" + what + ")", x.setting(what), due[what]);
        }
        for (String line : new String[] {"flow 7;", "start 7;", "night 7 8;", "rotate 7 7;", "mode 1;"}) {
            fine(line.repeat(60), 60);
        }
    }

    private static void fieldToldAhead() {
        Check.says("THE TEXT", "F: NAME of a FIELD told ahead.");
        wrong(3, REACH + "crop ^a 1 1;field a 0 5;");
        wrong(3, REACH + "field b 0 5;swap 0 ^a b;field a 0 5;");
        wrong(3, REACH + "field b 0 5;swap 0 b ^a;field a 0 5;");
        wrong(3, REACH + "field b 0 5;lend 0 ^a b 1;field a 0 5;");
        wrong(3, REACH + "field b 0 5;lend 0 b ^a 1;field a 0 5;");
        WarabandiDesk x = Check.desk(FARMS);
        // a FIELD of the text before is none of this text
        Check.due("tell", Check.tell(x, REACH + "crop a 1 1;"), -33);
        Check.due("fault(1)", x.fault(1), 17);
    }

    private static void numbersGoOn() {
        Check.says("THE TEXT", "Numbers (digits, as long as they go on)");
        Check.due("flow 123", Check.desk("flow 123;").setting(0), 123);
        Check.due("flow 00009", Check.desk("flow 00009;").setting(0), 9);
        wrong(1, "flow 12 ^3;");
        wrong(2, "flow ^1234;");
        wrong(1, "reach 12 3^;");
        wrong(1, "flow 5^/;");
        wrong(1, "flow 5^:;");
        wrong(1, "flow ^/;");
        wrong(1, "flow ^:;");
    }

    private static void wordsGoOn() {
        Check.says("THE TEXT", "words (small letters, likewise)");
        wrong(1, "^flowflow 5;");
        wrong(1, "^flo 5;");
        wrong(1, "^flo w 5;");
        wrong(1, "^low 5;");
        wrong(1, "flow^`5;");
        wrong(1, "flow^{5;");
        wrong(1, "^Flow 5;");
        wrong(1, "^floW 5;");
        WarabandiDesk x = Check.desk(REACH + "field az 0 5;field za 0 5;");
        Check.due("name(0, 0)", x.name(0, 0), 1);
        Check.due("name(0, 1)", x.name(0, 1), 26);
    }

    private static void otherBytes() {
        Check.says("THE TEXT", "other bytes one by one");
        for (int b = 0; b < 256; b++) {
            boolean isOther = b != ' ' && b != ';' && b != '^' && !(b >= '0' && b <= '9') && !(b >= 'a' && b <= 'z');
            if (isOther) {
                char c = (char) b;
                wrong(1, "^" + c + "flow 5;");
                wrong(1, "flow ^" + c + "5;");
                wrong(1, "flow 5^" + c + ";");
                wrong(1, "flow 5;^" + c + c);
            }
        }
        wrong(1, "flow 5;^;;");
    }

    private static void blanksBetween() {
        Check.says("THE TEXT", "blanks (32) may stand between all");
        fine("   flow   5   ;   ", 1);
        fine(" reach  1   2    3 ;field a  0 5  ; ", 2);
        fine(" ".repeat(800), 0);
        fine(" ".repeat(793) + "flow 5;", 1);
        fine("flow 5;" + " ".repeat(793), 1);
        fine("flow" + " ".repeat(794) + "5;", 1);
        // none at all where a word and a number meet
        fine("reach1 2 3;field a0 5;field b0 6;crop a1 2;swap0a b;lend0a b1;shut0 1 2;flow5;mode1;", 9);
        wrong(1, "flow^\t5;");
        wrong(1, "flow^\n5;");
        wrong(1, "flow^\u00005;");
        wrong(1, "flow^\u00a05;");
    }

    private static void blanksNeeded() {
        Check.says("THE TEXT", "one at least between two words, two numbers");
        wrong(1, REACH + "^fielda 0 5;");
        wrong(3, FARMS + "swap 0 ^ab;");
        wrong(1, "reach 1 23^;");
        wrong(1, "night 12^;");
        fine("night 1 2;", 1);
        fine(FARMS + "swap 0 a b;", 4);
    }

    private static void firstFault() {
        Check.says("THE TEXT", "FAULTS, the first along THE TEXT");
        wrong(2, "flow ^0;;");
        wrong(2, "flow ^0x;");
        wrong(1, "^x;flow 0;");
        wrong(1, "flow 5^x;flow 0;");
        wrong(3, REACH + "field a 0 5;field ^a 9 0");
        wrong(2, REACH + "field a ^9 0;field a 0 5;");
        wrong(4, REACH.repeat(10) + "^reach 99 99 999");
        wrong(4, "shut 0 1 2;".repeat(6) + "^shut");
        wrong(4, FARMS + "swap 0 a b;".repeat(12) + "^swap 99 x x;");
        wrong(4, FARMS + "lend 0 a b 1;".repeat(12) + "^lend 99 x x 0;");
        wrong(2, "shut 0 ^10080 1;");
        wrong(2, FARMS + "lend ^52 a a 0;");
        wrong(3, FARMS + "lend 51 a ^a 0;");
        wrong(2, FARMS + "lend 51 a b ^0");
    }

    private static void leastOfOnePlace() {
        Check.says("THE TEXT", "(of one place the least)");
        // a word told here, or one of more than 8 letters, is the NAME of no FIELD, too
        wrong(1, FARMS + "crop ^swap 1 1;");
        wrong(1, FARMS + "crop ^abcdefghi 1 1;");
        wrong(1, FARMS + "swap 0 a ^lend;");
        wrong(1, FARMS + "lend 0 ^reach b 1;");
        // its first 8 letters are a NAME told already
        wrong(1, REACH + "field abcdefgh 0 5;field ^abcdefghi 0 5;");
        wrong(1, REACH + "field abcdefgh 0 5;crop ^abcdefghi 0 5;");
    }

    private static void cannotStand() {
        Check.says("THE TEXT", "1 what can't stand there (at it");
        wrong(1, "^5;");
        wrong(1, "^a;");
        wrong(1, "^a 0 5;");
        wrong(1, "  ^5;");
        wrong(1, "flow ^flow;");
        wrong(1, "flow ^;");
        wrong(1, "flow 5 ^5;");
        wrong(1, "flow 5 ^a;");
        wrong(1, "flow ^-5;");
        wrong(1, "flow ^+5;");
        wrong(1, "flow 5^.5;");
        wrong(1, "reach 1 2 3 ^4;");
        wrong(1, "reach 1 2^;");
        wrong(1, "reach 1 ^;");
        wrong(1, "night 1^;");
        wrong(1, "night 1 2 ^3;");
        wrong(1, "rotate 1^;");
        wrong(1, "rotate 1 2 ^3;");
        wrong(1, "start^;");
        wrong(1, "mode ^a;");
        wrong(1, "shut 1 2^;");
        wrong(1, "shut 1 2 3 ^4;");
        wrong(1, REACH + "field ^5 0 5;");
        wrong(1, REACH + "field a ^b 5;");
        wrong(1, REACH + "field a 0^;");
        wrong(1, REACH + "field a 0 5 ^5;");
        wrong(1, FARMS + "crop ^1 1;");
        wrong(1, FARMS + "crop a^;");
        wrong(1, FARMS + "crop a 1^;");
        wrong(1, FARMS + "swap ^a b;");
        wrong(1, FARMS + "swap 0 a^;");
        wrong(1, FARMS + "swap 0 a b ^b;");
        wrong(1, FARMS + "lend 0 a ^5;");
        wrong(1, FARMS + "lend 0 a b^;");
        wrong(1, FARMS + "lend 0 a b 5 ^5;");
    }

    private static void theEnd() {
        Check.says("THE TEXT", "the end: how many bytes there are");
        for (String line : new String[] {"reach 1 2 3", "field c 0 5", "crop a 1 2", "flow 5", "start 5", "night 1 2",
            "rotate 1 2", "mode 1", "swap 0 a b", "lend 0 a b 5", "shut 0 1 2"}) {
            // cut off behind each of its parts, with blanks behind that and without
            for (int cut = line.indexOf(' '); cut > 0; cut = line.indexOf(' ', cut + 1)) {
                wrong(1, FARMS + line.substring(0, cut) + "^");
                wrong(1, FARMS + line.substring(0, cut) + " ^");
                wrong(1, FARMS + line.substring(0, cut) + "    ^");
            }
            wrong(1, FARMS + line + "^");
            wrong(1, FARMS + line + "   ^");
        }
        // what is on THE TAPE behind the first n bytes is not there
        WarabandiDesk x = new WarabandiDesk();
        x.feed(0x666c6f77, 0x20353b20, 0x666c6f77, 0x20363b20, 0x20202020);
        Check.due("tell(14) of \"flow 5; flow 6;\"", x.tell(14), -31);
        Check.due("fault(1)", x.fault(1), 14);
        // a text of all that THE TAPE can hold
        x = new WarabandiDesk();
        Check.due("tell of 800 bytes", Check.tell(x, " ".repeat(796) + "flow"), -31);
        Check.due("fault(1)", x.fault(1), 800);
    }

    private static void namesThatCannotStand() {
        Check.says("THE TEXT", "a NAME that is one of the words told here, or has more than 8 letters)");
        for (String word : WORDS) {
            wrong(1, REACH + "field ^" + word + " 0 5;");
            wrong(1, FARMS + "crop ^" + word + " 0 5;");
            wrong(1, FARMS + "swap 0 ^" + word + " a;");
            wrong(1, FARMS + "swap 0 a ^" + word + ";");
            wrong(1, FARMS + "lend 0 ^" + word + " a 5;");
            wrong(1, FARMS + "lend 0 a ^" + word + " 5;");
            // one letter more, or another one at either end, makes it a NAME, and no word of a LINE
            fine(REACH + "field " + word + "s 0 5;", 2);
            fine(REACH + "field x" + word.substring(1) + " 0 5;", 2);
            fine(REACH + "field " + word.substring(0, word.length() - 1) + "x 0 5;", 2);
            wrong(1, "^x" + word.substring(1) + " 1 1 1;");
            wrong(1, "^" + word.substring(0, word.length() - 1) + "x 1 1 1;");
        }
        fine(REACH + "field abcdefgh 0 5;", 2);
        wrong(1, REACH + "field ^abcdefghi 0 5;");
        wrong(1, REACH + "field ^" + "a".repeat(700) + " 0 5;");
        wrong(1, FARMS + "swap 0 ^abcdefghi a;");
        wrong(1, FARMS + "lend 0 a ^abcdefghi 5;");
        fine(REACH + "field name 0 5;field text 0 5;field water 0 5;field turn 0 5;field line 0 5;", 6);
    }

    private static void outOfBounds() {
        Check.says("THE TEXT", "2 a number out of its bounds");
        String[] bounds = {"reach # 0 0;0 60", "reach 0 # 0;0 60", "reach 0 0 #;0 500", "flow #;1 999",
            "start #;0 10079", "night # 0;0 23", "night 0 #;0 23", "rotate # 0;1 52", "rotate 1 #;0 7", "mode #;0 1",
            FARMS + "field c # 5;0 0", FARMS + "field c 0 #;1 999", FARMS + "crop a # 0;0 9999",
            FARMS + "crop a 0 #;0 9999", FARMS + "swap # a b;0 51", FARMS + "lend # a b 1;0 51",
            FARMS + "lend 0 a b #;1 999", "shut # 0 1;0 51", "shut 0 # 10080;0 10079", "shut 0 4 #;5 10080"};
        for (String row : bounds) {
            int end = row.lastIndexOf(';') + 1;
            String text = row.substring(0, end);
            int low = Integer.parseInt(row.substring(end).split(" ")[0]);
            int high = Integer.parseInt(row.substring(end).split(" ")[1]);
            int lines = text.length() - text.replace(";", "").length();
            fine(text.replace("#", "" + low), lines);
            fine(text.replace("#", "" + high), lines);
            wrong(2, text.replace("#", "^" + (high + 1)));
            wrong(2, text.replace("#", "^99999"));
            if (low > 0) {
                wrong(2, text.replace("#", "^" + (low - 1)));
            }
        }
    }

    private static void moreThanFiveDigits() {
        Check.says("THE TEXT", "of more than five digits (at its first byte)");
        fine("flow 00060;", 1);
        wrong(2, "flow ^000060;");
        wrong(2, "reach 1 ^000002 3;");
        // 60 and 2 to the power of 32, of 64
        wrong(2, "flow ^4294967356;");
        wrong(2, "flow ^18446744073709551676;");
        wrong(2, "flow ^" + "0".repeat(790) + ";");
        wrong(2, "flow ^" + "9".repeat(790) + ";");
        wrong(2, "mode ^100000;");
        wrong(2, "mode ^000000;");
    }

    private static void wrongNames() {
        Check.says("THE TEXT", "3 a NAME told already, of no FIELD, the same one twice (at it)");
        wrong(3, FARMS + "field ^a 0 5;");
        wrong(3, FARMS + "field ^b 0 5;");
        wrong(3, FARMS + "crop ^c 0 5;");
        wrong(3, FARMS + "crop ^aa 0 5;");
        wrong(3, "crop ^a 0 5;");
        wrong(3, FARMS + "swap 0 ^c a;");
        wrong(3, FARMS + "swap 0 a ^c;");
        wrong(3, FARMS + "swap 0 a ^a;");
        wrong(3, FARMS + "swap 0 b ^b;");
        wrong(3, FARMS + "lend 0 ^c a 5;");
        wrong(3, FARMS + "lend 0 a ^c 5;");
        wrong(3, FARMS + "lend 0 a ^a 5;");
        wrong(3, FARMS + "swap 0 ^c c;");
    }

    private static void oneTooMany() {
        Check.says("THE TEXT", "4 one too many of a kind (at the word reach, field, swap, lend, shut)");
        fine("reach 0 0 0;".repeat(10), 10);
        wrong(4, "reach 0 0 0;".repeat(10) + "  ^reach 0 0 0;");
        StringBuilder eight = new StringBuilder(REACH);
        for (char c = 'a'; c <= 'h'; c++) {
            eight.append("field ").append(c).append(" 0 1;");
        }
        fine(eight.toString(), 9);
        wrong(4, eight + "^field i 0 1;");
        wrong(4, eight + "^field a 0 1;");
        wrong(4, FARMS + "swap 0 a b;".repeat(12) + " ^swap 1 a b;");
        wrong(4, FARMS + "lend 0 a b 5;".repeat(12) + " ^lend 1 a b 5;");
        wrong(4, "shut 0 1 2;".repeat(6) + " ^shut 1 1 2;");
        // as many of each kind as there can be, in one text
        fine(FARMS + "swap 0 a b;".repeat(12) + "lend 0 a b 5;".repeat(12) + "shut 0 1 2;".repeat(6), 33);
    }

    private static void allStays() {
        Check.says("THE TEXT", "With a FAULT all stays.");
        String before = "reach 9 8 7;field k 0 66;field l 0 4;crop k 5 6;flow 77;start 8;night 9 10;rotate 11 2;mode 1;"
                + "swap 0 k l;lend 0 l k 3;shut 0 4 5;";
        for (String text : new String[] {"reach 1 1 1;field z 0 5;crop z 1 1;flow 1;start 1;night 1 1;rotate 1 1;mode 0;x",
            "x", ";", "flow 5", "reach 1 1 1;field z 0 5;field z 0 5;", "flow 0;"}) {
            WarabandiDesk x = Check.desk(before);
            x.land(1, 40);
            Check.due("is refused: \"" + text + "\"", Check.tell(x, text) < -30 ? 1 : 0, 1);
            Whole.same("behind \"" + text + "\"", x, () -> {
                WarabandiDesk y = Check.desk(before);
                y.land(1, 40);
                return y;
            });
        }
    }

    private static void inPlaceOfAll() {
        Check.says("THE TEXT", "THE TEXT is in place of all that was told ahead.");
        String before = "reach 9 8 7;reach 1 1 1;field k 1 66;field l 0 4;crop k 5 6;flow 77;start 8;night 9 10;"
                + "rotate 11 2;mode 1;swap 0 k l;lend 0 l k 3;shut 0 4 5;";
        for (String text : new String[] {"", "  ", "flow 5;", "reach 1 2 3;field a 0 5;", "shut 51 0 1;"}) {
            WarabandiDesk x = Check.desk(before);
            x.move(0, 1);
            x.line(0);
            x.swap(1, 0, 1);
            x.land(0, 9);
            Check.due("is taken: \"" + text + "\"", Check.tell(x, text) >= 0 ? 1 : 0, 1);
            Whole.same("behind \"" + text + "\"", x, () -> Check.desk(text));
        }
    }
}
