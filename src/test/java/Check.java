/** What the tests of the project share: answers that are due, and texts put on the tape. */
final class Check {
    private static int wrong = 0;
    private static String topic = "";

    private Check() { }

    static void about(String what) {
        topic = what;
    }

    /** Names the place in the document and the sentence whose boundary the next answers are about. */
    static void says(String where, String sentence) {
        about(where + ", \"" + sentence + "\"");
    }

    static void due(String call, long got, long want) {
        if (got != want) {
            wrong++;
            System.out.println(topic + ": " + call + " answered " + got + ", due is " + want);
        }
    }

    static int wrongs() {
        return wrong;
    }

    static void end() {
        System.out.println(wrong == 0 ? "all answers are as due" : wrong + " answers are not as due");
        if (wrong != 0) {
            System.exit(1);
        }
    }

    /** Five ints for each feed() that a text needs, filled up with bytes 0. */
    static int[][] feeds(String text) {
        int[][] rows = new int[(text.length() + 19) / 20][5];
        for (int k = 0; k < text.length(); k++) {
            rows[k / 20][k % 20 / 4] |= (text.charAt(k) & 255) << (24 - 8 * (k % 4));
        }
        return rows;
    }

    static int tell(WarabandiDesk desk, String text) {
        for (int[] row : feeds(text)) {
            desk.feed(row[0], row[1], row[2], row[3], row[4]);
        }
        return desk.tell(text.length());
    }

    /** A new object that was told a text without a fault. */
    static WarabandiDesk desk(String text) {
        WarabandiDesk desk = new WarabandiDesk();
        int lines = tell(desk, text);
        int semicolons = text.length() - text.replace(";", "").length();
        due("tell of \"" + text + "\"", lines, semicolons);
        return desk;
    }
}
