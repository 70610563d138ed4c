import java.nio.charset.StandardCharsets;

/** What the tests share: a hall with texts instead of bytes, and the count of wrong answers. */
final class Dance {
    /** Forms and figures that most tests use. */
    static final String BOOK = "form any1 = 0 0 any; form face = 0 0 n, 0 4 s;\n"
        + "form box = 0 0 any, 4 0 any, 0 4 any, 4 4 any; form pair = 0 0 n lark, 4 0 n robin;\n"
        + "form duo = 0 0 any, 4 0 any;\n"
        + "figure turn on any1 counts 2 price 1 = 0 0 2; figure right on any1 counts 1 price 1 = 0 0 1;\n"
        + "figure pass on face counts 4 price 2 = 0 4 0, 0 0 0;\n"
        + "figure circle on box counts 8 price 3 = 0 4 1, 0 0 1, 4 4 1, 4 0 1;\n"
        + "figure star on box counts 8 price 3 = 4 4 2, 0 4 2, 4 0 2, 0 0 2;\n"
        + "figure trade on pair counts 4 price 2 = 4 0 2, 0 0 2;\n"
        + "figure forward on pair counts 2 price 1 = 0 4 0, 4 4 0;\n"
        + "figure cross on duo counts 3 price 1 = 4 0 0, 0 0 0; figure hold on any1 counts 0 price 0 = 0 0 0;\n"
        + "figure meet on any1 counts 1 price 7 = 4 0 0; figure left on any1 counts 1 price 1 = 0 0 -1;";

    private static int wrong;
    private static int asked;
    private static String said = "";

    final Counted hall = new Counted();

    private Dance() {
    }

    static Dance empty() {
        return new Dance();
    }

    /** A hall that has read BOOK. */
    static Dance ready() {
        Dance dance = new Dance();
        due("load of BOOK", dance.load(BOOK), 0);
        return dance;
    }

    /** A hall that has read BOOK, and a text behind it. */
    static Dance with(String book) {
        Dance dance = ready();
        due("load of " + book, dance.load(book), 0);
        return dance;
    }

    /** The sentence of the document that all answers from here on are due by. */
    static void says(String sentence) {
        said = "[" + sentence + "] ";
    }

    static void due(String what, long got, long want) {
        asked++;
        if (got != want) {
            wrong++;
            System.out.println(said + what + " answered " + got + ", due is " + want);
        }
    }

    static void due(String what, boolean got, boolean want) {
        due(what, got ? 1 : 0, want ? 1 : 0);
    }

    static void due(String what, String got, String want) {
        due(what + ": " + got + " where due is " + want, got.equals(want), true);
    }

    static void finish(String test) {
        System.out.println(test + ": " + asked + " answers, " + wrong + " wrong");
        if (wrong != 0) {
            System.exit(1);
        }
    }

    /** Feeds a text: at first the bytes that do not make twenty, with others behind them that are cut off. */
    void write(String text) {
        byte[] bytes = text.getBytes(StandardCharsets.ISO_8859_1);
        int odd = bytes.length % 20;
        if (odd > 0) {
            int before = hall.about(12);
            feedTwenty(bytes, 0, odd);
            due("end", hall.end(before + odd), true);
        }
        for (int i = odd; i < bytes.length; i += 20) {
            feedTwenty(bytes, i, i + 20);
        }
    }

    private void feedTwenty(byte[] bytes, int from, int to) {
        int[] five = new int[5];
        for (int k = 0; k < 20; k++) {
            int one = from + k < to ? bytes[from + k] & 255 : 0;
            five[k / 4] = five[k / 4] << 8 | one;
        }
        due("feed", hall.feed(five[0], five[1], five[2], five[3], five[4]), true);
    }

    int load(String text) {
        write(text);
        return hall.load();
    }

    int call(String text) {
        write(text);
        return hall.call();
    }

    int named(String text, int sort) {
        write(text);
        return hall.named(sort);
    }

    /** A text that is at fault, at a place. */
    void dueFault(String text, int place, int fault) {
        due("load of " + text, load(text), -2 - place);
        due("fault of " + text, hall.fault(), fault);
    }

    /** A step that is at fault, at a place. */
    void dueCallFault(String text, int place, int fault) {
        due("call of " + text, call(text), -2 - place);
        due("fault of " + text, hall.fault(), fault);
    }

    void dueDancer(int d, int x, int y, int facing, int turned) {
        due("X of " + d, hall.dancer(d, 0), x);
        due("Y of " + d, hall.dancer(d, 1), y);
        due("facing of " + d, hall.dancer(d, 2), facing);
        due("turned of " + d, hall.dancer(d, 3), turned);
    }

    void dueFailed(int why, int who, int other) {
        due("failed(0)", hall.failed(0), why);
        due("failed(1)", hall.failed(1), who);
        due("failed(2)", hall.failed(2), other);
    }

    /** All that is told by calls that change nothing. */
    String state() {
        StringBuilder all = new StringBuilder();
        for (int what = 0; what < 14; what++) {
            all.append(hall.about(what)).append(' ');
        }
        all.append("fault ").append(hall.fault()).append(" failed");
        for (int i = 0; i < 3; i++) {
            all.append(' ').append(hall.failed(i));
        }
        int dancers = hall.about(0);
        for (int d = 0; d < dancers; d++) {
            all.append(", ").append(hall.dancer(d, 0)).append(' ').append(hall.dancer(d, 1)).append(' ')
                .append(hall.dancer(d, 2)).append(' ').append(hall.dancer(d, 3));
        }
        all.append(" rows ").append(hall.rows()).append(" found");
        for (int i = 0; i < 3; i++) {
            all.append(' ').append(hall.found(i));
        }
        return all.toString();
    }

    /**
     * A hall in the midst of all: a run behind the first of its three steps, five steps in the history, a marked aim one
     * step away, a row of two steps whose second is next, a step that failed, and a name on the tape.
     */
    static Dance busy() {
        Dance dance = with("part p { for larks { all right; all turn; } all hold; } allow larks left; allow robins right;"
            + " allow dancer 0 meet;");
        due("call", dance.call("all right"), 0);
        due("begin", dance.hall.begin(0), true);
        due("step", dance.hall.step(), 1);
        dance.hall.mark();
        due("call", dance.call("larks right"), 0);
        due("call", dance.call("robins left"), 0);
        due("resolve", dance.hall.resolve(4), 2);
        due("row", dance.hall.row(1), true);
        due("follow", dance.hall.follow(), 0);
        due("may", dance.hall.may(2), 5);
        dance.write("xyz");
        return dance;
    }

    /** That a busy hall is as it was, also in what shows only when it goes on. */
    void dueGoesOn(String call, String before) {
        due(call + " changes nothing", state(), before);
        due("the row's second step behind " + call, hall.follow(), 0);
        due("the aim behind " + call, hall.about(5), 1);
        due("the row's end behind " + call, hall.follow(), -1);
        due("back behind " + call, hall.back(1), true);
        due("the run's second step behind " + call, hall.step(), 1);
        dueDancer(0, 4, 0, 1, 5);
        dueDancer(1, 8, 0, 1, 1);
        due("the run's third step behind " + call, hall.step(), 1);
        due("the run's end behind " + call, hall.step(), 0);
        due("the steps behind " + call, hall.about(2), 7);
        due("back to the first step behind " + call, hall.back(7), true);
        due("home behind " + call, hall.about(4), 1);
        due("no run behind " + call, hall.about(10), 0);
        due("the tape behind " + call, hall.named(0), -1);
        due("a name on it behind " + call, hall.fault(), 0);
    }

    static String many(String text, int times) {
        return text.repeat(times);
    }
}
