/** Promise 4 load and what a BOOK may be: each sentence that names a limit of its numbers and rows. */
public final class EdgeBookTest {
    public static void main(String[] args) {
        anyNumberOfThese();
        slots();
        placesOfSlots();
        directions();
        larkOrRobin();
        noTwoAtOnePlace();
        slotsFromZero();
        counts();
        price();
        asManyTo();
        goals();
        turns();
        noStatement();
        times();
        elseMayBeMissing();
        atMostFour();
        couples();
        dancers();
        facings();
        countIs();
        belongsToTheWho();
        partedByOrAndAnd();
        Dance.finish("EdgeBookTest");
    }

    /** Loads a text into a hall that knows BOOK; a fault of 0 is none. */
    private static void dueLoad(String text, int place, int fault) {
        Dance d = Dance.ready();
        Dance.due("load of " + text, d.load(text), fault == 0 ? 0 : -2 - place);
        Dance.due("fault of " + text, d.hall.fault(), fault);
    }

    /** The same text with a number that is as told, or is not: then at fault at it, by 4. */
    private static void dueRange(String ahead, String behind, int least, int most) {
        int[] good = {least, most, (least + most) / 2};
        for (int number : good) {
            dueLoad(ahead + number + behind, 0, 0);
        }
        int[] wrong = {least - 1, most + 1, -99999, 99999};
        for (int number : wrong) {
            dueLoad(ahead + number + behind, ahead.length(), 4);
        }
        String[] none = {"n", "box", "@", ";"};
        for (String other : none) {
            dueLoad(ahead + other + behind, ahead.length(), 1);
        }
    }

    private static void anyNumberOfThese() {
        Dance.says("BOOK: any number of these, one behind the other.");
        Dance d = Dance.empty();
        Dance.due("none", d.load(""), 0);
        Dance.due("one", d.load("form a=0 0 any;"), 0);
        Dance.due("several", d.load("part p{}figure f on a counts 0 price 0=0 0 0;allow all f;form b=0 0 n;part q{do p;}"), 0);
        Dance.due("forms", d.hall.about(6), 2);
        Dance.due("figures", d.hall.about(7), 1);
        Dance.due("parts", d.hall.about(8), 2);
        Dance.due("allows", d.hall.about(9), 1);
        Dance.due("none more", d.load(" "), 0);
        Dance.due("forms stay", d.hall.about(6), 2);
        d.dueFault("form c=0 0 n;;", 13, 1);
        d.dueFault("form c=0 0 n;}", 13, 1);
        d.dueFault("form c=0 0 n; all f;", 14, 1);
        d.dueFault("form c=0 0 n; c", 14, 1);
        d.dueFault("form c=0 0 n; 5", 14, 1);
    }

    private static String row(int slots) {
        StringBuilder text = new StringBuilder();
        for (int i = 0; i < slots; i++) {
            text.append(i == 0 ? "" : ",").append("0 ").append(i).append(" n");
        }
        return text.toString();
    }

    private static void slots() {
        Dance.says("form NAME = SLOT , .. ; with 1 to 8 SLOTS");
        dueLoad("form q =;", 8, 1);
        for (int n = 1; n <= 8; n++) {
            dueLoad("form q =" + row(n) + ";", 0, 0);
            dueLoad("form q =" + row(n) + ",;", 9 + row(n).length(), 1);
        }
        dueLoad("form q =" + row(9) + ";", 9 + row(8).length(), 5);
        dueLoad("form q =" + row(8) + ",;", 9 + row(8).length(), 1);
        dueLoad("form q =" + row(8) + " 0 8 n;", 9 + row(8).length(), 1);
    }

    private static void placesOfSlots() {
        Dance.says("X and Y -32 .. 32");
        dueRange("form q = ", " 0 n;", -32, 32);
        dueRange("form q = 0 ", " n;", -32, 32);
        dueRange("form q = 0 0 n, ", " 1 n;", -32, 32);
        dueRange("form q = 0 0 n, 1 ", " n;", -32, 32);
    }

    private static void directions() {
        Dance.says("DIRECTION n (up) e (right) s (down) w (left) any");
        String[] good = {"n", "e", "s", "w", "any"};
        for (String direction : good) {
            dueLoad("form q = 0 0 " + direction + ";", 0, 0);
        }
        String[] none = {"N", "north", "all", "lark", "box", "0", ";", ",", "on"};
        for (String other : none) {
            dueLoad("form q = 0 0 " + other + ";", 13, 1);
        }
        // a copy that is not turned, told by who stands in it
        Dance d = Dance.with("form up = 0 0 n, 4 0 any; form rt = 0 0 e, 4 0 any;");
        d.hall.set(2, 1);
        Dance.due("up", d.call("at up 0 right"), 0);
        d.dueDancer(0, 0, 0, 1, 1);
        d.dueDancer(1, 4, 0, 0, 0);
        Dance.due("right", d.call("at rt 0 right"), 0);
        d.dueDancer(0, 0, 0, 2, 2);
        d.dueDancer(1, 4, 0, 0, 0);
    }

    private static void larkOrRobin() {
        Dance.says("[ lark or robin ]");
        dueLoad("form q = 0 0 n lark;", 0, 0);
        dueLoad("form q = 0 0 n robin, 0 1 n;", 0, 0);
        dueLoad("form q = 0 0 any lark, 0 1 any robin;", 0, 0);
        String[] none = {"larks", "robins", "any", "n", "Lark", "5"};
        for (String other : none) {
            dueLoad("form q = 0 0 n " + other + ";", 15, 1);
        }
        dueLoad("form q = 0 0 n lark robin;", 20, 1);
        dueLoad("form q = 0 0 n lark lark;", 20, 1);
        dueLoad("form q = 0 0 lark n;", 13, 1);
    }

    private static void noTwoAtOnePlace() {
        Dance.says("No two at one place.");
        dueLoad("form q = 4 8 n, 8 4 n;", 0, 0);
        dueLoad("form q = 4 8 n, 4 9 n, 5 8 n;", 0, 0);
        dueLoad("form q = 4 8 n, -4 -8 n, 4 -8 n, -4 8 n;", 0, 0);
        dueLoad("form q = 4 8 n, 4 8 n;", 18, 7);
        dueLoad("form q = 4 8 n lark, 4 8 s robin;", 23, 7);
        dueLoad("form q = 0 0 n, -0 -0 n;", 19, 7);
        dueLoad("form q =" + row(7) + ",0 6 n;", 11 + row(7).length(), 7);
        dueLoad("form q =" + row(7) + ",0 0 n;", 11 + row(7).length(), 7);
        dueLoad("form q = 32 32 n, 32 32 n;", 21, 7);
        dueLoad("form q = 0 0 n; form r = 0 0 n;", 0, 0);
    }

    private static void slotsFromZero() {
        Dance.says("They are numbered from 0; at FORM NUMBER (one of its slots)");
        for (int n = 1; n <= 8; n++) {
            String form = "form q =" + row(n) + ";";
            dueLoad(form + "allow at q 0 turn;", 0, 0);
            dueLoad(form + "allow at q " + (n - 1) + " turn;", 0, 0);
            dueLoad(form + "allow at q " + n + " turn;", form.length() + 11, 4);
            dueLoad(form + "allow at q -1 turn;", form.length() + 11, 4);
        }
        dueLoad("allow at box turn;", 13, 1);
        dueLoad("allow at turn 0 turn;", 9, 2);
        dueLoad("allow at 0 turn;", 9, 1);
        // a form that was told by less slots ahead of it, and by more behind it, keeps its own
        dueLoad("allow at duo 1 turn;", 0, 0);
        dueLoad("allow at duo 2 turn;", 13, 4);
    }

    private static void counts() {
        Dance.says("counts 0 .. 64");
        dueRange("figure q on any1 counts ", " price 1 = 0 0 0;", 0, 64);
    }

    private static void price() {
        Dance.says("price 0 .. 1000");
        dueRange("figure q on any1 counts 1 price ", " = 0 0 0;", 0, 1000);
    }

    private static String goals(int n) {
        StringBuilder text = new StringBuilder();
        for (int i = 0; i < n; i++) {
            text.append(i == 0 ? "" : ",").append("0 0 0");
        }
        return text.toString();
    }

    private static void asManyTo() {
        Dance.says("as many TO as the form has slots; 6 the , ahead of one TO too many, the ; behind too few");
        for (int n = 1; n <= 8; n++) {
            String head = "form q =" + row(n) + ";figure f on q counts 1 price 1 =";
            dueLoad(head + goals(n) + ";", 0, 0);
            dueLoad(head + goals(n + 1) + ";", head.length() + goals(n).length(), 6);
            dueLoad(head + goals(n) + ",", head.length() + goals(n).length(), 6);
            dueLoad(head + goals(n) + "@", head.length() + goals(n).length(), 1);
            dueLoad(head + ";", head.length(), 1);
            for (int few = 1; few < n; few++) {
                dueLoad(head + goals(few) + ";", head.length() + goals(few).length(), 6);
                dueLoad(head + goals(few) + ",;", head.length() + goals(few).length() + 1, 1);
                dueLoad(head + goals(few), head.length() + goals(few).length(), 1);
            }
        }
        dueLoad("figure f on duo counts 1 price 1 = 0 0 0 0;", 41, 1);
        dueLoad("figure f on duo counts 1 price 1 = 0 0;", 38, 1);
    }

    private static void goals() {
        Dance.says("NUMBER NUMBER NUMBER: X, Y -32 .. 32");
        dueRange("figure q on duo counts 1 price 1 = ", " 0 0, 0 0 0;", -32, 32);
        dueRange("figure q on duo counts 1 price 1 = 0 ", " 0, 0 0 0;", -32, 32);
        dueRange("figure q on duo counts 1 price 1 = 0 0 0, ", " 0 0;", -32, 32);
        dueRange("figure q on duo counts 1 price 1 = 0 0 0, 0 ", " 0;", -32, 32);
        // two TO may be one place: that is told when it is danced
        dueLoad("figure q on duo counts 1 price 1 = 0 0 0, 0 0 0;", 0, 0);
    }

    private static void turns() {
        Dance.says("a turn -8 .. 8");
        dueRange("figure q on duo counts 1 price 1 = 0 0 ", ", 0 0 0;", -8, 8);
        dueRange("figure q on duo counts 1 price 1 = 0 0 0, 0 0 ", ";", -8, 8);
    }

    private static void noStatement() {
        Dance.says("part NAME { STATEMENT .. } (also none.)");
        dueLoad("part q { }", 0, 0);
        dueLoad("part q { repeat 1 { } until home most 1 { } if home { } else { } for all { } }", 0, 0);
        dueLoad("part q", 6, 1);
        dueLoad("part q;", 6, 1);
        dueLoad("part q { ; }", 9, 1);
        dueLoad("part q { } }", 11, 1);
        dueLoad("part { }", 5, 1);
        Dance d = Dance.with("part q { } part r { do q; repeat 2 { } }");
        Dance.due("begin", d.hall.begin(0), true);
        Dance.due("its end at once", d.hall.step(), 0);
        Dance.due("begin", d.hall.begin(1), true);
        Dance.due("its end at once", d.hall.step(), 0);
    }

    private static void times() {
        Dance.says("repeat NUMBER, until CONDITION most NUMBER (numbers 1 .. 64.)");
        dueRange("part q { repeat ", " { } }", 1, 64);
        dueRange("part q { until home most ", " { } }", 1, 64);
        dueLoad("part q { repeat { } }", 16, 1);
        dueLoad("part q { until home most { } }", 25, 1);
        dueLoad("part q { repeat 1; }", 17, 1);
        dueLoad("part q { repeat 1 { };", 21, 1);
    }

    private static void elseMayBeMissing() {
        Dance.says("if CONDITION { STATEMENT .. } [ else { STATEMENT .. } ]");
        dueLoad("part q { if home { } }", 0, 0);
        dueLoad("part q { if home { } else { } }", 0, 0);
        dueLoad("part q { if home { } else { } else { } }", 30, 1);
        dueLoad("part q { else { } }", 9, 1);
        dueLoad("part q { if home { } else if home { } }", 26, 1);
        dueLoad("part q { if home else { } }", 17, 1);
        dueLoad("part q { until home most 1 { } else { } }", 31, 1);
    }

    private static void atMostFour() {
        Dance.says("STEP: WHO FIGURE & .. , at most four of these.");
        for (int n = 1; n <= 4; n++) {
            String step = "all hold" + Dance.many(" & all hold", n - 1);
            dueLoad("allow " + step + ";", 0, 0);
            dueLoad("part q { " + step + "; }", 0, 0);
            Dance d = Dance.ready();
            Dance.due("call of " + step, d.call(step), n == 1 ? 0 : 2);
        }
        String four = "all hold" + Dance.many(" & all hold", 3);
        dueLoad("allow " + four + " & all hold;", 7 + four.length(), 5);
        dueLoad("allow " + four + " &", 7 + four.length(), 5);
        dueLoad("part q { " + four + " & all hold; }", 10 + four.length(), 5);
        Dance d = Dance.ready();
        d.dueCallFault(four + " & all hold", 1 + four.length(), 5);
        d.dueCallFault(four + " & @", 1 + four.length(), 5);
        d.dueCallFault("all hold &", 10, 1);
        // each STEP has four of its own
        dueLoad("part q { " + four + "; " + four + "; } allow " + four + "; allow " + four + ";", 0, 0);
    }

    private static void couples() {
        Dance.says("couple NUMBER (0 .. 31)");
        dueRange("allow couple ", " turn;", 0, 31);
        dueRange("part q { if count couple ", " is 0 { } }", 0, 31);
    }

    private static void dancers() {
        Dance.says("dancer NUMBER (0 .. 63)");
        dueRange("allow dancer ", " turn;", 0, 63);
        dueRange("part q { for dancer ", " { } }", 0, 63);
    }

    private static void facings() {
        Dance.says("facing n e s or w");
        String[] good = {"n", "e", "s", "w"};
        for (String facing : good) {
            dueLoad("allow facing " + facing + " turn;", 0, 0);
        }
        String[] none = {"any", "lark", "0", "N", "turn", "all"};
        for (String other : none) {
            dueLoad("allow facing " + other + " turn;", 13, 1);
        }
    }

    private static void countIs() {
        Dance.says("count WHO is NUMBER (0 .. 64)");
        dueRange("part q { if count all is ", " { } }", 0, 64);
        dueRange("part q { until count all is ", " most 1 { } }", 0, 64);
        dueLoad("part q { if count all { } }", 22, 1);
        dueLoad("part q { if count is 5 { } }", 18, 1);
    }

    private static void belongsToTheWho() {
        Dance.says("(An or, an and behind a WHO belongs to it.)");
        dueLoad("part q { if forms box all and home { } }", 30, 1);
        dueLoad("part q { if forms box all or home { } }", 29, 1);
        dueLoad("part q { if forms box all or (home) { } }", 30, 1);
        dueLoad("part q { if (forms box all) or home { } }", 0, 0);
        dueLoad("part q { if forms box all or larks and heads { } }", 0, 0);
        dueLoad("part q { if home or forms box all and larks { } }", 0, 0);
        dueLoad("part q { if count all or larks is 8 or home { } }", 0, 0);
        dueLoad("part q { if count all or home is 8 { } }", 25, 1);
        dueLoad("part q { if not forms box all or home { } }", 33, 1);
        // all or (larks and robins) are 8, of whom none is beside the WHO
        Dance d = Dance.with("part q { if count all or larks and robins is 8 { all hold; } }");
        Dance.due("begin", d.hall.begin(0), true);
        Dance.due("step", d.hall.step(), 1);
    }

    private static void partedByOrAndAnd() {
        Dance.says("WHO: parted by or: parted by and: ONE");
        dueLoad("allow all or all and all or all turn;", 0, 0);
        dueLoad("allow all or turn;", 13, 1);
        dueLoad("allow all and turn;", 14, 1);
        dueLoad("allow or all turn;", 6, 1);
        dueLoad("allow all all turn;", 10, 1);
        dueLoad("allow not turn;", 10, 1);
        dueLoad("allow () turn;", 7, 1);
        dueLoad("allow (all turn;", 11, 1);
        dueLoad("allow all) turn;", 9, 1);
        dueLoad("allow home turn;", 6, 1);
        dueLoad("part q { if home home { } }", 17, 1);
        dueLoad("part q { if all { } }", 12, 1);
        dueLoad("part q { if () { } }", 13, 1);
        dueLoad("part q { if not { } }", 16, 1);
        dueLoad("part q { if home or { } }", 20, 1);
        dueLoad("part q { if not (home and not home) or home { } }", 0, 0);
    }
}
