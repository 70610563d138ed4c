import java.util.ArrayList;
import java.util.List;

/** The floor and the sets, promises 1, 8, 9, 23, 24, 25: each sentence that names a limit, at it and just beyond. */
public final class EdgeFloorTest {
    private static final int MOST = Integer.MAX_VALUE;
    private static final int LEAST = Integer.MIN_VALUE;
    /** Figures that take single dancers as far as can be told, and as near. */
    private static final String WALKS = "figure east on any1 counts 1 price 1 = 1 0 0; figure west on any1 counts 1 price 1 = -1 0 0;"
        + " figure north on any1 counts 1 price 1 = 0 1 0; figure south on any1 counts 1 price 1 = 0 -1 0;"
        + " figure fareast on any1 counts 1 price 1 = 32 0 0; figure farwest on any1 counts 1 price 1 = -32 0 0;"
        + " figure farnorth on any1 counts 1 price 1 = 0 32 0; figure farsouth on any1 counts 1 price 1 = 0 -32 0;"
        + " figure spin on any1 counts 1 price 1 = 0 0 8; figure unspin on any1 counts 1 price 1 = 0 0 -8;";

    public static void main(String[] args) {
        numberedFromZero();
        twoOfEachCouple();
        facingGoesRound();
        turnedDoesNot();
        squaredWithoutGaps();
        widestFloor();
        order();
        square();
        longSets();
        fewestAndMostCouples();
        noOtherKind();
        home();
        aimAtFirst();
        newObject();
        refusedSet();
        newSet();
        mark();
        dancerOfNone();
        atAPlace();
        aboutAnother();
        calls512();
        Dance.finish("EdgeFloorTest");
    }

    private static void numberedFromZero() {
        Dance.says("A SET has N dancers, numbered from 0");
        int[][] sets = {{0, 4}, {1, 1}, {1, 31}, {1, 32}, {2, 1}, {2, 32}, {3, 1}, {3, 2}, {3, 32}};
        for (int[] set : sets) {
            Dance d = Dance.empty();
            Dance.due("set " + set[0], d.hall.set(set[0], set[1]), true);
            int n = 2 * set[1];
            Dance.due("N", d.hall.about(0), n);
            for (int what = 0; what < 4; what++) {
                Dance.due("the first one", d.hall.dancer(0, what) >= 0, true);
                Dance.due("the last one", d.hall.dancer(n - 1, what) >= 0, true);
                Dance.due("one behind the last", d.hall.dancer(n, what), -1);
                Dance.due("one ahead of the first", d.hall.dancer(-1, what), -1);
            }
        }
    }

    private static void twoOfEachCouple() {
        Dance.says("two of each COUPLE (number / 2): the even one is its LARK, the odd one its ROBIN");
        Dance d = Dance.ready();
        d.hall.set(1, 32);
        Dance.due("the last couple", d.call("couple 31 right"), 0);
        Dance.due("its lark", d.hall.dancer(62, 3), 1);
        Dance.due("its robin", d.hall.dancer(63, 3), 1);
        Dance.due("the couple ahead of it", d.hall.dancer(61, 3), 0);
        Dance.due("the first couple", d.call("couple 0 right"), 0);
        Dance.due("its lark", d.hall.dancer(0, 3), 1);
        Dance.due("its robin", d.hall.dancer(1, 3), 1);
        Dance.due("the couple behind it", d.hall.dancer(2, 3), 0);
        Dance.due("larks", d.call("larks right"), 0);
        Dance.due("the last lark", d.hall.dancer(62, 3), 2);
        Dance.due("the last robin", d.hall.dancer(63, 3), 1);
        Dance.due("robins", d.call("robins turn"), 0);
        Dance.due("the last lark", d.hall.dancer(62, 3), 2);
        Dance.due("the last robin", d.hall.dancer(63, 3), 3);
    }

    private static void facingGoesRound() {
        Dance.says("FACING (0 up, 1 right, 2 down, 3 left)");
        Dance d = Dance.ready();
        int[] clockwise = {1, 2, 3, 0, 1};
        for (int facing : clockwise) {
            Dance.due("right", d.call("dancer 0 right"), 0);
            Dance.due("facing", d.hall.dancer(0, 2), facing);
        }
        int[] other = {0, 3, 2, 1, 0, 3};
        for (int facing : other) {
            Dance.due("left", d.call("dancer 0 left"), 0);
            Dance.due("facing", d.hall.dancer(0, 2), facing);
        }
    }

    private static void turnedDoesNot() {
        Dance.says("TURNED: how many quarters it has turned clockwise in all (the other way: less)");
        Dance d = Dance.with(WALKS);
        Dance.due("left", d.call("all left"), 0);
        d.dueDancer(0, 4, 0, 3, -1);
        Dance.due("right", d.call("all right"), 0);
        d.dueDancer(0, 4, 0, 0, 0);
        for (int i = 1; i <= 40; i++) {
            Dance.due("two full turns", d.call("all spin"), 0);
        }
        d.dueDancer(0, 4, 0, 0, 320);
        for (int i = 1; i <= 41; i++) {
            Dance.due("two full turns the other way", d.call("all unspin"), 0);
        }
        d.dueDancer(0, 4, 0, 0, -8);
        d.dueDancer(7, 0, 4, 1, -8);
        Dance.due("back", d.hall.back(1), true);
        Dance.due("back to none", d.hall.dancer(7, 3), 0);
        Dance.due("back", d.hall.back(1), true);
        Dance.due("back above none", d.hall.dancer(7, 3), 8);
    }

    private static void squaredWithoutGaps() {
        Dance.says("The floor is SQUARED: the X's that dancers have are 0, 4, 8 .. without gaps, the Y's likewise.");
        Dance d = Dance.with(WALKS);
        d.hall.set(1, 1);
        Dance.due("the only one of a row of two", d.call("dancer 1 farnorth"), 0);
        d.dueDancer(0, 0, 0, 1, 0);
        d.dueDancer(1, 4, 4, 3, 0);
        Dance.due("below the floor", d.call("dancer 1 farsouth"), 0);
        d.dueDancer(0, 0, 4, 1, 0);
        d.dueDancer(1, 4, 0, 3, 0);
        Dance.due("left of the floor", d.call("dancer 1 farwest"), 0);
        d.dueDancer(0, 4, 4, 1, 0);
        d.dueDancer(1, 0, 0, 3, 0);
        Dance.due("right of the floor", d.call("dancer 1 fareast"), 0);
        d.dueDancer(0, 0, 4, 1, 0);
        d.dueDancer(1, 4, 0, 3, 0);
        Dance.due("a quarter of a step is not enough to pass", d.call("dancer 0 east"), 0);
        d.dueDancer(0, 0, 4, 1, 0);
        d.hall.set(1, 2);
        Dance.due("a quarter of a step makes a column", d.call("dancer 0 west"), 0);
        d.dueDancer(0, 0, 0, 1, 0);
        d.dueDancer(2, 4, 4, 1, 0);
        d.dueDancer(1, 8, 0, 3, 0);
        Dance.due("a column that nobody is in goes", d.call("dancer 0 west & dancer 2 farwest"), 0);
        d.dueDancer(2, 0, 4, 1, 0);
        d.dueDancer(0, 4, 0, 1, 0);
        d.dueDancer(1, 8, 0, 3, 0);
        Dance.due("one behind whom a row goes", d.call("couple 1 farsouth"), 0);
        d.dueDancer(2, 0, 0, 1, 0);
        d.dueDancer(0, 4, 4, 1, 0);
        d.dueDancer(3, 8, 0, 3, 0);
    }

    private static void widestFloor() {
        Dance.says("The floor is SQUARED: 64 rows, 64 columns, as many as a floor can have");
        Dance d = Dance.with(WALKS);
        d.hall.set(1, 32);
        Dance.due("64 rows", d.call("robins north"), 0);
        d.dueDancer(63, 4, 252, 3, 0);
        d.dueDancer(62, 0, 248, 1, 0);
        Dance.due("the highest", d.hall.at(4, 252), 63);
        Dance.due("nobody above", d.hall.at(4, 256), -1);
        Dance.due("the highest goes higher", d.call("dancer 63 farnorth"), 0);
        d.dueDancer(63, 4, 252, 3, 0);
        Dance.due("the highest goes aside", d.call("dancer 63 fareast"), 0);
        d.dueDancer(63, 8, 252, 3, 0);
        Dance.due("the lowest goes lower", d.call("dancer 0 farsouth"), 0);
        d.dueDancer(0, 0, 0, 1, 0);
        d.hall.set(1, 32);
        for (int bit = 1; bit < 32; bit *= 2) {
            StringBuilder who = new StringBuilder("couple 31");
            for (int couple = 0; couple < 31; couple++) {
                who.append((couple & bit) != 0 ? " or couple " + couple : "");
            }
            Dance.due("twice as many columns", d.call(who + " east"), 0);
        }
        d.dueDancer(0, 0, 0, 1, 0);
        d.dueDancer(62, 124, 124, 1, 0);
        d.dueDancer(63, 252, 124, 3, 0);
        Dance.due("the rightmost", d.hall.at(252, 124), 63);
        Dance.due("nobody beyond", d.hall.at(256, 124), -1);
        Dance.due("both ends go farther", d.call("dancer 63 fareast & dancer 0 farwest"), 0);
        d.dueDancer(0, 0, 0, 1, 0);
        d.dueDancer(63, 252, 124, 3, 0);
        Dance.due("back", d.hall.back(1), true);
        d.dueDancer(63, 252, 124, 3, 0);
    }

    private static void order() {
        Dance.says("ORDER of dancers: by Y, of one Y by X.");
        Dance d = Dance.ready();
        Dance.due("no partition", d.call("dancer 2 or dancer 6 pass"), 3);
        d.dueFailed(3, 2, -1);
        Dance.due("of one Y", d.call("dancer 2 or dancer 7 pass"), 3);
        d.dueFailed(3, 7, -1);
        Dance.due("of one Y, next to one another", d.call("couple 2 pass"), 3);
        d.dueFailed(3, 5, -1);
        Dance.due("the lowest of all", d.call("all pass"), 3);
        d.dueFailed(3, 0, -1);
        Dance.due("the highest alone", d.call("dancer 4 pass"), 3);
        d.dueFailed(3, 4, -1);
    }

    private static void square() {
        Dance.says("0 SQUARE (n 4)");
        int[][] due = {{4, 0, 0}, {8, 0, 0}, {12, 4, 3}, {12, 8, 3}, {8, 12, 2}, {4, 12, 2}, {0, 8, 1}, {0, 4, 1}};
        Dance d = Dance.empty();
        d.hall.set(1, 4);
        Dance.due("four couples", d.hall.set(0, 4), true);
        for (int i = 0; i < 8; i++) {
            d.dueDancer(i, due[i][0], due[i][1], due[i][2], 0);
        }
        int[] none = {3, 5, 0, -4, 1, 32, 33, LEAST, MOST};
        for (int n : none) {
            Dance.due("set(0, " + n + ")", d.hall.set(0, n), false);
        }
        d.dueDancer(7, 0, 4, 1, 0);
    }

    /** Where a dancer of couple c begins, as the document tells it: X, Y, facing. */
    private static int[] beginning(int kind, int c, boolean robin) {
        int b = 8 * (c / 2);
        if (kind == 1) {
            return robin ? new int[] {4, 4 * c, 3} : new int[] {0, 4 * c, 1};
        }
        if (kind == 2 && c % 2 == 0) {
            return new int[] {robin ? 4 : 0, 4 * c, 0};
        }
        if (kind == 2) {
            return new int[] {robin ? 0 : 4, 4 * c, 2};
        }
        if (c % 2 == 0) {
            return new int[] {0, robin ? b : b + 4, 1};
        }
        return new int[] {4, robin ? b + 4 : b, 3};
    }

    private static void longSets() {
        Dance.says("1 PROPER (n 1 .. 32), 2 IMPROPER (n 1 .. 32), 3 BECKET (n 1 .. 32)");
        int[] sizes = {1, 2, 3, 4, 31, 32};
        for (int kind = 1; kind <= 3; kind++) {
            for (int n : sizes) {
                Dance d = Dance.empty();
                Dance.due("set(" + kind + ", " + n + ")", d.hall.set(kind, n), true);
                for (int i = 0; i < 2 * n; i++) {
                    int[] due = beginning(kind, i / 2, i % 2 == 1);
                    d.dueDancer(i, due[0], due[1], due[2], 0);
                    Dance.due("who is there", d.hall.at(due[0], due[1]), i);
                }
            }
        }
    }

    private static void fewestAndMostCouples() {
        int[] none = {0, 33, -1, LEAST, MOST, 64};
        for (int kind = 1; kind <= 3; kind++) {
            Dance.says(kind + " (n 1 .. 32)");
            Dance d = Dance.empty();
            Dance.due("the fewest", d.hall.set(kind, 1), true);
            Dance.due("N", d.hall.about(0), 2);
            for (int n : none) {
                Dance.due("set(" + kind + ", " + n + ")", d.hall.set(kind, n), false);
                Dance.due("N", d.hall.about(0), 2);
            }
            Dance.due("the most", d.hall.set(kind, 32), true);
            Dance.due("N", d.hall.about(0), 64);
        }
    }

    private static void noOtherKind() {
        Dance.says("Sets of n couples: 0 SQUARE, 1 PROPER, 2 IMPROPER, 3 BECKET");
        Dance d = Dance.empty();
        int[] none = {-1, 4, 5, LEAST, MOST};
        for (int kind : none) {
            Dance.due("set(" + kind + ", 4)", d.hall.set(kind, 4), false);
        }
        Dance.due("N", d.hall.about(0), 8);
    }

    private static void home() {
        Dance.says("HOME: all have the places and facings with which the set began.");
        Dance d = Dance.with(WALKS);
        Dance.due("at the beginning", d.hall.about(4), 1);
        int[] one = {0, 7};
        for (int who : one) {
            Dance.due("one faces elsewhere", d.call("dancer " + who + " right"), 0);
            Dance.due("home", d.hall.about(4), 0);
            Dance.due("it comes back", d.call("dancer " + who + " left"), 0);
            Dance.due("home", d.hall.about(4), 1);
        }
        Dance.due("a full turn", d.call("all spin"), 0);
        Dance.due("home, whatever was turned", d.hall.about(4), 1);
        Dance.due("one is elsewhere", d.call("dancer 7 farwest"), 0);
        Dance.due("home", d.hall.about(4), 0);
        Dance e = Dance.ready();
        Dance.due("another set", e.hall.set(2, 1), true);
        Dance.due("home", e.hall.about(4), 1);
        Dance.due("places change, facings do not", e.call("all cross"), 0);
        Dance.due("home", e.hall.about(4), 0);
        Dance.due("again", e.call("all cross"), 0);
        Dance.due("home", e.hall.about(4), 1);
    }

    private static void aimAtFirst() {
        Dance.says("The AIM: places and facings of all; those of HOME at first.");
        Dance d = Dance.ready();
        Dance.due("at the aim", d.hall.about(5), 1);
        Dance.due("one faces elsewhere", d.call("dancer 7 right"), 0);
        Dance.due("at the aim", d.hall.about(5), 0);
        Dance.due("resolve", d.hall.resolve(0), -1);
        Dance.due("it comes round", d.call("dancer 7 left"), 0);
        Dance.due("at the aim", d.hall.about(5), 1);
        Dance.due("resolve", d.hall.resolve(0), 0);
        Dance.due("one is elsewhere", d.call("dancer 1 meet"), 0);
        Dance.due("at the aim", d.hall.about(5), 0);
    }

    private static void newObject() {
        Dance.says("A SQUARE set; no book, nothing on the tape.");
        Dance d = Dance.empty();
        Dance.due("all that is told", d.state(), "8 0 0 0 1 1 0 0 0 0 0 0 0 0 fault 0 failed -1 -1 -1"
            + ", 4 0 0 0, 8 0 0 0, 12 4 3 0, 12 8 3 0, 8 12 2 0, 4 12 2 0, 0 8 1 0, 0 4 1 0 rows 0 found -1 -1 -1");
        Dance.due("no run", d.hall.step(), -1);
        Dance.due("no history", d.hall.back(1), false);
        Dance.due("no part", d.hall.begin(0), false);
        Dance.due("no allowed step", d.hall.may(0), -1);
        Dance.due("no part", d.hall.times(0, 0, 4), -1);
        Dance.due("nothing found", d.hall.row(0), false);
        Dance.due("nothing found", d.hall.draw(-1, -1), false);
        Dance.due("nothing found", d.hall.cheapest(), -1);
        Dance.due("nothing found", d.hall.follow(), -1);
        Dance.due("nothing on the tape", d.hall.end(1), false);
        Dance.due("an empty text is a book", d.hall.load(), 0);
        Dance.due("and no step", d.hall.call(), -2);
        Dance.due("no form", d.named("form1", 0), -1);
    }

    private static void refusedSet() {
        Dance.says("A new set: true; false, changing nothing, if there is none such.");
        int[][] none = {{0, 3}, {0, 5}, {1, 0}, {1, 33}, {2, 0}, {2, 33}, {3, 0}, {3, 33}, {-1, 4}, {4, 4},
            {LEAST, MOST}, {MOST, LEAST}};
        for (int[] set : none) {
            Dance d = Dance.busy();
            String before = d.state();
            String call = "set(" + set[0] + ", " + set[1] + ")";
            Dance.due(call, d.hall.set(set[0], set[1]), false);
            d.dueGoesOn(call, before);
        }
    }

    private static void newSet() {
        Dance.says("The HISTORY is empty, there is no RUN, nothing found, BEATS and STEPS are 0, the AIM is HOME.");
        Dance d = Dance.busy();
        Dance.due("the same set anew", d.hall.set(0, 4), true);
        // what was read, the steps that failed, SEEN, the tape and its fault are none of what a new set takes
        Dance.due("all that is told", d.state(), "8 0 0 0 1 1 5 11 1 3 0 6 3 30 fault 0 failed 5 0 1"
            + ", 4 0 0 0, 8 0 0 0, 12 4 3 0, 12 8 3 0, 8 12 2 0, 4 12 2 0, 0 8 1 0, 0 4 1 0 rows 0 found -1 -1 -1");
        Dance.due("no run", d.hall.step(), -1);
        Dance.due("no history", d.hall.back(1), false);
        Dance.due("nothing found", d.hall.row(0), false);
        Dance.due("nothing found", d.hall.cheapest(), -1);
        Dance.due("nothing found", d.hall.follow(), -1);
        Dance.due("the aim is home", d.hall.resolve(0), 0);
        Dance.due("the tape stays", d.hall.named(0), -1);
        Dance.due("a name", d.hall.fault(), 0);
        Dance.due("the run may begin again", d.hall.begin(0), true);
        Dance.due("from its beginning", d.hall.step(), 1);
        d.dueDancer(0, 4, 0, 1, 1);
        Dance.due("one step in the history", d.hall.about(3), 1);
        Dance.due("back", d.hall.back(1), true);
        Dance.due("home", d.hall.about(4), 1);
    }

    private static void mark() {
        Dance.says("The present places and facings are the AIM.");
        Dance d = Dance.busy();
        Dance.due("one step away from the aim", d.hall.about(5), 0);
        d.hall.mark();
        Dance.due("at the aim", d.hall.about(5), 1);
        Dance.due("not home", d.hall.about(4), 0);
        Dance.due("what is found stays", d.hall.rows(), 2);
        Dance.due("also the next step", d.hall.follow(), 0);
        Dance.due("one faces elsewhere", d.hall.about(5), 0);
        Dance.due("back", d.hall.back(1), true);
        Dance.due("what was marked stays", d.hall.about(5), 1);
        Dance.due("back to the beginning", d.hall.back(5), true);
        Dance.due("what was marked stays", d.hall.about(5), 0);
        Dance.due("home", d.hall.about(4), 1);
        Dance.due("a new set", d.hall.set(0, 4), true);
        Dance.due("has another aim", d.hall.about(5), 1);
        d.hall.end(0);
        Dance.due("a full turn", d.call("all turn"), 0);
        d.hall.mark();
        Dance.due("a full turn", d.call("all turn"), 0);
        Dance.due("a full turn", d.call("all turn"), 0);
        Dance.due("the aim, whatever was turned", d.hall.about(5), 1);
    }

    private static void dancerOfNone() {
        Dance.says("Of a dancer: X (what 0), Y (1), FACING (2), TURNED (3); NONE for none such, or another what.");
        Dance d = Dance.ready();
        Dance.due("left", d.call("dancer 7 left"), 0);
        Dance.due("turn", d.call("dancer 7 turn"), 0);
        Dance.due("X", d.hall.dancer(7, 0), 0);
        Dance.due("Y", d.hall.dancer(7, 1), 4);
        Dance.due("FACING", d.hall.dancer(7, 2), 2);
        Dance.due("TURNED", d.hall.dancer(7, 3), 1);
        int[] others = {-1, 4, LEAST, MOST};
        for (int what : others) {
            Dance.due("dancer(7, " + what + ")", d.hall.dancer(7, what), -1);
        }
        int[] nobody = {-1, 8, 9, 63, 64, LEAST, MOST};
        for (int who : nobody) {
            for (int what = -1; what <= 4; what++) {
                Dance.due("dancer(" + who + ", " + what + ")", d.hall.dancer(who, what), -1);
            }
        }
        Dance.due("a larger set", d.hall.set(1, 32), true);
        Dance.due("its last one", d.hall.dancer(63, 1), 124);
        Dance.due("none behind it", d.hall.dancer(64, 1), -1);
        Dance.due("a smaller set", d.hall.set(1, 1), true);
        Dance.due("its last one", d.hall.dancer(1, 0), 4);
        Dance.due("none of the larger one", d.hall.dancer(2, 0), -1);
    }

    private static void atAPlace() {
        Dance.says("Who is at a place; NONE.");
        Dance d = Dance.ready();
        Dance.due("the first one", d.hall.at(4, 0), 0);
        Dance.due("the last one", d.hall.at(0, 4), 7);
        int[][] nobody = {{0, 0}, {4, 4}, {3, 0}, {5, 0}, {4, 1}, {4, -1}, {4, -4}, {-4, 4}, {-1, 4}, {1, 4}, {2, 4},
            {16, 4}, {0, 12}, {12, 12}, {12, 0}, {4, 16}, {260, 0}, {4, 256}, {4, 1 << 30}, {1 << 30, 4},
            {4 + (1 << 16), 0}, {LEAST, LEAST}, {MOST, MOST}, {LEAST, 4}, {4, LEAST}};
        for (int[] place : nobody) {
            Dance.due("at(" + place[0] + ", " + place[1] + ")", d.hall.at(place[0], place[1]), -1);
        }
        Dance.due("one goes away", d.call("dancer 1 meet"), 0);
        Dance.due("nobody where it was", d.hall.at(8, 0), -1);
        Dance.due("and it where it is", d.hall.at(12, 0), 1);
        Dance.due("the first one goes after it", d.call("dancer 0 meet"), 0);
        Dance.due("nobody where it was", d.hall.at(4, 0), -1);
        Dance.due("and it where it is", d.hall.at(8, 0), 0);
        Dance.due("back", d.hall.back(1), true);
        Dance.due("it is where it was", d.hall.at(4, 0), 0);
        Dance.due("and nobody there", d.hall.at(8, 0), -1);
        Dance.due("a larger set", d.hall.set(1, 32), true);
        Dance.due("its last one", d.hall.at(4, 124), 63);
        Dance.due("a smaller set", d.hall.set(1, 1), true);
        Dance.due("nobody of the larger one", d.hall.at(4, 124), -1);
        Dance.due("nobody of the larger one", d.hall.at(0, 4), -1);
    }

    private static void aboutAnother() {
        Dance.says("N (what 0), BEATS (1), .. tokens of parts and allows (13); NONE for another what.");
        Dance d = Dance.busy();
        long[] due = {8, 5, 5, 5, 0, 0, 5, 11, 1, 3, 1, 6, 3, 30};
        for (int what = 0; what < due.length; what++) {
            Dance.due("about(" + what + ")", d.hall.about(what), due[what]);
        }
        int[] others = {-1, 14, 15, LEAST, MOST, -14};
        for (int what : others) {
            Dance.due("about(" + what + ")", d.hall.about(what), -1);
        }
    }

    private static void calls512() {
        Dance.says("An object is used for at most 512 calls after it has been made");
        Dance d = Dance.with("figure full on any1 counts 64 price 1000 = 0 0 8; part p { repeat 64 { repeat 64 { all full; } } }");
        Dance.due("begin", d.hall.begin(0), true);
        int steps = 0;
        List<Integer> answers = new ArrayList<>();
        while (d.hall.calls() < 508) {
            answers.add(d.hall.step());
            steps++;
        }
        Dance.due("all of them danced", answers.stream().allMatch(answer -> answer == 1), true);
        Dance.due("more than half of the calls", steps > 400, true);
        Dance.due("BEATS", d.hall.about(1), 64L * steps);
        Dance.due("STEPS", d.hall.about(2), steps);
        Dance.due("TURNED", d.hall.dancer(7, 3), 8L * steps);
        Dance.due("the last call that is promised", d.hall.back(200), true);
        Dance.due("calls", d.hall.calls(), 512);
    }
}
