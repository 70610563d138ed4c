/** Promises 1 a new object, 8 set, 9 mark, 23 dancer, 24 at, 25 about. */
public final class FloorTest {
    public static void main(String[] args) {
        newObject();
        sets();
        wrongSets();
        setForgets();
        mark();
        places();
        largest();
        about();
        Dance.finish("FloorTest");
    }

    private static void newObject() {
        Dance d = Dance.empty();
        int[][] square = {{4, 0, 0}, {8, 0, 0}, {12, 4, 3}, {12, 8, 3}, {8, 12, 2}, {4, 12, 2}, {0, 8, 1}, {0, 4, 1}};
        for (int i = 0; i < 8; i++) {
            d.dueDancer(i, square[i][0], square[i][1], square[i][2], 0);
        }
        long[] due = {8, 0, 0, 0, 1, 1, 0, 0, 0, 0, 0, 0, 0, 0, -1};
        for (int i = 0; i < due.length; i++) {
            Dance.due("about(" + i + ")", d.hall.about(i), due[i]);
        }
        Dance.due("about(-1)", d.hall.about(-1), -1);
        Dance.due("fault", d.hall.fault(), 0);
        d.dueFailed(-1, -1, -1);
        Dance.due("step", d.hall.step(), -1);
        Dance.due("begin(0)", d.hall.begin(0), false);
        Dance.due("back(0)", d.hall.back(0), true);
        Dance.due("back(1)", d.hall.back(1), false);
        Dance.due("may(0)", d.hall.may(0), -1);
        Dance.due("rows", d.hall.rows(), 0);
        Dance.due("row(0)", d.hall.row(0), false);
        Dance.due("draw", d.hall.draw(0, 0), false);
        Dance.due("cheapest", d.hall.cheapest(), -1);
        Dance.due("found(0)", d.hall.found(0), -1);
        Dance.due("follow", d.hall.follow(), -1);
        Dance.due("times", d.hall.times(0, 0, 4), -1);
        Dance.due("NONE", CallerHall.NONE, -1);
        Dance.due("OPEN", CallerHall.OPEN, -2);
    }

    private static void sets() {
        Dance d = Dance.empty();
        Dance.due("PROPER", d.hall.set(1, 32), true);
        Dance.due("N", d.hall.about(0), 64);
        d.dueDancer(0, 0, 0, 1, 0);
        d.dueDancer(1, 4, 0, 3, 0);
        d.dueDancer(62, 0, 124, 1, 0);
        d.dueDancer(63, 4, 124, 3, 0);
        Dance.due("IMPROPER", d.hall.set(2, 3), true);
        d.dueDancer(0, 0, 0, 0, 0);
        d.dueDancer(1, 4, 0, 0, 0);
        d.dueDancer(2, 4, 4, 2, 0);
        d.dueDancer(3, 0, 4, 2, 0);
        d.dueDancer(4, 0, 8, 0, 0);
        d.dueDancer(5, 4, 8, 0, 0);
        Dance.due("nobody beyond", d.hall.dancer(6, 0), -1);
        Dance.due("BECKET", d.hall.set(3, 4), true);
        d.dueDancer(0, 0, 4, 1, 0);
        d.dueDancer(1, 0, 0, 1, 0);
        d.dueDancer(2, 4, 0, 3, 0);
        d.dueDancer(3, 4, 4, 3, 0);
        d.dueDancer(4, 0, 12, 1, 0);
        d.dueDancer(5, 0, 8, 1, 0);
        d.dueDancer(6, 4, 8, 3, 0);
        d.dueDancer(7, 4, 12, 3, 0);
        Dance.due("the least", d.hall.set(3, 1), true);
        d.dueDancer(0, 0, 4, 1, 0);
        d.dueDancer(1, 0, 0, 1, 0);
        Dance.due("who was there before is gone", d.hall.at(4, 4), -1);
        Dance.due("SQUARE", d.hall.set(0, 4), true);
        d.dueDancer(7, 0, 4, 1, 0);
    }

    private static void wrongSets() {
        Dance d = Dance.ready();
        Dance.due("a step", d.call("all right"), 0);
        int[][] none = {{0, 3}, {0, 5}, {0, 0}, {-1, 4}, {4, 4}, {1, 0}, {1, 33}, {2, -1}, {3, 33},
            {Integer.MAX_VALUE, 4}, {1, Integer.MIN_VALUE}};
        for (int[] set : none) {
            Dance.due("set(" + set[0] + ", " + set[1] + ")", d.hall.set(set[0], set[1]), false);
        }
        d.dueDancer(0, 4, 0, 1, 1);
        Dance.due("the history stays", d.hall.about(3), 1);
        Dance.due("steps stay", d.hall.about(2), 1);
    }

    private static void setForgets() {
        Dance d = Dance.ready();
        Dance.due("load", d.load("part p { all right; all right; } allow all right; allow all pass;"), 0);
        Dance.due("fails", d.call("all pass"), 3);
        Dance.due("begin", d.hall.begin(0), true);
        Dance.due("step", d.hall.step(), 1);
        d.hall.mark();
        Dance.due("call", d.call("all right"), 0);
        Dance.due("resolve", d.hall.resolve(4), 3);
        Dance.due("row", d.hall.row(0), true);
        d.write("all");
        Dance.due("set", d.hall.set(2, 2), true);
        long[] due = {4, 0, 0, 0, 1, 1, 5, 11, 1, 2, 0, 4, 3};
        for (int i = 0; i < due.length; i++) {
            Dance.due("about(" + i + ")", d.hall.about(i), due[i]);
        }
        Dance.due("rows", d.hall.rows(), 0);
        Dance.due("found", d.hall.found(0), -1);
        Dance.due("row", d.hall.row(0), false);
        Dance.due("cheapest", d.hall.cheapest(), -1);
        Dance.due("follow", d.hall.follow(), -1);
        Dance.due("step", d.hall.step(), -1);
        Dance.due("back", d.hall.back(1), false);
        d.dueFailed(3, 0, -1);
        d.dueDancer(0, 0, 0, 0, 0);
    }

    private static void mark() {
        Dance d = Dance.ready();
        d.call("all right");
        Dance.due("not at the aim", d.hall.about(5), 0);
        d.hall.mark();
        Dance.due("at the aim", d.hall.about(5), 1);
        Dance.due("not home", d.hall.about(4), 0);
        d.call("dancer 3 left");
        Dance.due("off the aim", d.hall.about(5), 0);
        d.call("not dancer 3 left");
        Dance.due("home", d.hall.about(4), 1);
        Dance.due("not at the aim", d.hall.about(5), 0);
        Dance.due("back", d.hall.back(2), true);
        Dance.due("at the aim that was marked", d.hall.about(5), 1);
        Dance f = Dance.ready();
        f.call("dancer 0 right");
        Dance.due("the first one is not home", f.hall.about(4), 0);
        Dance.due("nor at the aim", f.hall.about(5), 0);
        f.hall.back(1);
        f.call("dancer 7 right");
        Dance.due("the last one is not home", f.hall.about(4), 0);
        Dance.due("nor at the aim", f.hall.about(5), 0);
        // a full turn is home again, although it is told by TURNED
        Dance e = Dance.ready();
        for (int i = 0; i < 4; i++) {
            e.call("all left");
        }
        Dance.due("home", e.hall.about(4), 1);
        e.dueDancer(5, 4, 12, 2, -4);
    }

    private static void places() {
        Dance d = Dance.empty();
        Dance.due("at(4, 0)", d.hall.at(4, 0), 0);
        Dance.due("at(0, 8)", d.hall.at(0, 8), 6);
        int[][] nobody = {{0, 0}, {5, 0}, {4, 1}, {-4, 0}, {4, -4}, {16, 4}, {1 << 30, 0}, {4, Integer.MIN_VALUE},
            {Integer.MAX_VALUE, Integer.MAX_VALUE}, {260, 0}, {4, 256}};
        for (int[] place : nobody) {
            Dance.due("at(" + place[0] + ", " + place[1] + ")", d.hall.at(place[0], place[1]), -1);
        }
        int[] wrong = {-1, 8, 64, Integer.MIN_VALUE, Integer.MAX_VALUE};
        for (int who : wrong) {
            Dance.due("dancer(" + who + ", 0)", d.hall.dancer(who, 0), -1);
        }
        Dance.due("dancer(0, 4)", d.hall.dancer(0, 4), -1);
        Dance.due("dancer(0, -1)", d.hall.dancer(0, -1), -1);
    }

    /** As wide and as high as a floor can be. */
    private static void largest() {
        Dance d = Dance.ready();
        d.load("figure up on any1 counts 1 price 1 = 0 1 0; figure aside on any1 counts 1 price 1 = 1 0 0;");
        d.hall.set(1, 32);
        Dance.due("64 rows", d.call("robins up"), 0);
        d.dueDancer(63, 4, 252, 3, 0);
        d.dueDancer(62, 0, 248, 1, 0);
        Dance.due("the highest", d.hall.at(4, 252), 63);
        Dance.due("a step there", d.call("dancer 63 turn"), 0);
        d.dueDancer(63, 4, 252, 1, 2);
        d.hall.set(1, 32);
        for (int bit = 1; bit < 32; bit *= 2) {
            StringBuilder who = new StringBuilder("couple 31");
            for (int couple = 0; couple < 31; couple++) {
                who.append((couple & bit) != 0 ? " or couple " + couple : "");
            }
            Dance.due("twice as many columns", d.call(who + " aside"), 0);
        }
        d.dueDancer(0, 0, 0, 1, 0);
        d.dueDancer(63, 252, 124, 3, 0);
        d.dueDancer(62, 124, 124, 1, 0);
        Dance.due("the widest", d.hall.at(252, 124), 63);
        Dance.due("a step there", d.call("all turn"), 0);
        d.dueDancer(63, 252, 124, 1, 2);
    }

    private static void about() {
        Dance d = Dance.ready();
        Dance.due("load", d.load("part p { all circle; } allow all turn; allow heads right & sides turn;"), 0);
        d.hall.set(3, 2);
        Dance.due("circle", d.call("all circle"), 0);
        Dance.due("two at once", d.call("larks turn & robins right"), 0);
        d.hall.begin(0);
        d.write("x y");
        long[] due = {4, 10, 2, 2, 0, 0, 5, 11, 1, 2, 1, 0, 3, 7 + 4 + 7};
        for (int i = 0; i < due.length; i++) {
            Dance.due("about(" + i + ")", d.hall.about(i), due[i]);
        }
        Dance.due("about(14)", d.hall.about(14), -1);
    }
}
