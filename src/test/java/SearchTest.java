/** Promises 15 resolve, 16 rows, 17 row, 18 draw, 19 cheapest, 20 found, 21 follow. */
public final class SearchTest {
    public static void main(String[] args) {
        wrongSearches();
        atTheAim();
        rowsInOrder();
        cheapest();
        draws();
        manyRows();
        follow();
        whatStays();
        statesOfASearch();
        exactly2000();
        statesOfAllSearches();
        Dance.finish("SearchTest");
    }

    private static void wrongSearches() {
        Dance d = Dance.with("allow all right;");
        d.call("all turn");
        Dance.due("resolve(2)", d.hall.resolve(2), 2);
        Dance.due("row(0)", d.hall.row(0), true);
        Dance.due("resolve(-1)", d.hall.resolve(-1), -3);
        Dance.due("resolve(13)", d.hall.resolve(13), -3);
        Dance.due("what was found stays", d.hall.found(1), 0);
        Dance.due("rows", d.hall.rows(), 1);
        Dance.due("seen", d.hall.about(11), 3);
        d.hall.set(1, 9);
        Dance.due("18 dancers", d.hall.resolve(2), -3);
        d.hall.set(1, 8);
        Dance.due("16 dancers", d.hall.resolve(12), 0);
        d.call("all right");
        Dance.due("three rights", d.hall.resolve(12), 3);
        Dance.due("no deeper than told", d.hall.resolve(2), -1);
        Dance.due("rows", d.hall.rows(), 0);
        // no step is allowed, or none can be danced
        Dance e = Dance.ready();
        Dance.due("at home", e.hall.resolve(0), 0);
        e.call("all right");
        Dance.due("nothing allowed", e.hall.resolve(12), -1);
        Dance.due("seen", e.hall.about(11), 2);
        e.load("allow all pass;");
        Dance.due("nothing can be danced", e.hall.resolve(12), -1);
        e.load("allow all turn;");
        Dance.due("no way", e.hall.resolve(12), -1);
        Dance.due("seen", e.hall.about(11), 2 + 1 + 2);
    }

    private static void atTheAim() {
        Dance d = Dance.with("allow all right; allow all hold;");
        Dance.due("resolve(0)", d.hall.resolve(0), 0);
        Dance.due("the empty row", d.hall.rows(), 1);
        Dance.due("none is chosen", d.hall.found(0), -1);
        Dance.due("row(1)", d.hall.row(1), false);
        Dance.due("row(-1)", d.hall.row(-1), false);
        Dance.due("row(0)", d.hall.row(0), true);
        Dance.due("found(0)", d.hall.found(0), -1);
        Dance.due("follow", d.hall.follow(), -1);
        Dance.due("cheapest", d.hall.cheapest(), 0);
        Dance.due("draw", d.hall.draw(-1, -1), true);
        d.call("all right");
        Dance.due("resolve(0)", d.hall.resolve(0), -1);
        Dance.due("rows", d.hall.rows(), 0);
        d.hall.mark();
        Dance.due("the marked aim", d.hall.resolve(0), 0);
        // a full turn is the same state
        d.call("all right");
        d.call("all right");
        d.call("all right");
        d.call("all right");
        Dance.due("turned once more", d.hall.resolve(0), 0);
    }

    private static void dueRow(Dance d, int k, int... steps) {
        Dance.due("row(" + k + ")", d.hall.row(k), true);
        for (int i = 0; i < steps.length; i++) {
            Dance.due("row " + k + ", step " + i, d.hall.found(i), steps[i]);
        }
        Dance.due("behind the row", d.hall.found(steps.length), -1);
        Dance.due("ahead of the row", d.hall.found(-1), -1);
    }

    private static void rowsInOrder() {
        Dance d = Dance.with("allow all turn; allow larks right; allow all hold; allow robins right; allow larks right & robins hold;");
        d.call("all turn");
        d.call("robins right");
        // larks want two quarters, robins one: with all turn at first, robins want three quarters
        Dance.due("resolve", d.hall.resolve(12), 3);
        Dance.due("none is chosen yet", d.hall.found(0), -1);
        Dance.due("follow", d.hall.follow(), -1);
        // two larks' rights, each in two ways, and one of the robins': 3 places for it
        Dance.due("rows", d.hall.rows(), 12);
        dueRow(d, 0, 1, 1, 3);
        dueRow(d, 1, 1, 3, 1);
        dueRow(d, 2, 1, 3, 4);
        dueRow(d, 3, 1, 4, 3);
        dueRow(d, 4, 3, 1, 1);
        dueRow(d, 5, 3, 1, 4);
        dueRow(d, 6, 3, 4, 1);
        dueRow(d, 7, 3, 4, 4);
        dueRow(d, 8, 4, 1, 3);
        dueRow(d, 11, 4, 4, 3);
        Dance.due("row(12)", d.hall.row(12), false);
        Dance.due("row(-1)", d.hall.row(-1), false);
        Dance.due("the one found stays", d.hall.found(0), 4);
    }

    private static void cheapest() {
        Dance d = Dance.with("figure dear on any1 counts 1 price 1000 = 0 0 1; figure cheap on any1 counts 1 price 3 = 0 0 1;"
            + " figure fair on any1 counts 1 price 4 = 0 0 1;"
            + " allow larks dear; allow larks fair; allow robins dear; allow larks cheap & robins hold; allow robins fair;"
            + " allow larks cheap; allow robins hold & larks fair;");
        d.call("larks turn");
        d.call("robins left");
        Dance.due("cheapest of none", d.hall.cheapest(), -1);
        Dance.due("resolve", d.hall.resolve(4), 3);
        Dance.due("rows", d.hall.rows(), 5 * 5 * 2 * 3);
        Dance.due("cheapest", d.hall.cheapest(), 3 + 3 + 4);
        // the first of them: 3 3 4 ahead of 3 4 3, 3 5 4 and so on
        Dance.due("step 0", d.hall.found(0), 3);
        Dance.due("step 1", d.hall.found(1), 3);
        Dance.due("step 2", d.hall.found(2), 4);
        Dance.due("step 3", d.hall.found(3), -1);
    }

    private static void draws() {
        Dance d = Dance.with("allow all right; allow all right; allow all right;");
        d.call("all turn");
        Dance.due("draw of none", d.hall.draw(5, 5), false);
        Dance.due("resolve", d.hall.resolve(4), 2);
        Dance.due("rows", d.hall.rows(), 9);
        // w = 2 to the 64 * k / 9, up and cut: the first that gives row k, and the one ahead of it
        for (int k = 1; k < 9; k++) {
            java.math.BigInteger w = java.math.BigInteger.ONE.shiftLeft(64).multiply(java.math.BigInteger.valueOf(k))
                .add(java.math.BigInteger.valueOf(8)).divide(java.math.BigInteger.valueOf(9));
            Dance.due("draw", d.hall.draw(w.shiftRight(32).intValue(), w.intValue()), true);
            Dance.due("step 0 of " + k, d.hall.found(0), k / 3);
            Dance.due("step 1 of " + k, d.hall.found(1), k % 3);
            w = w.subtract(java.math.BigInteger.ONE);
            Dance.due("draw", d.hall.draw(w.shiftRight(32).intValue(), w.intValue()), true);
            Dance.due("step 0 of " + (k - 1), d.hall.found(0), (k - 1) / 3);
            Dance.due("step 1 of " + (k - 1), d.hall.found(1), (k - 1) % 3);
        }
        Dance.due("draw", d.hall.draw(-1, -1), true);
        Dance.due("the last", d.hall.found(0) * 3 + d.hall.found(1), 8);
        Dance.due("draw", d.hall.draw(0, 0), true);
        Dance.due("the first", d.hall.found(0) * 3 + d.hall.found(1), 0);
    }

    private static void manyRows() {
        Dance d = Dance.with("form five = 0 0 any, 0 4 any, 0 8 any, 0 12 any, 0 16 any; form three = 0 0 any, 0 4 any, 0 8 any;"
            + " figure go5 on five counts 1 price 999 = 0 4 0, 0 8 0, 0 12 0, 0 16 0, 0 0 0;"
            + " figure go3 on three counts 1 price 1 = 0 4 0, 0 8 0, 0 0 0;"
            + Dance.many(" allow larks go5 & robins and not (dancer 7 or dancer 9) go3;", 32));
        Dance.due("set", d.hall.set(1, 5), true);
        // fifteen of these steps are home again: three behind home, twelve are left
        for (int i = 0; i < 3; i++) {
            Dance.due("call", d.call("larks go5 & robins and not (dancer 7 or dancer 9) go3"), 0);
        }
        Dance.due("11 are too few", d.hall.resolve(11), -1);
        Dance.due("resolve", d.hall.resolve(12), 12);
        Dance.due("rows", d.hall.rows(), 1L << 60);
        Dance.due("draw the last", d.hall.draw(-1, -1), true);
        for (int i = 0; i < 12; i++) {
            Dance.due("step " + i, d.hall.found(i), 31);
        }
        // w / 16 is the row's number
        Dance.due("draw", d.hall.draw(0x12345678, 0x9ABCDEF7), true);
        long row = 0x123456789ABCDEFL;
        for (int i = 0; i < 12; i++) {
            Dance.due("step " + i, d.hall.found(i), row >> 5 * (11 - i) & 31);
        }
        Dance.due("row", d.hall.row(Integer.MAX_VALUE), true);
        Dance.due("step 5", d.hall.found(5), 1);
        Dance.due("step 6", d.hall.found(6), 31);
        Dance.due("cheapest", d.hall.cheapest(), 12000);
        for (int i = 0; i < 12; i++) {
            Dance.due("step " + i, d.hall.found(i), 0);
        }
        Dance.due("seen", d.hall.about(11), 12 + 13);
    }

    private static void follow() {
        Dance d = Dance.with("allow larks right; allow robins right; allow dancer 0 meet;");
        d.call("all left");
        Dance.due("resolve", d.hall.resolve(3), 2);
        Dance.due("row(1)", d.hall.row(1), true);
        Dance.due("follow", d.hall.follow(), 0);
        d.dueDancer(1, 8, 0, 0, 0);
        d.dueDancer(0, 4, 0, 3, -1);
        Dance.due("history", d.hall.about(3), 2);
        Dance.due("beats", d.hall.about(1), 2);
        Dance.due("follow", d.hall.follow(), 0);
        Dance.due("home", d.hall.about(4), 1);
        Dance.due("follow", d.hall.follow(), -1);
        // back does not take the next step back; row, draw, cheapest begin anew
        Dance.due("back", d.hall.back(1), true);
        Dance.due("follow", d.hall.follow(), -1);
        Dance.due("row(0)", d.hall.row(0), true);
        Dance.due("follow", d.hall.follow(), 0);
        Dance.due("back", d.hall.back(1), true);
        Dance.due("the second", d.hall.follow(), 0);
        d.dueDancer(1, 8, 0, 1, 1);
        Dance.due("a row that is none changes nothing", d.hall.row(2), false);
        Dance.due("follow", d.hall.follow(), -1);
        // one that fails stays the next one
        Dance e = Dance.with("figure away on any1 counts 1 price 1 = 0 -4 0; allow dancer 0 meet;");
        e.call("dancer 1 meet");
        e.call("dancer 0 meet");
        e.hall.mark();
        Dance.due("back", e.hall.back(1), true);
        Dance.due("resolve", e.hall.resolve(3), 1);
        Dance.due("cheapest", e.hall.cheapest(), 7);
        Dance.due("back", e.hall.back(1), true);
        Dance.due("1 is in the way", e.hall.follow(), 5);
        e.dueFailed(5, 0, 1);
        Dance.due("history", e.hall.about(3), 0);
        Dance.due("again", e.hall.follow(), 5);
        Dance.due("out of the way", e.call("dancer 1 meet"), 0);
        Dance.due("follow", e.hall.follow(), 0);
        Dance.due("at the aim", e.hall.about(5), 1);
        Dance.due("follow", e.hall.follow(), -1);
    }

    private static void whatStays() {
        Dance d = Dance.with("allow larks right; allow robins right;");
        d.call("all left");
        Dance.due("resolve", d.hall.resolve(3), 2);
        Dance.due("row(1)", d.hall.row(1), true);
        Dance.due("nobody moved", d.hall.about(2), 1);
        d.dueDancer(0, 4, 0, 3, -1);
        // another aim, other dancers' places, more allowed steps: what was found stays
        d.hall.mark();
        d.call("all turn");
        d.load("allow all right;");
        Dance.due("rows", d.hall.rows(), 2);
        Dance.due("found", d.hall.found(0), 1);
        Dance.due("row(0)", d.hall.row(0), true);
        Dance.due("found", d.hall.found(0), 0);
        Dance.due("cheapest", d.hall.cheapest(), 2);
        Dance.due("resolve", d.hall.resolve(1), -1);
        Dance.due("rows", d.hall.rows(), 0);
        Dance.due("found", d.hall.found(0), -1);
        Dance.due("follow", d.hall.follow(), -1);
        Dance.due("cheapest", d.hall.cheapest(), -1);
        Dance.due("draw", d.hall.draw(1, 1), false);
        Dance.due("with the new one", d.hall.resolve(12), 2);
        Dance.due("rows", d.hall.rows(), 1);
        Dance.due("a run goes on", d.load("part p { all right; all turn; }"), 0);
        d.hall.begin(0);
        d.hall.step();
        Dance.due("resolve", d.hall.resolve(4), 1);
        Dance.due("step", d.hall.step(), 1);
        Dance.due("step", d.hall.step(), 0);
    }

    /** Six dancers who can turn each: 1, 6, 21, 56, 120, 216, 336, 456, 546 states of the levels 0 .. 8. */
    private static Dance turners() {
        Dance d = Dance.with("allow dancer 0 right; allow dancer 1 right; allow dancer 2 right; allow dancer 3 right;"
            + " allow dancer 4 right; allow dancer 5 right;");
        d.hall.set(1, 8);
        return d;
    }

    private static void statesOfASearch() {
        Dance d = turners();
        d.call("dancer 15 right");
        d.hall.mark();
        d.call("dancer 15 left");
        Dance.due("no way to depth 8", d.hall.resolve(8), -1);
        Dance.due("seen", d.hall.about(11), 1758);
        Dance.due("level 9 is not whole", d.hall.resolve(9), -2);
        Dance.due("2000 of this search", d.hall.about(11), 1758 + 2000);
        Dance.due("rows", d.hall.rows(), 0);
        // the aim in a level that is not whole
        d.hall.set(1, 8);
        d.call("dancer 0 right");
        d.call("dancer 1 right");
        d.call("dancer 2 right");
        Dance.due("it is in level 9", d.hall.resolve(12), -2);
        Dance.due("found", d.hall.row(0), false);
        d.call("dancer 2 right");
        Dance.due("it is in level 8, which is whole", d.hall.resolve(12), 8);
        Dance.due("seen", d.hall.about(11), 1758 + 2000 + 2000 + 1758);
        // 8! / (3! 3! 2!)
        Dance.due("rows", d.hall.rows(), 560);
    }

    private static void exactly2000() {
        String column = "dancer 0 or dancer 2 or dancer 4 or dancer 6 or dancer 8 ";
        String other = "dancer 1 or dancer 3 or dancer 5 or dancer 7 or dancer 9 ";
        String rest = "dancer 10 or dancer 11 or dancer 12 or dancer 13 or dancer 14 ";
        Dance d = Dance.with("form bar = 0 0 any, 0 4 any, 0 8 any, 0 12 any, 0 16 any;"
            + " form flag = 0 0 any, 0 4 any, 0 8 any, 4 0 any, 4 4 any;"
            + " figure bar1 on bar counts 1 price 1 = 0 4 0, 0 8 0, 0 12 0, 0 16 0, 0 0 0;"
            + " figure bar4 on bar counts 1 price 1 = 0 16 0, 0 0 0, 0 4 0, 0 8 0, 0 12 0;"
            + " figure flag1 on flag counts 1 price 1 = 0 4 0, 0 8 0, 4 0 0, 4 4 0, 0 0 0;"
            + " figure flag4 on flag counts 1 price 1 = 4 4 0, 0 0 0, 0 4 0, 0 8 0, 4 0 0;"
            + " allow " + column + "bar1; allow " + column + "bar4; allow " + other + "bar1; allow " + other + "bar4;"
            + " allow " + rest + "flag1; allow " + rest + "flag4; allow dancer 15 right; allow dancer 15 left;"
            + " allow dancer 0 right; allow dancer 0 left;");
        d.hall.set(1, 8);
        d.call("dancer 5 right");
        d.hall.mark();
        d.hall.back(1);
        // 5 * 5 * 5 * 4 * 4 states, the farthest ten steps away
        Dance.due("all 2000", d.hall.resolve(12), -1);
        Dance.due("seen", d.hall.about(11), 2000);
        d.load("allow dancer 5 turn;");
        Dance.due("one more", d.hall.resolve(12), -2);
        Dance.due("seen", d.hall.about(11), 4000);
    }

    private static void statesOfAllSearches() {
        Dance d = turners();
        d.call("dancer 15 right");
        for (int i = 1; i <= 4; i++) {
            Dance.due("open", d.hall.resolve(12), -2);
            Dance.due("seen", d.hall.about(11), 2000 * i);
        }
        Dance.due("one level", d.hall.resolve(3), -1);
        Dance.due("seen", d.hall.about(11), 8084);
        Dance.due("no way to depth 8", d.hall.resolve(8), -1);
        Dance.due("seen", d.hall.about(11), 9842);
        d.hall.mark();
        Dance.due("one state", d.hall.resolve(12), 0);
        d.call("dancer 0 right");
        Dance.due("1 + 6 + 21 + 56", d.hall.resolve(12), 3);
        Dance.due("seen", d.hall.about(11), 9842 + 1 + 84);
        d.call("dancer 1 right");
        Dance.due("73 are left", d.hall.resolve(12), -2);
        Dance.due("seen", d.hall.about(11), 10000);
        Dance.due("what was found is forgotten", d.hall.rows(), 0);
        d.hall.mark();
        Dance.due("also the first one", d.hall.resolve(0), -2);
        Dance.due("seen", d.hall.about(11), 10000);
        Dance.due("rows", d.hall.rows(), 0);
        d.hall.set(2, 1);
        Dance.due("in another set, too", d.hall.resolve(1), -2);
        Dance.due("a wrong depth is told first", d.hall.resolve(13), -3);
    }
}
