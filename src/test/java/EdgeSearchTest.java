import java.math.BigInteger;

/** SEARCH, promises 15 resolve to 21 follow: each sentence that names a limit, at it and just beyond. */
public final class EdgeSearchTest {
    private static final int MOST = Integer.MAX_VALUE;
    private static final int LEAST = Integer.MIN_VALUE;
    /** A ring of five and one of three: behind fifteen steps all are where they were. */
    private static final String RINGS = "form five = 0 0 any, 0 4 any, 0 8 any, 0 12 any, 0 16 any; form three = 0 0 any, 0 4 any, 0 8 any;"
        + " figure go5 on five counts 1 price 1000 = 0 4 0, 0 8 0, 0 12 0, 0 16 0, 0 0 0;"
        + " figure go3 on three counts 1 price 1000 = 0 4 0, 0 8 0, 0 0 0; figure stay on any1 counts 0 price 1000 = 0 0 0;";
    private static final String RING_STEP = "larks go5 & robins and not (dancer 7 or dancer 9) go3 & dancer 7 stay & dancer 9 stay";

    public static void main(String[] args) {
        depths();
        anotherDepth();
        dancers();
        moreThan16();
        leastRow();
        lastLevel();
        noneAllowed();
        mustBeDanced();
        scopeOfASearch();
        seenWithTheFirst();
        notMetBefore();
        state2000();
        state2001();
        whateverWasMet();
        state10000();
        state10001();
        alsoTheFirstOne();
        forgotten();
        countOfRows();
        emptyRow();
        mostRows();
        all32Allows();
        orderOfRows();
        noSuchRow();
        refusedRow();
        drawWithoutSign();
        drawCut();
        drawOfNone();
        firstOfTheCheapest();
        dearest();
        priceOfALaterSearch();
        cheapestOfNone();
        foundSteps();
        noneFoundYet();
        followNext();
        followThatFails();
        followOfNone();
        firstIsTheNext();
        scopeOfAFollow();
        Dance.finish("EdgeSearchTest");
    }

    private static void depths() {
        Dance.says("SEARCH to a depth 0 .. 12");
        for (int depth = 0; depth <= 12; depth++) {
            Dance d = Dance.with("allow all right;");
            Dance.due("at the aim, depth " + depth, d.hall.resolve(depth), 0);
            Dance.due("right", d.call("all right"), 0);
            Dance.due("three away, depth " + depth, d.hall.resolve(depth), depth < 3 ? -1 : 3);
        }
    }

    private static void anotherDepth() {
        Dance.says("-3, changing nothing, for another depth");
        int[] others = {-1, 13, 14, LEAST, MOST};
        for (int depth : others) {
            Dance d = Dance.busy();
            String before = d.state();
            Dance.due("resolve(" + depth + ")", d.hall.resolve(depth), -3);
            d.dueGoesOn("resolve(" + depth + ")", before);
        }
    }

    private static void dancers() {
        Dance.says("or more than 16 dancers");
        for (int kind = 1; kind <= 3; kind++) {
            for (int couples = 1; couples <= 32; couples++) {
                Dance d = Dance.empty();
                Dance.due("set", d.hall.set(kind, couples), true);
                Dance.due("resolve of " + 2 * couples, d.hall.resolve(12), couples <= 8 ? 0 : -3);
                Dance.due("seen", d.hall.about(11), couples <= 8 ? 1 : 0);
                Dance.due("rows", d.hall.rows(), couples <= 8 ? 1 : 0);
            }
        }
        // sixteen in sixteen columns and sixteen rows
        Dance d = Dance.with("figure east on any1 counts 1 price 1 = 1 0 0; figure north on any1 counts 1 price 1 = 0 1 0;"
            + " allow dancer 15 turn; allow dancer 0 left;");
        d.hall.set(1, 8);
        Dance.due("rows of one", d.call("robins north"), 0);
        d.dueDancer(15, 4, 60, 3, 0);
        d.hall.mark();
        Dance.due("the last one turns", d.call("dancer 15 turn"), 0);
        Dance.due("resolve", d.hall.resolve(12), 1);
        Dance.due("all change", d.load("form rise = 0 0 any, 4 4 any; figure change on rise counts 1 price 1 = 4 4 0, 0 0 0;"
            + " allow couple 7 change;"), 0);
        Dance.due("the last ones change", d.call("couple 7 change"), 0);
        Dance.due("resolve", d.hall.resolve(12), 2);
        Dance.due("rows", d.hall.rows(), 2);
        Dance.due("back", d.hall.back(2), true);
        Dance.due("columns of half", d.call("couple 1 or couple 3 or couple 5 or couple 7 east"), 0);
        Dance.due("columns of a quarter", d.call("couple 2 or couple 3 or couple 6 or couple 7 east"), 0);
        Dance.due("columns of one", d.call("couple 4 or couple 5 or couple 6 or couple 7 east"), 0);
        d.dueDancer(15, 60, 60, 3, 0);
        d.hall.mark();
        Dance.due("the last one turns", d.call("dancer 15 turn"), 0);
        Dance.due("the first one turns", d.call("dancer 0 right"), 0);
        Dance.due("resolve", d.hall.resolve(12), 2);
        Dance.due("rows", d.hall.rows(), 2);
        Dance.due("row", d.hall.row(0), true);
        Dance.due("follow", d.hall.follow(), 0);
        Dance.due("follow", d.hall.follow(), 0);
        Dance.due("at the aim", d.hall.about(5), 1);
    }

    private static void moreThan16() {
        Dance.says("-3, changing nothing, for .. more than 16 dancers");
        Dance d = Dance.with("allow all right; part p{all right;all turn;}");
        d.hall.set(1, 9);
        Dance.due("right", d.call("all right"), 0);
        Dance.due("begin", d.hall.begin(0), true);
        Dance.due("step", d.hall.step(), 1);
        Dance.due("fails", d.call("dancer 0 meet"), 5);
        String before = d.state();
        Dance.due("18 dancers", d.hall.resolve(12), -3);
        Dance.due("18 dancers", d.hall.resolve(0), -3);
        Dance.due("18 dancers and a wrong depth", d.hall.resolve(13), -3);
        Dance.due("resolve changes nothing", d.state(), before);
        Dance.due("the run goes on", d.hall.step(), 1);
        Dance.due("home", d.hall.about(4), 1);
        Dance.due("18 dancers at the aim", d.hall.resolve(0), -3);
    }

    /** A hall with ten dancers in two rings, so many of fifteen steps ahead of home. */
    private static Dance rings(int away, int allows) {
        Dance d = Dance.with(RINGS + Dance.many(" allow " + RING_STEP + ";", allows));
        Dance.due("set", d.hall.set(1, 5), true);
        for (int i = away; i < 15; i++) {
            Dance.due("a step of the ring", d.call(RING_STEP), 0);
        }
        return d;
    }

    private static void leastRow() {
        Dance.says("how many steps the least row has; NONE if there is none to this depth");
        Dance d = rings(12, 1);
        Dance.due("12 away, depth 11", d.hall.resolve(11), -1);
        Dance.due("12 away, depth 12", d.hall.resolve(12), 12);
        Dance.due("found", d.hall.row(0), true);
        Dance.due("the last step", d.hall.found(11), 0);
        Dance.due("behind it", d.hall.found(12), -1);
        Dance.due("a step", d.call(RING_STEP), 0);
        Dance.due("11 away, depth 12", d.hall.resolve(12), 11);
        Dance e = rings(13, 1);
        Dance.due("13 away, depth 12", e.hall.resolve(12), -1);
        Dance.due("rows", e.hall.rows(), 0);
        // a longer row is none beside a shorter one
        Dance f = Dance.with("allow all right; allow all left;");
        Dance.due("right", f.call("all right"), 0);
        Dance.due("resolve", f.hall.resolve(12), 1);
        Dance.due("rows", f.hall.rows(), 1);
    }

    private static void lastLevel() {
        Dance.says("the last level looked at is that of the told depth");
        int[] seen = {1, 2, 3, 4, 5, 6, 7, 8, 9, 10, 11, 12, 13};
        for (int depth = 0; depth <= 12; depth++) {
            Dance d = rings(13, 1);
            Dance.due("resolve(" + depth + ")", d.hall.resolve(depth), -1);
            Dance.due("seen", d.hall.about(11), seen[depth]);
        }
        // the level that has the aim is the last one
        Dance d = rings(3, 1);
        Dance.due("resolve(12)", d.hall.resolve(12), 3);
        Dance.due("seen", d.hall.about(11), 4);
    }

    private static void noneAllowed() {
        Dance.says("Rows of allowed steps (numbered from 0, as books tell them)");
        Dance d = Dance.ready();
        Dance.due("right", d.call("all right"), 0);
        Dance.due("nothing is allowed", d.hall.resolve(12), -1);
        Dance.due("seen", d.hall.about(11), 1);
        Dance.due("a book", d.load("allow all hold;"), 0);
        Dance.due("nothing leads there", d.hall.resolve(12), -1);
        Dance.due("seen", d.hall.about(11), 2);
        Dance.due("another book", d.load("allow all left;"), 0);
        Dance.due("resolve", d.hall.resolve(12), 1);
        Dance.due("cheapest", d.hall.cheapest(), 1);
        Dance.due("the second", d.hall.found(0), 1);
    }

    private static void mustBeDanced() {
        Dance.says("all must be danced");
        Dance d = Dance.with("allow dancer 16 left; allow all pass; allow all left & all left; allow dancer 0 meet; allow all left;");
        Dance.due("right", d.call("all right"), 0);
        Dance.due("resolve", d.hall.resolve(12), 1);
        Dance.due("rows", d.hall.rows(), 1);
        Dance.due("seen", d.hall.about(11), 2);
        Dance.due("row", d.hall.row(0), true);
        Dance.due("the only one that can be", d.hall.found(0), 4);
    }

    private static void scopeOfASearch() {
        Dance.says("all must be danced, the SCOPE being all");
        Dance d = Dance.with("part p{for larks{all right;all right;}} allow all left; allow not larks right;");
        Dance.due("begin", d.hall.begin(0), true);
        Dance.due("step", d.hall.step(), 1);
        // the run is within its for, the search is not: robins must be turned, too
        Dance.due("resolve", d.hall.resolve(12), 2);
        Dance.due("rows", d.hall.rows(), 2);
        Dance.due("the run goes on", d.hall.step(), 1);
        d.dueDancer(1, 8, 0, 0, 0);
    }

    private static void seenWithTheFirst() {
        Dance.says("Each that is met, the first, too, counts as SEEN.");
        Dance d = Dance.with("allow all right;");
        Dance.due("seen", d.hall.about(11), 0);
        Dance.due("resolve(0)", d.hall.resolve(0), 0);
        Dance.due("seen", d.hall.about(11), 1);
        Dance.due("right", d.call("all right"), 0);
        Dance.due("resolve(0)", d.hall.resolve(0), -1);
        Dance.due("seen", d.hall.about(11), 2);
        Dance.due("resolve(1)", d.hall.resolve(1), -1);
        Dance.due("seen", d.hall.about(11), 4);
        Dance.due("resolve(12)", d.hall.resolve(12), 3);
        Dance.due("seen", d.hall.about(11), 8);
        Dance.due("wrong", d.hall.resolve(13), -3);
        Dance.due("seen", d.hall.about(11), 8);
        Dance.due("set", d.hall.set(2, 2), true);
        Dance.due("seen", d.hall.about(11), 8);
    }

    private static void notMetBefore() {
        Dance.says("and that were not met before");
        Dance d = Dance.with("allow all right; allow all right; allow all hold; allow all left;");
        Dance.due("larks turn", d.call("larks right"), 0);
        // four states of all, whatever leads to them
        Dance.due("no way", d.hall.resolve(12), -1);
        Dance.due("seen", d.hall.about(11), 4);
        // turned, beats and steps are none of a state
        Dance e = Dance.with("allow all turn;");
        for (int i = 0; i < 4; i++) {
            Dance.due("right", e.call("all right"), 0);
        }
        Dance.due("a full turn is home", e.hall.resolve(0), 0);
        Dance.due("seen", e.hall.about(11), 1);
    }

    /** Six of sixteen can turn: 1, 6, 21, 56, 120, 216, 336, 456, 546 states in the levels 0 .. 8; the aim is out of reach. */
    private static Dance turners() {
        Dance d = Dance.with("allow dancer 0 right; allow dancer 1 right; allow dancer 2 right; allow dancer 3 right;"
            + " allow dancer 4 right; allow dancer 5 right;");
        d.hall.set(1, 8);
        Dance.due("one who can't turn back", d.call("dancer 15 right"), 0);
        return d;
    }

    /** 5 * 5 * 5 * 4 * 4 states, the farthest ten steps away. */
    private static Dance fives(String more) {
        String column = "dancer 0 or dancer 2 or dancer 4 or dancer 6 or dancer 8 ";
        String other = "dancer 1 or dancer 3 or dancer 5 or dancer 7 or dancer 9 ";
        String rest = "dancer 10 or dancer 11 or dancer 12 or dancer 13 or dancer 14 ";
        Dance d = Dance.with("form bar = 0 0 any, 0 4 any, 0 8 any, 0 12 any, 0 16 any;"
            + " form flag = 0 0 any, 0 4 any, 0 8 any, 4 0 any, 4 4 any;"
            + " figure bar1 on bar counts 1 price 1 = 0 4 0, 0 8 0, 0 12 0, 0 16 0, 0 0 0;"
            + " figure bar4 on bar counts 1 price 1 = 0 16 0, 0 0 0, 0 4 0, 0 8 0, 0 12 0;"
            + " figure flag1 on flag counts 1 price 1 = 0 4 0, 0 8 0, 4 0 0, 4 4 0, 0 0 0;"
            + " figure flag4 on flag counts 1 price 1 = 4 4 0, 0 0 0, 0 4 0, 0 8 0, 4 0 0;"
            + " allow " + column + "bar1; allow " + column + "bar4; allow " + other + "bar1; allow " + other + "bar4;"
            + " allow " + rest + "flag1; allow " + rest + "flag4; allow dancer 15 right; allow dancer 15 left;"
            + " allow dancer 0 right; allow dancer 0 left;" + more);
        d.hall.set(1, 8);
        String[] ways = {column + "bar1", column + "bar1", other + "bar1", other + "bar1", rest + "flag1", rest + "flag1",
            "dancer 15 turn", "dancer 0 turn"};
        for (String way : ways) {
            Dance.due("to the farthest", d.call(way), 0);
        }
        return d;
    }

    private static void state2000() {
        Dance.says("a state more would be the 2001st of this search: 2000 may be met");
        Dance d = fives("");
        // the last level has eight states, the last of them is the 2000th
        Dance.due("the aim is one of the last eight", d.hall.resolve(12), 10);
        Dance.due("seen", d.hall.about(11), 2000);
        Dance.due("nine levels are too few", d.hall.resolve(9), -1);
        Dance.due("seen", d.hall.about(11), 3992);
        Dance.due("another aim", d.call("dancer 5 right"), 0);
        d.hall.mark();
        Dance.due("back", d.hall.back(1), true);
        Dance.due("all 2000 are met, and none is it", d.hall.resolve(12), -1);
        Dance.due("seen", d.hall.about(11), 5992);
        Dance.due("eleven levels have no more", d.hall.resolve(11), -1);
        Dance.due("seen", d.hall.about(11), 7992);
    }

    private static void state2001() {
        Dance.says("When, before a level is whole, a state more would be the 2001st of this search .. OPEN .. (that one isn't counted)");
        Dance d = fives(" allow dancer 5 turn;");
        Dance.due("twice as many", d.hall.resolve(12), -2);
        Dance.due("seen", d.hall.about(11), 2000);
        Dance.due("rows", d.hall.rows(), 0);
        Dance.due("row", d.hall.row(0), false);
        Dance e = turners();
        Dance.due("1758 to level 8", e.hall.resolve(8), -1);
        Dance.due("seen", e.hall.about(11), 1758);
        Dance.due("level 9 is not whole", e.hall.resolve(9), -2);
        Dance.due("seen", e.hall.about(11), 3758);
        Dance.due("nor any behind it", e.hall.resolve(12), -2);
        Dance.due("seen", e.hall.about(11), 5758);
    }

    private static void whateverWasMet() {
        Dance.says("OPEN, whatever was met");
        Dance d = turners();
        d.hall.mark();
        // the aim is the first state of level 9, which is not whole
        Dance.due("three of one", d.call("dancer 0 right"), 0);
        Dance.due("three of two", d.call("dancer 1 right"), 0);
        Dance.due("three of three", d.call("dancer 2 right"), 0);
        Dance.due("it is in level 9", d.hall.resolve(12), -2);
        Dance.due("rows", d.hall.rows(), 0);
        Dance.due("cheapest", d.hall.cheapest(), -1);
        Dance.due("one less", d.call("dancer 2 right"), 0);
        Dance.due("it is in level 8, which is whole", d.hall.resolve(12), 8);
        // 8! / (3! 3! 2!)
        Dance.due("rows", d.hall.rows(), 560);
        Dance.due("seen", d.hall.about(11), 3758);
    }

    /** A hall whose searches have met 8000 states. */
    private static Dance met8000() {
        Dance d = turners();
        for (int i = 1; i <= 4; i++) {
            Dance.due("open", d.hall.resolve(12), -2);
            Dance.due("seen", d.hall.about(11), 2000 * i);
        }
        return d;
    }

    private static void dueSearch(Dance d, int depth, int answer, int seen) {
        Dance.due("resolve(" + depth + ")", d.hall.resolve(depth), answer);
        Dance.due("seen", d.hall.about(11), seen);
    }

    private static void state10000() {
        Dance.says("or the 10001st of all searches since this hall was made: 10000 may be met");
        Dance d = met8000();
        dueSearch(d, 8, -1, 9758);
        dueSearch(d, 4, -1, 9962);
        dueSearch(d, 0, -1, 9963);
        dueSearch(d, 0, -1, 9964);
        dueSearch(d, 0, -1, 9965);
        dueSearch(d, 1, -1, 9972);
        // 28 are left, and so many are met
        dueSearch(d, 2, -1, 10000);
        dueSearch(d, 0, -2, 10000);
    }

    private static void state10001() {
        Dance.says("the 10001st of all searches since this hall was made .. OPEN .. (that one isn't counted)");
        Dance d = met8000();
        dueSearch(d, 8, -1, 9758);
        dueSearch(d, 4, -1, 9962);
        dueSearch(d, 0, -1, 9963);
        dueSearch(d, 0, -1, 9964);
        dueSearch(d, 1, -1, 9971);
        dueSearch(d, 0, -1, 9972);
        dueSearch(d, 0, -1, 9973);
        // 27 are left of 28
        dueSearch(d, 2, -2, 10000);
        Dance e = met8000();
        // a set made anew, other books change nothing of it
        dueSearch(e, 8, -1, 9758);
        Dance.due("set", e.hall.set(1, 8), true);
        Dance.due("book", e.load("allow dancer 6 right;"), 0);
        Dance.due("one who can't turn back", e.call("dancer 15 right"), 0);
        dueSearch(e, 3, -1, 9758 + 120);
        dueSearch(e, 3, -1, 9758 + 240);
        dueSearch(e, 1, -2, 10000);
    }

    private static void alsoTheFirstOne() {
        Dance.says("(also the first one, then)");
        Dance d = met8000();
        dueSearch(d, 12, -2, 10000);
        Dance.due("right", d.call("all right"), 0);
        d.hall.mark();
        dueSearch(d, 0, -2, 10000);
        Dance.due("at the aim", d.hall.about(5), 1);
        Dance.due("rows", d.hall.rows(), 0);
        Dance.due("row", d.hall.row(0), false);
        Dance.due("set", d.hall.set(2, 1), true);
        dueSearch(d, 0, -2, 10000);
        dueSearch(d, 12, -2, 10000);
        Dance.due("a wrong depth", d.hall.resolve(13), -3);
        Dance e = met8000();
        dueSearch(e, 8, -1, 9758);
        dueSearch(e, 4, -1, 9962);
        dueSearch(e, 2, -1, 9990);
        dueSearch(e, 1, -1, 9997);
        e.hall.mark();
        dueSearch(e, 0, 0, 9998);
        dueSearch(e, 0, 0, 9999);
        dueSearch(e, 0, 0, 10000);
        Dance.due("the last that was found", e.hall.rows(), 1);
        dueSearch(e, 0, -2, 10000);
        Dance.due("is forgotten", e.hall.rows(), 0);
    }

    private static void forgotten() {
        Dance.says("What was found before is forgotten.");
        int[] depths = {0, 1, 2, 4};
        int[] answers = {-1, 1, 1, 1};
        for (int i = 0; i < depths.length; i++) {
            Dance d = Dance.busy();
            Dance.due("a row", d.hall.found(0), 1);
            Dance.due("resolve(" + depths[i] + ")", d.hall.resolve(depths[i]), answers[i]);
            Dance.due("no row", d.hall.found(0), -1);
            Dance.due("no row", d.hall.follow(), -1);
            Dance.due("rows", d.hall.rows(), answers[i] < 0 ? 0 : 1);
        }
        // also when it stays open
        Dance d = turners();
        Dance.due("left", d.call("dancer 15 left"), 0);
        Dance.due("at the aim", d.hall.resolve(0), 0);
        Dance.due("rows", d.hall.rows(), 1);
        Dance.due("row", d.hall.row(0), true);
        Dance.due("right", d.call("dancer 15 right"), 0);
        Dance.due("open", d.hall.resolve(12), -2);
        Dance.due("rows", d.hall.rows(), 0);
        Dance.due("row", d.hall.row(0), false);
        Dance.due("cheapest", d.hall.cheapest(), -1);
        Dance.due("draw", d.hall.draw(0, 0), false);
    }

    private static void countOfRows() {
        Dance.says("How many ROWS the latest resolve has found.");
        Dance d = Dance.with("allow all right; allow all right; allow all left; allow all turn;");
        Dance.due("none yet", d.hall.rows(), 0);
        Dance.due("turn", d.call("all turn"), 0);
        Dance.due("resolve(0)", d.hall.resolve(0), -1);
        Dance.due("none", d.hall.rows(), 0);
        Dance.due("resolve(1)", d.hall.resolve(1), 1);
        Dance.due("one", d.hall.rows(), 1);
        Dance.due("left", d.call("all left"), 0);
        Dance.due("resolve(2)", d.hall.resolve(2), 1);
        Dance.due("one", d.hall.rows(), 1);
        Dance.due("turn", d.call("all turn"), 0);
        Dance.due("still one", d.hall.rows(), 1);
        Dance.due("resolve(2)", d.hall.resolve(2), 1);
        Dance.due("two", d.hall.rows(), 2);
        Dance.due("a wrong one", d.hall.resolve(13), -3);
        Dance.due("still two", d.hall.rows(), 2);
        Dance.due("set", d.hall.set(0, 4), true);
        Dance.due("none", d.hall.rows(), 0);
    }

    private static void emptyRow() {
        Dance.says("The ROWS are all rows of as many steps as were told that lead to the AIM: of none there is one");
        Dance d = Dance.with("allow all right; allow all hold;");
        Dance.due("resolve", d.hall.resolve(12), 0);
        Dance.due("rows", d.hall.rows(), 1);
        Dance.due("row(1)", d.hall.row(1), false);
        Dance.due("row(0)", d.hall.row(0), true);
        Dance.due("found(0)", d.hall.found(0), -1);
        Dance.due("follow", d.hall.follow(), -1);
        Dance.due("draw", d.hall.draw(-1, -1), true);
        Dance.due("cheapest", d.hall.cheapest(), 0);
        Dance.due("found(0)", d.hall.found(0), -1);
    }

    private static void mostRows() {
        Dance.says("How many ROWS: 32 to the 12 at most");
        Dance d = rings(12, 32);
        Dance.due("resolve", d.hall.resolve(12), 12);
        Dance.due("rows", d.hall.rows(), 1L << 60);
        Dance.due("the last that can be told", d.hall.row(MOST), true);
        // 2 to the 31 - 1: six fives of bits and a one above them
        for (int i = 0; i < 12; i++) {
            Dance.due("step " + i, d.hall.found(i), i < 5 ? 0 : i == 5 ? 1 : 31);
        }
        Dance.due("the last of all", d.hall.draw(-1, -1), true);
        for (int i = 0; i < 12; i++) {
            Dance.due("step " + i, d.hall.found(i), 31);
        }
        Dance.due("w / 16", d.hall.draw(0x12345678, 0x9ABCDEF7), true);
        for (int i = 0; i < 12; i++) {
            Dance.due("step " + i, d.hall.found(i), 0x123456789ABCDEFL >> 5 * (11 - i) & 31);
        }
        Dance.due("none below 0", d.hall.row(-1), false);
        Dance.due("none below 0", d.hall.row(LEAST), false);
    }

    private static void all32Allows() {
        Dance.says("Rows of allowed steps (numbered from 0, as books tell them): 32 at most");
        Dance d = Dance.with(Dance.many("allow larks right; allow robins right;", 16));
        Dance.due("left", d.call("all left"), 0);
        Dance.due("resolve", d.hall.resolve(12), 2);
        // one of 16 for larks, one of 16 for robins, in either order
        Dance.due("rows", d.hall.rows(), 512);
        Dance.due("seen", d.hall.about(11), 6);
        int[][] due = {{0, 0, 1}, {15, 0, 31}, {16, 1, 0}, {31, 1, 30}, {511, 31, 30}};
        for (int[] row : due) {
            Dance.due("row(" + row[0] + ")", d.hall.row(row[0]), true);
            Dance.due("step 0", d.hall.found(0), row[1]);
            Dance.due("step 1", d.hall.found(1), row[2]);
        }
        Dance.due("row(512)", d.hall.row(512), false);
        Dance.due("cheapest", d.hall.cheapest(), 2);
        Dance.due("step 0", d.hall.found(0), 0);
        Dance.due("draw", d.hall.draw(-1, -1), true);
        Dance.due("follow", d.hall.follow(), 0);
        Dance.due("follow", d.hall.follow(), 0);
        Dance.due("home", d.hall.about(4), 1);
    }

    private static void orderOfRows() {
        Dance.says("Their order: by the first step in which they differ.");
        Dance d = Dance.with("allow larks right; allow all hold; allow robins right; allow larks right;");
        Dance.due("left", d.call("all left"), 0);
        Dance.due("resolve", d.hall.resolve(12), 2);
        Dance.due("rows", d.hall.rows(), 4);
        int[][] due = {{0, 2}, {2, 0}, {2, 3}, {3, 2}};
        for (int k = 0; k < 4; k++) {
            Dance.due("row(" + k + ")", d.hall.row(k), true);
            Dance.due("step 0", d.hall.found(0), due[k][0]);
            Dance.due("step 1", d.hall.found(1), due[k][1]);
        }
    }

    private static void noSuchRow() {
        Dance.says("ROW k, from 0 on, is the one found: true; false, changing nothing, if there is none such.");
        Dance d = Dance.with("allow larks right; allow robins right;");
        Dance.due("nothing is found", d.hall.row(0), false);
        Dance.due("left", d.call("all left"), 0);
        Dance.due("resolve", d.hall.resolve(12), 2);
        int[] none = {-1, 2, 3, LEAST, MOST};
        for (int k : none) {
            Dance.due("row(" + k + ")", d.hall.row(k), false);
            Dance.due("no row is found", d.hall.found(0), -1);
        }
        Dance.due("the last", d.hall.row(1), true);
        Dance.due("its first step", d.hall.found(0), 1);
        Dance.due("the first", d.hall.row(0), true);
        Dance.due("its first step", d.hall.found(0), 0);
        Dance.due("no way", d.hall.resolve(1), -1);
        Dance.due("nothing is found", d.hall.row(0), false);
    }

    private static void refusedRow() {
        Dance.says("false, changing nothing, if there is none such");
        int[] none = {-1, 2, LEAST, MOST};
        for (int k : none) {
            Dance d = Dance.busy();
            String before = d.state();
            Dance.due("row(" + k + ")", d.hall.row(k), false);
            d.dueGoesOn("row(" + k + ")", before);
        }
    }

    private static void dueDraw(Dance d, int a, int b, int row) {
        Dance.due("draw(" + a + ", " + b + ")", d.hall.draw(a, b), true);
        Dance.due("its row", d.hall.found(0), row);
    }

    private static void drawWithoutSign() {
        Dance.says("With w = a * 2 to the 32 + b, both taken without sign");
        Dance d = Dance.with("allow all right; allow all right;");
        Dance.due("left", d.call("all left"), 0);
        Dance.due("resolve", d.hall.resolve(1), 1);
        dueDraw(d, 0, 0, 0);
        dueDraw(d, MOST, -1, 0);
        dueDraw(d, LEAST, 0, 1);
        dueDraw(d, -1, 0, 1);
        dueDraw(d, -1, -1, 1);
        dueDraw(d, 0, -1, 0);
        Dance e = Dance.with("allow all right; allow all right; allow all right;");
        Dance.due("left", e.call("all left"), 0);
        Dance.due("resolve", e.hall.resolve(1), 1);
        // 2 to the 64 / 3 is 0x55555555 55555555 and a third
        dueDraw(e, 0x55555555, 0x55555555, 0);
        dueDraw(e, 0x55555555, 0x55555556, 1);
        dueDraw(e, 0xAAAAAAAA, 0xAAAAAAAA, 1);
        dueDraw(e, 0xAAAAAAAA, 0xAAAAAAAB, 2);
        dueDraw(e, -1, -1, 2);
    }

    private static void drawCut() {
        Dance.says("the row with the number w * rows() / 2 to the 64, cut, is the one found: true");
        Dance d = Dance.with(Dance.many("allow all right;", 31));
        Dance.due("left", d.call("all left"), 0);
        Dance.due("resolve", d.hall.resolve(1), 1);
        BigInteger all = BigInteger.ONE.shiftLeft(64);
        for (int k = 1; k < 31; k++) {
            BigInteger first = all.multiply(BigInteger.valueOf(k)).add(BigInteger.valueOf(30)).divide(BigInteger.valueOf(31));
            dueDraw(d, first.shiftRight(32).intValue(), first.intValue(), k);
            BigInteger ahead = first.subtract(BigInteger.ONE);
            dueDraw(d, ahead.shiftRight(32).intValue(), ahead.intValue(), k - 1);
        }
    }

    private static void drawOfNone() {
        Dance.says("false if there are none");
        Dance d = Dance.with("allow all right;");
        Dance.due("ahead of all searches", d.hall.draw(0, 0), false);
        Dance.due("ahead of all searches", d.hall.draw(-1, -1), false);
        Dance.due("left", d.call("larks left"), 0);
        Dance.due("no way", d.hall.resolve(12), -1);
        String before = d.state();
        Dance.due("draw", d.hall.draw(-1, -1), false);
        Dance.due("draw", d.hall.draw(0, 0), false);
        Dance.due("draw changes nothing", d.state(), before);
        Dance.due("follow", d.hall.follow(), -1);
    }

    private static void firstOfTheCheapest() {
        Dance.says("The first of the ROWS with the least price is the one found: its price");
        Dance d = Dance.with("figure dear on any1 counts 1 price 1000 = 0 0 1; figure cheap on any1 counts 1 price 3 = 0 0 1;"
            + " figure free on any1 counts 1 price 0 = 0 0 1;"
            + " allow larks dear; allow larks cheap; allow robins cheap; allow larks cheap; allow robins dear;");
        Dance.due("left", d.call("all left"), 0);
        Dance.due("resolve", d.hall.resolve(2), 2);
        Dance.due("rows", d.hall.rows(), 12);
        Dance.due("the last", d.hall.row(11), true);
        Dance.due("cheapest", d.hall.cheapest(), 6);
        // 1 2 ahead of 2 1, 2 3, 3 2
        Dance.due("step 0", d.hall.found(0), 1);
        Dance.due("step 1", d.hall.found(1), 2);
        Dance.due("step 2", d.hall.found(2), -1);
        Dance.due("of no price", d.load("allow robins free; allow larks free;"), 0);
        Dance.due("not in what was found", d.hall.cheapest(), 6);
        Dance.due("resolve", d.hall.resolve(2), 2);
        Dance.due("cheapest", d.hall.cheapest(), 0);
        Dance.due("step 0", d.hall.found(0), 5);
        Dance.due("step 1", d.hall.found(1), 6);
        // a dear first step may have a cheap one behind it: robins turn for nothing if their lark faces up
        Dance e = Dance.with("form near = 0 0 n lark, 4 0 w robin; figure ten on any1 counts 1 price 10 = 0 0 1;"
            + " figure one on any1 counts 1 price 1 = 0 0 1; figure free on any1 counts 1 price 0 = 0 0 1;"
            + " allow robins one; allow larks ten; allow at near 1 free;");
        Dance.due("set", e.hall.set(2, 1), true);
        Dance.due("left", e.call("all left"), 0);
        Dance.due("resolve", e.hall.resolve(2), 2);
        Dance.due("rows", e.hall.rows(), 3);
        Dance.due("cheapest", e.hall.cheapest(), 10);
        Dance.due("step 0", e.hall.found(0), 1);
        Dance.due("step 1", e.hall.found(1), 2);
    }

    private static void dearest() {
        Dance.says("A row's price: the sum of the prices of all its figures.");
        Dance d = rings(12, 1);
        Dance.due("resolve", d.hall.resolve(12), 12);
        Dance.due("12 steps of 4 figures of 1000", d.hall.cheapest(), 48000);
        Dance e = rings(1, 1);
        Dance.due("resolve", e.hall.resolve(12), 1);
        Dance.due("4 figures of 1000", e.hall.cheapest(), 4000);
    }

    private static void priceOfALaterSearch() {
        Dance.says("The first of the ROWS with the least price: of the latest resolve");
        Dance d = Dance.with("allow all right;");
        Dance.due("right", d.call("all right"), 0);
        for (int away = 3; away >= 0; away--) {
            Dance.due("resolve", d.hall.resolve(12), away);
            Dance.due("rows", d.hall.rows(), 1);
            Dance.due("cheapest", d.hall.cheapest(), away);
            Dance.due("its last step", d.hall.found(away - 1), away == 0 ? -1 : 0);
            Dance.due("behind it", d.hall.found(away), -1);
            Dance.due("right", d.call("all right"), 0);
        }
        Dance.due("more steps", d.load("allow larks right; allow robins right; allow all left;"), 0);
        Dance.due("set", d.hall.set(0, 4), true);
        Dance.due("larks alone", d.call("larks right"), 0);
        Dance.due("all left and robins right", d.hall.resolve(12), 2);
        Dance.due("rows", d.hall.rows(), 2);
        Dance.due("cheapest", d.hall.cheapest(), 2);
        Dance.due("away again", d.call("all turn"), 0);
        Dance.due("too far", d.hall.resolve(1), -1);
        Dance.due("turn back", d.call("all turn"), 0);
        Dance.due("robins, too", d.call("robins right"), 0);
        Dance.due("all left", d.hall.resolve(12), 1);
        Dance.due("rows", d.hall.rows(), 1);
        Dance.due("cheapest", d.hall.cheapest(), 1);
    }

    private static void cheapestOfNone() {
        Dance.says("NONE if there are none.");
        Dance d = Dance.with("allow all right;");
        Dance.due("ahead of all searches", d.hall.cheapest(), -1);
        Dance.due("left", d.call("larks left"), 0);
        Dance.due("no way", d.hall.resolve(12), -1);
        String before = d.state();
        Dance.due("cheapest", d.hall.cheapest(), -1);
        Dance.due("cheapest changes nothing", d.state(), before);
    }

    private static void foundSteps() {
        Dance.says("Step i of the row that is found, the first 0: the number of an allowed one; NONE if there is none.");
        Dance d = Dance.busy();
        Dance.due("found(0)", d.hall.found(0), 1);
        Dance.due("found(1)", d.hall.found(1), 0);
        int[] none = {-1, 2, 3, 11, 12, 13, LEAST, MOST};
        for (int i : none) {
            Dance.due("found(" + i + ")", d.hall.found(i), -1);
        }
        Dance e = rings(12, 1);
        Dance.due("resolve", e.hall.resolve(12), 12);
        Dance.due("row", e.hall.row(0), true);
        Dance.due("found(11)", e.hall.found(11), 0);
        Dance.due("found(12)", e.hall.found(12), -1);
    }

    private static void noneFoundYet() {
        Dance.says("the row that is found: behind a resolve there is none until row, draw or cheapest");
        Dance d = Dance.with("allow all right;");
        Dance.due("left", d.call("all left"), 0);
        Dance.due("found", d.hall.found(0), -1);
        Dance.due("resolve", d.hall.resolve(1), 1);
        Dance.due("found", d.hall.found(0), -1);
        Dance.due("follow", d.hall.follow(), -1);
        Dance.due("row", d.hall.row(0), true);
        Dance.due("found", d.hall.found(0), 0);
        Dance.due("resolve", d.hall.resolve(1), 1);
        Dance.due("found", d.hall.found(0), -1);
        Dance.due("draw", d.hall.draw(0, 0), true);
        Dance.due("found", d.hall.found(0), 0);
        Dance.due("resolve", d.hall.resolve(1), 1);
        Dance.due("found", d.hall.found(0), -1);
        Dance.due("cheapest", d.hall.cheapest(), 1);
        Dance.due("found", d.hall.found(0), 0);
    }

    private static void followNext() {
        Dance.says("The next step of the row that is found is danced .. 0");
        Dance d = rings(12, 1);
        Dance.due("resolve", d.hall.resolve(12), 12);
        Dance.due("row", d.hall.row(0), true);
        for (int i = 0; i < 12; i++) {
            Dance.due("home", d.hall.about(4), 0);
            Dance.due("follow " + i, d.hall.follow(), 0);
        }
        Dance.due("home", d.hall.about(4), 1);
        Dance.due("the row's end", d.hall.follow(), -1);
        Dance.due("the row's end", d.hall.follow(), -1);
        Dance.due("steps", d.hall.about(2), 15);
        Dance.due("history", d.hall.about(3), 15);
        Dance.due("beats", d.hall.about(1), 15);
    }

    private static void followThatFails() {
        Dance.says("1 .. 5 for what it fails (it stays the next one)");
        dueFollowFails(1, "all hold", "facing n right", "all right", "all left", 1);
        dueFollowFails(1, "larks right", "robins right & facing e hold", "robins right", "robins left", 2);
        dueFollowFails(2, "all hold", "all pass", "all right", "all left", 3);
        tooHardToFollow();
        intoAnotherByFollow();
    }

    /** A row of one step, which is spoiled by another, and mended again. */
    private static void dueFollowFails(int couples, String ahead, String allowed, String spoil, String mend, int answer) {
        Dance d = Dance.with("allow " + allowed + ";");
        Dance.due("set", d.hall.set(2, couples), true);
        Dance.due(ahead, d.call(ahead), 0);
        Dance.due("the aim by " + allowed, d.call(allowed), 0);
        d.hall.mark();
        Dance.due("back", d.hall.back(1), true);
        Dance.due("resolve", d.hall.resolve(1), 1);
        Dance.due("row", d.hall.row(0), true);
        Dance.due(spoil, d.call(spoil), 0);
        Dance.due("a failure ahead", d.hall.may(0), answer);
        String before = d.state();
        Dance.due(allowed + " behind " + spoil, d.hall.follow(), answer);
        Dance.due("again", d.hall.follow(), answer);
        Dance.due("nobody moved", d.state(), before);
        Dance.due(mend, d.call(mend), 0);
        Dance.due("it is still the next one", d.hall.follow(), 0);
        Dance.due("at the aim", d.hall.about(5), 1);
        Dance.due("the row's end", d.hall.follow(), -1);
    }

    private static void tooHardToFollow() {
        Dance d = Dance.with("allow facing e cross;");
        d.hall.set(1, 8);
        Dance.due("all face right", d.call("robins turn"), 0);
        Dance.due("the aim", d.call("all cross"), 0);
        d.hall.mark();
        Dance.due("back", d.hall.back(1), true);
        Dance.due("resolve", d.hall.resolve(1), 1);
        Dance.due("row", d.hall.row(0), true);
        Dance.due("two do not", d.call("dancer 12 or dancer 15 turn"), 0);
        Dance.due("too hard", d.hall.follow(), 4);
        d.dueFailed(4, 0, -1);
        Dance.due("all do again", d.call("dancer 12 or dancer 15 turn"), 0);
        Dance.due("it is still the next one", d.hall.follow(), 0);
        Dance.due("at the aim", d.hall.about(5), 1);
    }

    private static void intoAnotherByFollow() {
        Dance d = Dance.with("allow dancer 0 meet;");
        Dance.due("out of the way", d.call("dancer 1 meet"), 0);
        Dance.due("the aim", d.call("dancer 0 meet"), 0);
        d.hall.mark();
        Dance.due("back", d.hall.back(1), true);
        Dance.due("resolve", d.hall.resolve(1), 1);
        Dance.due("row", d.hall.row(0), true);
        Dance.due("back", d.hall.back(1), true);
        Dance.due("into another", d.hall.follow(), 5);
        d.dueFailed(5, 0, 1);
        Dance.due("history", d.hall.about(3), 0);
        Dance.due("out of the way", d.call("dancer 1 meet"), 0);
        Dance.due("it is still the next one", d.hall.follow(), 0);
        Dance.due("at the aim", d.hall.about(5), 1);
    }

    private static void followOfNone() {
        Dance.says("NONE if there is none.");
        Dance d = Dance.with("allow all right;");
        String before = d.state();
        Dance.due("ahead of all searches", d.hall.follow(), -1);
        Dance.due("follow changes nothing", d.state(), before);
        Dance.due("resolve", d.hall.resolve(3), 0);
        Dance.due("row", d.hall.row(0), true);
        Dance.due("of a row without steps", d.hall.follow(), -1);
        Dance.due("steps", d.hall.about(2), 0);
    }

    private static void firstIsTheNext() {
        Dance.says("(Behind row, draw, cheapest the first one is the next.)");
        for (int way = 0; way < 3; way++) {
            Dance d = Dance.busy();
            // the second step of row 1 is the next one, larks left; by row 0 its first one is, by draw and cheapest, too
            Dance.due("row 0 again", way == 0 ? d.hall.row(0) : way == 1 ? d.hall.draw(0, 0) : d.hall.cheapest() == 2, true);
            Dance.due("follow", d.hall.follow(), 0);
            Dance.due("at the aim", d.hall.about(5), 1);
            Dance.due("the second", d.hall.follow(), 0);
            Dance.due("beyond the aim", d.hall.about(5), 0);
            d.dueDancer(1, 8, 0, 2, 2);
            Dance.due("the row's end", d.hall.follow(), -1);
            Dance.due("the same row", d.hall.row(0), true);
            Dance.due("from its first one on", d.hall.follow(), 0);
            Dance.due("and its second", d.hall.follow(), 0);
            Dance.due("the row's end", d.hall.follow(), -1);
        }
    }

    private static void scopeOfAFollow() {
        Dance.says("is danced, the SCOPE being all: 0");
        Dance d = Dance.with("part p{for larks{all right;all right;}} allow all left;");
        Dance.due("right", d.call("all right"), 0);
        Dance.due("resolve", d.hall.resolve(1), 1);
        Dance.due("row", d.hall.row(0), true);
        Dance.due("begin", d.hall.begin(0), true);
        Dance.due("larks", d.hall.step(), 1);
        Dance.due("all", d.hall.follow(), 0);
        d.dueDancer(0, 4, 0, 1, 1);
        d.dueDancer(1, 8, 0, 0, 0);
        Dance.due("the run goes on", d.hall.step(), 1);
        d.dueDancer(0, 4, 0, 2, 2);
        d.dueDancer(1, 8, 0, 0, 0);
        Dance.due("back over both", d.hall.back(2), true);
        Dance.due("larks again", d.hall.step(), 1);
        d.dueDancer(1, 8, 0, 1, 1);
    }
}
