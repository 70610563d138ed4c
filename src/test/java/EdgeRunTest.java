/** A RUN, its ACTS, the HISTORY, promises 10 begin, 11 step, 12 back: each sentence that names a limit. */
public final class EdgeRunTest {
    private static final int MOST = Integer.MAX_VALUE;
    private static final int LEAST = Integer.MIN_VALUE;

    public static void main(String[] args) {
        doAPart();
        repeatSoManyTimes();
        untilItHolds();
        untilSoManyTimes();
        forNobody();
        forWithinParts();
        actsOfDo();
        actsOfAWholeCondition();
        actsOfInAtForms();
        actsOfFor();
        actsOfRepeat();
        actsOfUntil();
        actsTogether();
        sinceTheLastStep();
        sinceTheBeginning();
        noSuchPart();
        inPlaceOfOne();
        stepAnswers();
        noRunAnyMore();
        noneIfThereIsNone();
        latest200();
        aheadOfEach();
        theRunAheadOfEach();
        deepestRun();
        backToNone();
        notSoMany();
        refusedBack();
        historyEndsThere();
        whatStays();
        Dance.finish("EdgeRunTest");
    }

    /** Statements that are so many acts, 64 at least. */
    private static String acts(int n) {
        int inner = (n - 64) / 64;
        int rest = n - 64 - 64 * inner;
        return (inner > 0 ? "repeat 64{repeat " + inner + "{}}" : "repeat 64{}") + (rest > 0 ? "repeat " + rest + "{}" : "");
    }

    /** A run of a part: so many steps, then an end. */
    private static void dueRun(Dance d, int part, int steps, int end) {
        Dance.due("begin(" + part + ")", d.hall.begin(part), true);
        for (int i = 0; i < steps; i++) {
            Dance.due("step " + i + " of part " + part, d.hall.step(), 1);
        }
        Dance.due("the end of part " + part, d.hall.step(), end);
        Dance.due("no run", d.hall.about(10), 0);
    }

    private static void doAPart() {
        Dance.says("do: that part's statements.");
        Dance d = Dance.with("part none{} part one{all right;} part two{do one;do none;do one;} part three{do none;do none;}");
        dueRun(d, 0, 0, 0);
        dueRun(d, 1, 1, 0);
        dueRun(d, 2, 2, 0);
        dueRun(d, 3, 0, 0);
        // as deep as parts can be: 60 in one another
        StringBuilder text = new StringBuilder("part p0{all right;}");
        for (int i = 1; i < 60; i++) {
            text.append("part p").append(i).append("{do p").append(i - 1).append(";}");
        }
        Dance e = Dance.with(text.toString());
        dueRun(e, 59, 1, 0);
        Dance.due("back", e.hall.back(1), true);
        Dance.due("the run that was there ahead of its step", e.hall.about(10), 1);
        Dance.due("step", e.hall.step(), 1);
        Dance.due("end", e.hall.step(), 0);
        Dance.due("turned once", e.hall.dancer(0, 3), 1);
    }

    private static void repeatSoManyTimes() {
        Dance.says("repeat: so many times.");
        Dance d = Dance.with("part p{repeat 1{all right;}} part q{repeat 64{all right;}} part r{repeat 2{repeat 3{all right;}all left;}}"
            + " part t{repeat 64{}all right;}");
        dueRun(d, 0, 1, 0);
        dueRun(d, 1, 64, 0);
        Dance.due("turned", d.hall.dancer(0, 3), 65);
        dueRun(d, 2, 8, 0);
        Dance.due("turned", d.hall.dancer(0, 3), 69);
        dueRun(d, 3, 1, 0);
    }

    private static void untilItHolds() {
        Dance.says("until: the CONDITION is looked at ahead of each time; it is over when that holds");
        Dance d = Dance.with("part p{until home most 64{all right;}} part q{until count facing n is 8 most 64{larks right;}}"
            + " part r{until not home most 64{all right;}}");
        // it holds at first
        dueRun(d, 0, 0, 0);
        Dance.due("turn", d.call("all turn"), 0);
        // it holds behind the second time
        dueRun(d, 0, 2, 0);
        Dance.due("home", d.hall.about(4), 1);
        dueRun(d, 2, 1, 0);
        dueRun(d, 2, 0, 0);
        // in the midst of a time it isn't looked at
        Dance e = Dance.with("part p{until home most 2{all right;all left;all right;}}");
        Dance.due("right", e.call("all right"), 0);
        dueRun(e, 0, 6, 0);
    }

    private static void untilSoManyTimes() {
        Dance.says("or behind so many times.");
        Dance d = Dance.with("part p{until count all is 0 most 1{all right;}} part q{until count all is 0 most 64{all right;}}"
            + " part r{until count all is 0 most 2{until count all is 0 most 3{all right;}}}");
        dueRun(d, 0, 1, 0);
        dueRun(d, 1, 64, 0);
        dueRun(d, 2, 6, 0);
        // each time that it is come to it has so many again
        Dance e = Dance.with("part p{repeat 3{until count all is 0 most 2{all right;}}}");
        dueRun(e, 0, 6, 0);
    }

    private static void forNobody() {
        Dance.says("for: with this SCOPE (also with nobody in it)");
        Dance d = Dance.with("part p{for dancer 63{if count all is 0{}else{all hold;}}all hold;} part q{for not all{all hold;}}"
            + " part r{for dancer 63{}} part t{for dancer 63{if forms box all{}else{all hold;}}}"
            + " part u{for dancer 63{repeat 2{if home{}else{all hold;}}}}");
        dueRun(d, 0, 1, 0);
        dueRun(d, 1, 0, 2);
        d.dueFailed(1, -1, -1);
        dueRun(d, 2, 0, 0);
        dueRun(d, 3, 0, 0);
        dueRun(d, 4, 0, 0);
    }

    private static void forWithinParts() {
        Dance.says("within the parts that are done there, too.");
        Dance d = Dance.with("part p{all right;} part q{for heads{do p;}all right;} part r{for larks{do q;do p;}do p;}");
        Dance.due("begin", d.hall.begin(2), true);
        Dance.due("larks of heads", d.hall.step(), 1);
        d.dueDancer(0, 4, 0, 1, 1);
        d.dueDancer(1, 8, 0, 0, 0);
        d.dueDancer(2, 12, 4, 3, 0);
        Dance.due("larks, behind the inner for", d.hall.step(), 1);
        d.dueDancer(0, 4, 0, 2, 2);
        d.dueDancer(1, 8, 0, 0, 0);
        d.dueDancer(2, 12, 4, 0, 1);
        Dance.due("larks, behind the inner part", d.hall.step(), 1);
        d.dueDancer(1, 8, 0, 0, 0);
        Dance.due("all, behind the for", d.hall.step(), 1);
        d.dueDancer(1, 8, 0, 1, 1);
        d.dueDancer(2, 12, 4, 2, 3);
        Dance.due("end", d.hall.step(), 0);
    }

    /** That an item is so many acts: with it there may be 2000, and with one more ahead of it it is idle. */
    private static void dueActs(String item, int cost) {
        Dance d = Dance.with("part x{} part xx{do x;} part p{" + acts(2000 - cost) + item + "all hold;} part q{" + acts(2001 - cost) + item
            + "all hold;} part r{" + acts(2000 - cost) + item + "}");
        Dance.due("begin", d.hall.begin(2), true);
        Dance.due("2000 with " + item, d.hall.step(), 1);
        Dance.due("end", d.hall.step(), 0);
        Dance.due("begin", d.hall.begin(3), true);
        Dance.due("2001 with " + item, d.hall.step(), 3);
        Dance.due("begin", d.hall.begin(4), true);
        Dance.due("2000 and the end with " + item, d.hall.step(), 0);
        Dance.due("steps", d.hall.about(2), 1);
    }

    private static void actsOfDo() {
        Dance.says("ACTS are each do");
        dueActs("do x;", 1);
        dueActs("do x;do x;", 2);
        dueActs("do xx;", 2);
        dueActs("if home{do x;}", 2);
        dueActs("if home{}else{do x;}", 1);
    }

    private static void actsOfAWholeCondition() {
        Dance.says("each CONDITION looked at (a whole one");
        dueActs("if home{}", 1);
        dueActs("if not home{}else{}", 1);
        dueActs("if not(home and home)or home and home{}", 1);
        dueActs("if count all is 3{}", 1);
        dueActs("if count larks or not robins is 3 and home{}", 1);
        dueActs("if home{if home{}}", 2);
    }

    private static void actsOfInAtForms() {
        Dance.says("and each in, at, forms of it");
        dueActs("if count in box is 0{}", 2);
        dueActs("if count at box 3 is 0{}", 2);
        dueActs("if forms box all{}", 2);
        dueActs("if forms box in box{}", 3);
        dueActs("if not(not count not(in box)is 0){}", 2);
        dueActs("if (forms box in box or at box 0)and count in duo is 0 or home{}", 5);
        // also what would not be needed to know it
        dueActs("if home or count in box is 0{}", 2);
        dueActs("if not home and count in box is 0{}", 2);
        // those of a STEP are none
        Dance d = Dance.with("part p{" + acts(2000) + "in pair and at pair 0 hold;" + acts(2000) + "at pair 1 hold;}");
        dueRun(d, 0, 2, 0);
    }

    private static void actsOfFor() {
        Dance.says("each for (also of nobody) and each in, at of its WHO");
        dueActs("for all{}", 1);
        dueActs("for dancer 40{}", 1);
        dueActs("for in box{}", 2);
        dueActs("for at box 0{}", 2);
        dueActs("for at box 0 or in duo{}", 3);
        dueActs("for not(in box and at box 0){}", 3);
        dueActs("for dancer 40{do x;}", 2);
        dueActs("for all{for all{}}", 2);
    }

    private static void actsOfRepeat() {
        Dance.says("each time of a repeat that is begun");
        dueActs("repeat 1{}", 1);
        dueActs("repeat 2{}", 2);
        dueActs("repeat 64{}", 64);
        dueActs("repeat 2{do x;}", 4);
        dueActs("repeat 2{repeat 3{}}", 8);
    }

    private static void actsOfUntil() {
        Dance.says("(a whole one; behind the last time of an until it isn't)");
        dueActs("until home most 64{}", 1);
        dueActs("until not home most 1{}", 1);
        dueActs("until not home most 3{}", 3);
        dueActs("until not home most 64{}", 64);
        dueActs("until count in box is 1 most 2{}", 4);
        dueActs("until count in box is 0 most 2{}", 2);
        dueActs("until not home most 2{do x;}", 4);
        dueActs("until forms box in box most 5{}", 3);
    }

    private static void actsTogether() {
        Dance.says("(those of a CONDITION, of a for, count together): when there would be more than 2000 .. it is IDLE");
        // behind 1999, 1998 and 1997 a condition of three
        for (int ahead = 1996; ahead <= 2000; ahead++) {
            Dance d = Dance.with("part p{" + acts(ahead) + "if forms box in box{}all hold;} part q{" + acts(ahead)
                + "for in box or in duo{}all hold;}");
            Dance.due("begin", d.hall.begin(0), true);
            Dance.due(ahead + " and a CONDITION", d.hall.step(), ahead <= 1997 ? 1 : 3);
            Dance.due("begin", d.hall.begin(1), true);
            Dance.due(ahead + " and a for", d.hall.step(), ahead <= 1997 ? 1 : 3);
        }
    }

    private static void sinceTheLastStep() {
        Dance.says("more than 2000 since the last STEP that was come to");
        Dance d = Dance.with("part p{" + acts(2000) + "all hold;" + acts(2000) + "all hold;" + acts(2000) + "} part q{" + acts(2000)
            + "all hold;" + acts(2001) + "all hold;} part r{repeat 3{" + acts(1999) + "all hold;}}");
        dueRun(d, 0, 2, 0);
        dueRun(d, 1, 1, 3);
        dueRun(d, 2, 3, 0);
        // one that is gone back to counts no more
        Dance.due("begin", d.hall.begin(0), true);
        Dance.due("step", d.hall.step(), 1);
        Dance.due("step", d.hall.step(), 1);
        Dance.due("back", d.hall.back(1), true);
        Dance.due("step", d.hall.step(), 1);
        Dance.due("a call between is none of the run's", d.call("all hold"), 0);
        Dance.due("end", d.hall.step(), 0);
    }

    private static void sinceTheBeginning() {
        Dance.says("(the RUN's beginning)");
        Dance d = Dance.with("part p{" + acts(2000) + "} part q{" + acts(2001) + "} part r{" + acts(2000) + "all hold;}");
        dueRun(d, 0, 0, 0);
        dueRun(d, 0, 0, 0);
        dueRun(d, 1, 0, 3);
        dueRun(d, 0, 0, 0);
        dueRun(d, 2, 1, 0);
        Dance.due("begin", d.hall.begin(2), true);
        Dance.due("begin again", d.hall.begin(2), true);
        Dance.due("step", d.hall.step(), 1);
    }

    private static void noSuchPart() {
        Dance.says("false if there is no such part (one that is there goes on)");
        int[] none = {-1, 1, 2, 59, 60, LEAST, MOST};
        for (int part : none) {
            Dance d = Dance.busy();
            String before = d.state();
            Dance.due("begin(" + part + ")", d.hall.begin(part), false);
            d.dueGoesOn("begin(" + part + ")", before);
        }
        Dance d = Dance.ready();
        Dance.due("no part at all", d.hall.begin(0), false);
        Dance.due("no run", d.hall.about(10), 0);
        Dance.due("no run", d.hall.step(), -1);
        Dance.due("a part", d.load("part p{}"), 0);
        Dance.due("begin(1)", d.hall.begin(1), false);
        Dance.due("no run", d.hall.about(10), 0);
        Dance.due("begin(0)", d.hall.begin(0), true);
        Dance.due("a run", d.hall.about(10), 1);
    }

    private static void inPlaceOfOne() {
        Dance.says("A RUN of a part begins, in place of one there may be: true");
        Dance d = Dance.with("part p{for larks{all right;all right;}} part q{all turn;}");
        Dance.due("begin", d.hall.begin(0), true);
        Dance.due("step", d.hall.step(), 1);
        Dance.due("another", d.hall.begin(1), true);
        Dance.due("its first step, of all", d.hall.step(), 1);
        d.dueDancer(1, 8, 0, 2, 2);
        Dance.due("its end, not that of the first", d.hall.step(), 0);
        Dance.due("begin", d.hall.begin(0), true);
        Dance.due("step", d.hall.step(), 1);
        Dance.due("the same anew", d.hall.begin(0), true);
        Dance.due("its first step", d.hall.step(), 1);
        Dance.due("its second step", d.hall.step(), 1);
        Dance.due("its end", d.hall.step(), 0);
        Dance.due("turned", d.hall.dancer(0, 3), 6);
        Dance.due("nobody moves by a begin", d.hall.begin(0), true);
        Dance.due("turned", d.hall.dancer(0, 3), 6);
        Dance.due("history", d.hall.about(3), 5);
    }

    private static void stepAnswers() {
        Dance.says("The RUN goes on to its next STEP, which is danced: 1; 0: it was at its end; 2: the STEP failed; 3: IDLE");
        Dance d = Dance.with("part p{all right;} part q{dancer 0 meet;} part r{" + acts(2001) + "} part t{}");
        Dance.due("begin", d.hall.begin(0), true);
        Dance.due("danced", d.hall.step(), 1);
        Dance.due("behind its last STEP it is there", d.hall.about(10), 1);
        Dance.due("its end", d.hall.step(), 0);
        Dance.due("begin", d.hall.begin(1), true);
        Dance.due("failed", d.hall.step(), 2);
        d.dueFailed(5, 0, 1);
        Dance.due("begin", d.hall.begin(2), true);
        Dance.due("idle", d.hall.step(), 3);
        Dance.due("begin", d.hall.begin(3), true);
        Dance.due("its end at once", d.hall.step(), 0);
        Dance.due("beats", d.hall.about(1), 1);
        Dance.due("steps", d.hall.about(2), 1);
        Dance.due("history", d.hall.about(3), 1);
        d.dueDancer(0, 4, 0, 1, 1);
    }

    private static void noRunAnyMore() {
        Dance.says("behind each of these three there is no RUN any more");
        String[] parts = {"part p{}", "part p{dancer 0 meet;all hold;}", "part p{" + acts(2001) + "all hold;}"};
        int[] answers = {0, 2, 3};
        for (int i = 0; i < parts.length; i++) {
            Dance d = Dance.with(parts[i]);
            Dance.due("right", d.call("all right"), 0);
            Dance.due("begin", d.hall.begin(0), true);
            Dance.due("a run", d.hall.about(10), 1);
            Dance.due("its end", d.hall.step(), answers[i]);
            Dance.due("no run", d.hall.about(10), 0);
            Dance.due("no run", d.hall.step(), -1);
            Dance.due("no run", d.hall.step(), -1);
            Dance.due("history", d.hall.about(3), 1);
            Dance.due("back(0) brings none", d.hall.back(0), true);
            Dance.due("no run", d.hall.about(10), 0);
            d.dueDancer(0, 4, 0, 1, 1);
        }
    }

    private static void noneIfThereIsNone() {
        Dance.says("NONE if there is none.");
        Dance d = Dance.with("part p{all right;}");
        Dance.due("right", d.call("all right"), 0);
        String before = d.state();
        Dance.due("step", d.hall.step(), -1);
        Dance.due("step changes nothing", d.state(), before);
        Dance.due("begin", d.hall.begin(0), true);
        Dance.due("set", d.hall.set(0, 4), true);
        Dance.due("a new set has none", d.hall.step(), -1);
    }

    private static void latest200() {
        Dance.says("The HISTORY has the latest 200 STEPS that were danced");
        Dance d = Dance.with("part p{repeat 64{repeat 64{all right;}}}");
        Dance.due("begin", d.hall.begin(0), true);
        for (int i = 0; i < 199; i++) {
            Dance.due("step", d.hall.step(), 1);
        }
        Dance.due("199", d.hall.about(3), 199);
        Dance.due("back(200)", d.hall.back(200), false);
        Dance.due("step", d.hall.step(), 1);
        Dance.due("200", d.hall.about(3), 200);
        Dance.due("back(201)", d.hall.back(201), false);
        Dance.due("step", d.hall.step(), 1);
        Dance.due("200 still", d.hall.about(3), 200);
        Dance.due("steps", d.hall.about(2), 201);
        Dance.due("one that fails is none", d.call("dancer 0 meet"), 5);
        Dance.due("200 still", d.hall.about(3), 200);
        Dance.due("back(201)", d.hall.back(201), false);
        Dance.due("steps", d.hall.about(2), 201);
        Dance.due("back(200)", d.hall.back(200), true);
        Dance.due("behind the first one of all", d.hall.about(2), 1);
        d.dueDancer(7, 0, 4, 2, 1);
        Dance.due("none", d.hall.about(3), 0);
        Dance.due("back(1)", d.hall.back(1), false);
        Dance.due("the run goes on from there", d.hall.step(), 1);
        Dance.due("one", d.hall.about(3), 1);
        d.dueDancer(7, 0, 4, 3, 2);
        Dance.due("back(1)", d.hall.back(1), true);
        d.dueDancer(7, 0, 4, 2, 1);
        Dance e = Dance.with("part p{repeat 64{repeat 64{all right;}}}");
        Dance.due("begin", e.hall.begin(0), true);
        for (int i = 0; i < 200; i++) {
            Dance.due("step", e.hall.step(), 1);
        }
        Dance.due("back(200)", e.hall.back(200), true);
        Dance.due("home", e.hall.about(4), 1);
        Dance.due("steps", e.hall.about(2), 0);
        Dance.due("the run that was begun", e.hall.about(10), 1);
    }

    private static void aheadOfEach() {
        Dance.says("with what was ahead of each (when step, call or follow was called): places, facings, TURNED, BEATS, STEPS, the RUN");
        Dance d = Dance.with("part p{for larks{repeat 2{all circle;}}all right;} part q{all turn;} allow all left;");
        d.hall.set(1, 2);
        Dance.due("call", d.call("all circle"), 0);
        Dance.due("begin", d.hall.begin(1), true);
        Dance.due("step", d.hall.step(), 1);
        Dance.due("call", d.call("all right"), 0);
        Dance.due("begin", d.hall.begin(0), true);
        Dance.due("resolve", d.hall.resolve(1), -1);
        d.hall.mark();
        Dance.due("right", d.call("all right"), 0);
        Dance.due("resolve", d.hall.resolve(1), 1);
        Dance.due("row", d.hall.row(0), true);
        Dance.due("follow", d.hall.follow(), 0);
        int[] beats = {12, 11, 10, 8, 0};
        int[] turned = {5, 4, 3, 1, 0};
        // the run that was begun last, twice; behind the step of the other one, and ahead of it; none ahead of that
        int[] runs = {1, 1, 1, 1, 0};
        Dance.due("beats", d.hall.about(1), 13);
        for (int i = 0; i < 5; i++) {
            Dance.due("back " + i, d.hall.back(1), true);
            Dance.due("beats", d.hall.about(1), beats[i]);
            Dance.due("steps", d.hall.about(2), 4 - i);
            Dance.due("history", d.hall.about(3), 4 - i);
            Dance.due("turned", d.hall.dancer(3, 3), turned[i]);
            Dance.due("run", d.hall.about(10), runs[i]);
        }
        Dance.due("home", d.hall.about(4), 1);
        Dance.due("no run ahead of the first call", d.hall.step(), -1);
    }

    /** Dances a run to its end, and from ahead of each of its steps to its end again. */
    private static void theRunAheadOfEach() {
        Dance.says("with what was ahead of each: .. the RUN");
        String parts = "part x{robins right;all left;} part p{for heads{repeat 2{all right;for larks{do x2;}}}"
            + "until count facing n is 0 most 2{do x;}if home{all hold;}else{sides turn;}}";
        String inner = "part x2{all right;if count all is 2{all turn;}}";
        int steps = 11;
        for (int n = 1; n <= steps; n++) {
            Dance d = Dance.with(inner + parts);
            Dance.due("begin", d.hall.begin(2), true);
            for (int i = 0; i < steps; i++) {
                Dance.due("step " + i, d.hall.step(), 1);
            }
            String last = d.state();
            Dance.due("back(" + n + ")", d.hall.back(n), true);
            Dance.due("steps", d.hall.about(2), steps - n);
            for (int i = steps - n; i < steps; i++) {
                Dance.due("step " + i + " again", d.hall.step(), 1);
            }
            Dance.due("behind it again", d.state(), last);
            Dance.due("end", d.hall.step(), 0);
            Dance.due("back(" + n + ") behind its end", d.hall.back(n), true);
            for (int i = steps - n; i < steps; i++) {
                Dance.due("step " + i + " again", d.hall.step(), 1);
            }
            Dance.due("behind it again", d.state(), last);
        }
    }

    /** As deep as the calls of one hall can tell: 30 in one another in each of 30 parts that are done in one another. */
    private static void deepestRun() {
        Dance.says("do: that part's statements. .. of { ( and not at most 30 are in one another");
        Dance d = Dance.empty();
        StringBuilder text = new StringBuilder("form a=0 0 any;figure f on a counts 1 price 1=0 0 1;part p0{all f;all f;}");
        for (int i = 1; i <= 30; i++) {
            text.append("part p").append(i).append('{').append(Dance.many("for all{", 29)).append("do p").append(i - 1).append(';')
                .append(Dance.many("}", 30));
            if (i % 14 == 0 || i == 30) {
                Dance.due("load", d.load(text.toString()), 0);
                text.setLength(0);
            }
        }
        Dance.due("begin", d.hall.begin(30), true);
        Dance.due("step", d.hall.step(), 1);
        Dance.due("step", d.hall.step(), 1);
        Dance.due("back", d.hall.back(1), true);
        Dance.due("step", d.hall.step(), 1);
        Dance.due("back", d.hall.back(2), true);
        Dance.due("step", d.hall.step(), 1);
        Dance.due("step", d.hall.step(), 1);
        Dance.due("end", d.hall.step(), 0);
        Dance.due("turned", d.hall.dancer(7, 3), 2);
        Dance.due("times", d.hall.times(30, 0, 4), 2);
    }

    private static void backToNone() {
        Dance.says("All is as it was ahead of the n-th latest STEP of the HISTORY, which ends there: true");
        Dance d = Dance.busy();
        String before = d.state();
        Dance.due("back(0)", d.hall.back(0), true);
        d.dueGoesOn("back(0)", before);
        Dance e = Dance.ready();
        Dance.due("back(0) of none", e.hall.back(0), true);
        Dance f = Dance.busy();
        Dance.due("all of them", f.hall.back(5), true);
        Dance.due("home", f.hall.about(4), 1);
        Dance.due("beats", f.hall.about(1), 0);
        Dance.due("steps", f.hall.about(2), 0);
        Dance.due("history", f.hall.about(3), 0);
        Dance.due("no run", f.hall.about(10), 0);
        Dance.due("no run", f.hall.step(), -1);
        Dance.due("turned", f.hall.dancer(0, 3), 0);
        Dance g = Dance.busy();
        Dance.due("all but the first", g.hall.back(4), true);
        Dance.due("the run that was begun", g.hall.about(10), 1);
        Dance.due("its first step", g.hall.step(), 1);
        g.dueDancer(0, 4, 0, 2, 2);
        g.dueDancer(1, 8, 0, 1, 1);
        Dance.due("its second step", g.hall.step(), 1);
        g.dueDancer(0, 4, 0, 0, 4);
    }

    private static void notSoMany() {
        Dance.says("false if n is below 0 or it has not so many");
        Dance d = Dance.ready();
        Dance.due("back(1) of none", d.hall.back(1), false);
        Dance.due("back(-1) of none", d.hall.back(-1), false);
        Dance.due("right", d.call("all right"), 0);
        Dance.due("back(2) of one", d.hall.back(2), false);
        Dance.due("back(-1) of one", d.hall.back(-1), false);
        Dance.due("turned", d.hall.dancer(0, 3), 1);
        Dance.due("back(1) of one", d.hall.back(1), true);
        Dance.due("back(1) of none", d.hall.back(1), false);
        Dance.due("right", d.call("all right"), 0);
        Dance.due("a new set", d.hall.set(0, 4), true);
        Dance.due("back(1) of none", d.hall.back(1), false);
    }

    private static void refusedBack() {
        Dance.says("false if n is below 0 or it has not so many");
        int[] none = {-1, 6, 7, 200, 201, LEAST, MOST};
        for (int n : none) {
            Dance d = Dance.busy();
            String before = d.state();
            Dance.due("back(" + n + ")", d.hall.back(n), false);
            d.dueGoesOn("back(" + n + ")", before);
        }
    }

    private static void historyEndsThere() {
        Dance.says("which ends there");
        Dance d = Dance.ready();
        for (int i = 0; i < 6; i++) {
            Dance.due("right", d.call("all right"), 0);
        }
        Dance.due("back(2)", d.hall.back(2), true);
        Dance.due("four are left", d.hall.about(3), 4);
        Dance.due("turned", d.hall.dancer(0, 3), 4);
        Dance.due("what is behind it is gone", d.hall.back(5), false);
        Dance.due("left", d.call("all left"), 0);
        Dance.due("five", d.hall.about(3), 5);
        Dance.due("back(5)", d.hall.back(5), true);
        Dance.due("none are left", d.hall.about(3), 0);
        Dance.due("turned", d.hall.dancer(0, 3), 0);
    }

    private static void whatStays() {
        Dance.says("(What was marked, found, read stays, the next step of a row that is found, too.)");
        Dance d = Dance.busy();
        Dance.due("back over the follow", d.hall.back(1), true);
        Dance.due("the row", d.hall.found(0), 1);
        Dance.due("the row", d.hall.found(1), 0);
        Dance.due("rows", d.hall.rows(), 2);
        Dance.due("seen", d.hall.about(11), 6);
        Dance.due("what failed", d.hall.failed(0), 5);
        Dance.due("the tape", d.hall.about(12), 3);
        // the second is the next one, although the first was taken back
        Dance.due("follow", d.hall.follow(), 0);
        d.dueDancer(0, 4, 0, 2, 2);
        d.dueDancer(1, 8, 0, 0, 0);
        Dance.due("the row's end", d.hall.follow(), -1);
        Dance.due("the aim that was marked is still one step away", d.hall.about(5), 0);
        d.hall.end(0);
        Dance.due("robins", d.call("robins right"), 0);
        Dance.due("it is that one", d.hall.about(5), 1);
        Dance.due("a book", d.load("part q{all turn;} allow all turn;"), 0);
        Dance.due("back to the beginning", d.hall.back(d.hall.about(3)), true);
        Dance.due("what was read", d.hall.about(8), 2);
        Dance.due("what was read", d.hall.about(9), 4);
        Dance.due("begin", d.hall.begin(1), true);
        Dance.due("step", d.hall.step(), 1);
    }
}
