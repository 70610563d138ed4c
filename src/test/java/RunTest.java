/** Promises 10 begin, 11 step, 12 back, and how a run goes. */
public final class RunTest {
    public static void main(String[] args) {
        begin();
        statements();
        scopes();
        conditions();
        untils();
        idle();
        singleActs();
        actsOfConditions();
        failing();
        back();
        backWithRuns();
        longHistory();
        Dance.finish("RunTest");
    }

    /** Dances the rest of a run; how much all dancers have turned tells which steps there were. */
    private static void dueSteps(Dance d, int part, int steps, int end) {
        int before = d.hall.about(2);
        Dance.due("begin(" + part + ")", d.hall.begin(part), true);
        for (int i = 0; i < steps; i++) {
            Dance.due("step " + i + " of part " + part, d.hall.step(), 1);
        }
        Dance.due("the run is there", d.hall.about(10), 1);
        Dance.due("the end of part " + part, d.hall.step(), end);
        Dance.due("there is no run", d.hall.about(10), 0);
        Dance.due("step behind it", d.hall.step(), -1);
        Dance.due("steps", d.hall.about(2) - before, steps);
    }

    private static void begin() {
        Dance d = Dance.with("part p { all right; } part q { all turn; all turn; }");
        Dance.due("begin(2)", d.hall.begin(2), false);
        Dance.due("begin(-1)", d.hall.begin(-1), false);
        Dance.due("no run", d.hall.about(10), 0);
        Dance.due("begin(1)", d.hall.begin(1), true);
        Dance.due("step", d.hall.step(), 1);
        Dance.due("begin(2)", d.hall.begin(2), false);
        Dance.due("one that is there goes on", d.hall.step(), 1);
        d.dueDancer(0, 4, 0, 0, 4);
        Dance.due("begin(1)", d.hall.begin(1), true);
        Dance.due("in place of it", d.hall.begin(0), true);
        Dance.due("step", d.hall.step(), 1);
        d.dueDancer(0, 4, 0, 1, 5);
        Dance.due("end", d.hall.step(), 0);
        // a book that comes later leaves a run as it is
        Dance.due("begin(1)", d.hall.begin(1), true);
        Dance.due("step", d.hall.step(), 1);
        Dance.due("load", d.load("part r { all right; }"), 0);
        d.dueFault("part t { all right; } part r", 27, 3);
        Dance.due("call", d.call("all hold"), 0);
        Dance.due("step", d.hall.step(), 1);
        d.dueDancer(0, 4, 0, 1, 9);
        Dance.due("end", d.hall.step(), 0);
    }

    private static void statements() {
        Dance d = Dance.with("part none { } part one { all right; } part two { do one; all turn; do one; do none; } "
            + "part three { repeat 3 { do one; repeat 2 { all left; } } } "
            + "part four { if home { all right; } if home { all turn; } else { all left; } } "
            + "part five { repeat 2 { repeat 2 { repeat 2 { all right; } } all hold; } do three; }");
        dueSteps(d, 0, 0, 0);
        dueSteps(d, 1, 1, 0);
        d.dueDancer(0, 4, 0, 1, 1);
        dueSteps(d, 2, 3, 0);
        d.dueDancer(0, 4, 0, 1, 5);
        dueSteps(d, 3, 9, 0);
        d.dueDancer(0, 4, 0, 2, 2);
        d.hall.set(0, 4);
        dueSteps(d, 4, 2, 0);
        d.dueDancer(0, 4, 0, 0, 0);
        dueSteps(d, 5, 19, 0);
        d.dueDancer(0, 4, 0, 1, 5);
    }

    private static void scopes() {
        Dance d = Dance.with("part p { all right; not larks right; } "
            + "part q { for heads { for larks or sides { do p; } all turn; } all left; } "
            + "part r { for facing n { all turn; all right; } for dancer 40 { if count all is 0 { } else { all hold; } } } "
            + "part t { for larks { if count all is 4 { all right; } if count not all is 0 { all turn; } } }");
        Dance.due("begin", d.hall.begin(1), true);
        Dance.due("larks of heads", d.hall.step(), 1);
        d.dueDancer(0, 4, 0, 1, 1);
        d.dueDancer(1, 8, 0, 0, 0);
        d.dueDancer(2, 12, 4, 3, 0);
        d.dueDancer(4, 8, 12, 3, 1);
        Dance.due("not larks of these: nobody", d.hall.step(), 2);
        d.dueFailed(1, -1, -1);
        // the scope is those whom it meant when it was come to, wherever they face later
        Dance e = Dance.with("part r { for facing n { all turn; all right; } all hold; for dancer 40 { if count all is 0 { } "
            + "else { all hold; } } } part t { for larks { if count all is 4 { all right; } if count not all is 0 "
            + "{ all turn; } } if count all is 8 { all left; } }"
            + " part u { for heads { for larks { all right; } all turn; } all left; }");
        dueSteps(e, 0, 3, 0);
        e.dueDancer(0, 4, 0, 3, 3);
        e.dueDancer(2, 12, 4, 3, 0);
        dueSteps(e, 1, 3, 0);
        e.dueDancer(2, 12, 4, 1, 2);
        e.dueDancer(3, 12, 8, 2, -1);
        e.hall.set(0, 4);
        dueSteps(e, 2, 3, 0);
        e.dueDancer(0, 4, 0, 2, 2);
        e.dueDancer(1, 8, 0, 1, 1);
        e.dueDancer(2, 12, 4, 2, -1);
    }

    /** A condition, looked at in a set of kind and n. */
    private static void dueHolds(String condition, int kind, int n, boolean holds) {
        Dance d = Dance.with("part p { if " + condition + " { all right; } }");
        d.hall.set(kind, n);
        d.hall.begin(0);
        Dance.due(condition + " in set " + kind, d.hall.step(), holds ? 1 : 0);
    }

    private static void conditions() {
        dueHolds("home", 0, 4, true);
        dueHolds("not home", 0, 4, false);
        dueHolds("not not home", 0, 4, true);
        dueHolds("count all is 8", 0, 4, true);
        dueHolds("count all is 7", 0, 4, false);
        dueHolds("count all is 64", 1, 32, true);
        dueHolds("count not all is 0", 0, 4, true);
        dueHolds("count larks or robins and heads is 6", 0, 4, true);
        dueHolds("home and count all is 7", 0, 4, false);
        dueHolds("count all is 7 or home", 0, 4, true);
        dueHolds("home or home and not home", 0, 4, true);
        dueHolds("(home or home) and not home", 0, 4, false);
        dueHolds("not (home and not home)", 0, 4, true);
        dueHolds("not home or home", 0, 4, true);
        dueHolds("forms box all", 0, 4, false);
        dueHolds("forms box all", 1, 2, true);
        dueHolds("forms box all", 1, 3, false);
        dueHolds("forms pair all", 0, 4, true);
        dueHolds("forms pair heads and larks", 0, 4, false);
        // nobody has a partition
        dueHolds("forms box dancer 40", 0, 4, true);
        dueHolds("forms box couple 1 or dancer 40", 0, 4, false);
        dueHolds("forms face all", 2, 2, true);
        dueHolds("forms face all", 2, 3, false);
    }

    private static void untils() {
        Dance d = Dance.with("part p { until home most 8 { all right; } } part q { until not home most 8 { all right; } } "
            + "part r { until count facing e is 8 most 3 { all right; } all turn; }");
        dueSteps(d, 0, 0, 0);
        dueSteps(d, 1, 1, 0);
        d.dueDancer(0, 4, 0, 1, 1);
        dueSteps(d, 0, 3, 0);
        d.dueDancer(0, 4, 0, 0, 4);
        // they never face one way, so that it is over behind three times
        dueSteps(d, 2, 4, 0);
        d.dueDancer(0, 4, 0, 1, 9);
    }

    private static void idle() {
        // 64 + 64 * 30 + 16 = 2000 acts
        String acts = "repeat 64 { repeat 30 { } } repeat 16 { } ";
        Dance d = Dance.with("part a { " + acts + "all hold; " + acts + "all hold; } "
            + "part b { " + acts + "repeat 1 { } all hold; } part c { " + acts + "all hold; " + acts + "repeat 1 { } } "
            + "part d { } part f { " + acts + "do d; } part g { " + acts + "for dancer 9 { } } "
            + "part h { " + acts + "if home { } } part i { " + acts + "until home most 1 { } } "
            + "part j { " + acts + "}");
        dueSteps(d, 0, 2, 0);
        dueSteps(d, 1, 0, 3);
        dueSteps(d, 2, 1, 3);
        for (int part = 4; part < 8; part++) {
            dueSteps(d, part, 0, 3);
        }
        dueSteps(d, 8, 0, 0);
        Dance.due("idle is no failure", d.hall.failed(0), -1);
    }

    /** Each of these is one act: behind 1999 it may be done, and a step may follow. */
    private static void singleActs() {
        String acts = "repeat 64 { repeat 30 { } } repeat 15 { } ";
        String[] one = {"do p;", "for dancer 9 { }", "for all { }", "if home { }", "if not (home and home) { } else { }",
            "until home most 9 { }", "until not home most 1 { }", "repeat 1 { }", "if count all is 3 { }"};
        StringBuilder text = new StringBuilder("part p { } ");
        for (int i = 0; i < one.length; i++) {
            text.append("part p").append(i).append(" { ").append(acts).append(one[i]).append(" all hold; } ");
        }
        Dance d = Dance.with(text.toString());
        for (int i = 0; i < one.length; i++) {
            dueSteps(d, i + 1, 1, 0);
        }
    }

    private static void actsOfConditions() {
        // of 2000 acts, 1990 are done ahead: 10 are left
        String most = "repeat 64 { repeat 30 { } } repeat 6 { } ";
        String ten = "if count in box or at box 1 and in duo is 0 and (forms box in box) or (forms duo at duo 1) "
            + "or home and not (forms box in box) or home { } ";
        Dance d = Dance.with("part a { " + most + ten + "all hold; } part b { " + most + "repeat 1 { } " + ten + "all hold; } "
            + "part c { " + most + "for in box or at box 1 { } for not (in box and at box 0) { } repeat 4 { } all hold; } "
            + "part d { " + most + "for in box or at box 1 { } for not (in box and at box 0) { } repeat 5 { } all hold; }");
        dueSteps(d, 0, 1, 0);
        dueSteps(d, 1, 0, 3);
        dueSteps(d, 2, 1, 0);
        dueSteps(d, 3, 0, 3);
        // an until looks three times at most here, each with two acts: 1994 + 6, and the step's own forms are none
        String more = "repeat 64 { repeat 30 { } } repeat 10 { } ";
        Dance e = Dance.with("part a { " + more + "until count in box is 1 most 3 { } in pair hold; } "
            + "part b { " + more + "repeat 1 { } until count in box is 1 most 3 { } in pair hold; }"
            + "part c { " + more + "repeat 4 { } until count in box is 0 most 3 { } all hold; }");
        dueSteps(e, 0, 1, 0);
        dueSteps(e, 1, 0, 3);
        dueSteps(e, 2, 1, 0);
    }

    private static void failing() {
        Dance d = Dance.with("part p { all right; dancer 0 meet; all right; }");
        d.call("all left");
        Dance.due("begin", d.hall.begin(0), true);
        Dance.due("step", d.hall.step(), 1);
        Dance.due("fails", d.hall.step(), 2);
        d.dueFailed(5, 0, 1);
        Dance.due("no run", d.hall.about(10), 0);
        Dance.due("back(0)", d.hall.back(0), true);
        Dance.due("still no run", d.hall.about(10), 0);
        Dance.due("steps", d.hall.about(2), 2);
        Dance.due("history", d.hall.about(3), 2);
        d.dueDancer(0, 4, 0, 0, 0);
    }

    private static void back() {
        Dance d = Dance.with("part p { all right; }");
        Dance.due("back(0)", d.hall.back(0), true);
        Dance.due("back(1)", d.hall.back(1), false);
        Dance.due("back(-1)", d.hall.back(-1), false);
        d.call("all left");
        d.call("larks turn");
        d.call("dancer 1 meet");
        Dance.due("back(4)", d.hall.back(4), false);
        Dance.due("back(0)", d.hall.back(0), true);
        Dance.due("history", d.hall.about(3), 3);
        d.hall.mark();
        d.write("abc");
        Dance.due("back(2)", d.hall.back(2), true);
        Dance.due("history", d.hall.about(3), 1);
        Dance.due("steps", d.hall.about(2), 1);
        Dance.due("beats", d.hall.about(1), 1);
        Dance.due("the tape stays", d.hall.about(12), 3);
        Dance.due("the aim stays", d.hall.about(5), 0);
        d.dueDancer(0, 4, 0, 3, -1);
        d.dueDancer(1, 8, 0, 3, -1);
        Dance.due("who is there again", d.hall.at(8, 0), 1);
        Dance.due("nobody there now", d.hall.at(12, 0), -1);
        Dance.due("back(2)", d.hall.back(2), false);
        Dance.due("back(1)", d.hall.back(1), true);
        Dance.due("home", d.hall.about(4), 1);
        Dance.due("back(1)", d.hall.back(1), false);
    }

    private static void backWithRuns() {
        Dance d = Dance.with("part p { repeat 3 { for larks { all right; repeat 2 { all turn; } } } } part q { all left; }");
        Dance.due("begin", d.hall.begin(0), true);
        for (int i = 0; i < 5; i++) {
            Dance.due("step " + i, d.hall.step(), 1);
        }
        d.dueDancer(0, 4, 0, 0, 1 + 4 + 1 + 2);
        // ahead of the second step the run stood behind the first one
        Dance.due("back", d.hall.back(4), true);
        d.dueDancer(0, 4, 0, 1, 1);
        for (int i = 1; i < 9; i++) {
            Dance.due("step " + i, d.hall.step(), 1);
        }
        Dance.due("end", d.hall.step(), 0);
        d.dueDancer(0, 4, 0, 3, 15);
        d.dueDancer(1, 8, 0, 0, 0);
        Dance.due("no run", d.hall.about(10), 0);
        Dance.due("back", d.hall.back(1), true);
        Dance.due("a run again", d.hall.about(10), 1);
        Dance.due("its last step", d.hall.step(), 1);
        Dance.due("end", d.hall.step(), 0);
        // a call keeps the run that there is; another run in its place is gone behind back
        Dance.due("back", d.hall.back(2), true);
        Dance.due("call", d.call("all hold"), 0);
        Dance.due("begin", d.hall.begin(1), true);
        Dance.due("step", d.hall.step(), 1);
        d.dueDancer(1, 8, 0, 3, -1);
        Dance.due("back", d.hall.back(2), true);
        Dance.due("step of the first run", d.hall.step(), 1);
        Dance.due("step of the first run", d.hall.step(), 1);
        Dance.due("end", d.hall.step(), 0);
        d.dueDancer(0, 4, 0, 3, 15);
        d.dueDancer(1, 8, 0, 0, 0);
        // ahead of a begin there was none
        d.hall.set(0, 4);
        d.call("all hold");
        d.hall.begin(0);
        Dance.due("back", d.hall.back(1), true);
        Dance.due("no run", d.hall.about(10), 0);
        Dance.due("step", d.hall.step(), -1);
        d.hall.begin(0);
        d.call("all hold");
        d.hall.step();
        Dance.due("back", d.hall.back(2), true);
        Dance.due("the run that was begun", d.hall.about(10), 1);
        Dance.due("step", d.hall.step(), 1);
        d.dueDancer(0, 4, 0, 1, 1);
    }

    private static void longHistory() {
        Dance d = Dance.with("part p { repeat 64 { repeat 5 { all right; } } }");
        d.hall.begin(0);
        for (int i = 0; i < 205; i++) {
            Dance.due("step", d.hall.step(), 1);
        }
        Dance.due("history", d.hall.about(3), 200);
        Dance.due("steps", d.hall.about(2), 205);
        Dance.due("back(201)", d.hall.back(201), false);
        Dance.due("a step that fails takes none away", d.call("dancer 0 meet"), 5);
        Dance.due("back(0)", d.hall.back(0), true);
        Dance.due("steps", d.hall.about(2), 205);
        Dance.due("back(200)", d.hall.back(200), true);
        Dance.due("steps", d.hall.about(2), 5);
        Dance.due("beats", d.hall.about(1), 5);
        d.dueDancer(0, 4, 0, 1, 5);
        Dance.due("history", d.hall.about(3), 0);
        for (int i = 0; i < 3; i++) {
            Dance.due("step", d.hall.step(), 1);
        }
        d.dueDancer(0, 4, 0, 0, 8);
        Dance.due("history", d.hall.about(3), 3);
        Dance.due("back(3)", d.hall.back(3), true);
        d.dueDancer(7, 0, 4, 2, 5);
    }
}
