/** Promises 5 call, 13 failed, 14 may, and what a step does. */
public final class StepTest {
    public static void main(String[] args) {
        moves();
        squared();
        meanings();
        greedy();
        greedyAgain();
        partitions();
        failures();
        whoByWho();
        tooHard();
        together();
        may();
        Dance.finish("StepTest");
    }

    private static void moves() {
        Dance d = Dance.ready();
        Dance.due("sides trade", d.call("sides trade"), 0);
        d.dueDancer(2, 12, 8, 1, 2);
        d.dueDancer(3, 12, 4, 1, 2);
        d.dueDancer(6, 0, 4, 3, 2);
        d.dueDancer(7, 0, 8, 3, 2);
        d.dueDancer(0, 4, 0, 0, 0);
        Dance.due("beats", d.hall.about(1), 4);
        Dance.due("fault", d.hall.fault(), 0);
        Dance.due("a lark is not left of its robin", d.call("sides and larks or couple 0 trade"), 3);
        Dance.due("heads forward", d.call("heads forward & sides left"), 0);
        d.dueDancer(0, 4, 0, 0, 0);
        d.dueDancer(4, 8, 4, 2, 0);
        d.dueDancer(2, 12, 4, 0, 1);
        Dance.due("the greatest counts", d.hall.about(1), 6);
        Dance.due("steps", d.hall.about(2), 2);
        Dance e = Dance.ready();
        e.hall.set(2, 2);
        // a box is turned with its first copy that fits, and its goals with it
        Dance.due("circle", e.call("all circle"), 0);
        e.dueDancer(0, 0, 4, 1, 1);
        e.dueDancer(1, 0, 0, 1, 1);
        e.dueDancer(2, 4, 0, 3, 1);
        e.dueDancer(3, 4, 4, 3, 1);
    }

    private static void squared() {
        Dance d = Dance.ready();
        d.load("figure shift on any1 counts 1 price 1 = 1 0 0; figure far on any1 counts 1 price 1 = -32 32 8;");
        Dance.due("shift", d.call("dancer 0 shift"), 0);
        Dance.due("nobody where 0 was", d.hall.at(4, 0), -1);
        Dance.due("who is where 0 is", d.hall.at(8, 0), 0);
        Dance.due("who is where 1 is", d.hall.at(12, 0), 1);
        d.dueDancer(0, 8, 0, 0, 0);
        d.dueDancer(1, 12, 0, 0, 0);
        d.dueDancer(2, 16, 4, 3, 0);
        d.dueDancer(4, 12, 12, 2, 0);
        d.dueDancer(5, 4, 12, 2, 0);
        d.dueDancer(6, 0, 8, 1, 0);
        Dance.due("far", d.call("dancer 2 far"), 0);
        d.dueDancer(2, 0, 16, 3, 8);
        d.dueDancer(6, 4, 8, 1, 0);
        d.dueDancer(3, 20, 8, 3, 0);
        Dance.due("the first one goes farthest", d.call("dancer 0 far"), 0);
        d.dueDancer(0, 0, 20, 0, 8);
        d.dueDancer(2, 4, 16, 3, 8);
        d.dueDancer(3, 20, 8, 3, 0);
        d.hall.back(1);
        Dance.due("a gap closes", d.call("dancer 2 far"), 0);
        d.dueDancer(2, 0, 16, 3, 16);
        d.dueDancer(3, 20, 8, 3, 0);
    }

    /** Whom a WHO means, told by who has turned. */
    private static void dueMeant(Dance d, String who, String dancers) {
        Dance.due("call of " + who, d.call(who + " right"), dancers.isEmpty() ? 1 : 0);
        StringBuilder got = new StringBuilder();
        for (int i = 0; i < d.hall.about(0); i++) {
            if (d.hall.dancer(i, 3) != 0) {
                got.append((char) ('0' + i));
            }
        }
        Dance.due(who + " means " + dancers + ", got " + got, got.toString().equals(dancers), true);
        d.hall.back(d.hall.about(3));
    }

    private static void meanings() {
        Dance d = Dance.ready();
        dueMeant(d, "all", "01234567");
        dueMeant(d, "larks", "0246");
        dueMeant(d, "robins", "1357");
        dueMeant(d, "heads", "0145");
        dueMeant(d, "sides", "2367");
        dueMeant(d, "couple 2", "45");
        dueMeant(d, "couple 4", "");
        dueMeant(d, "dancer 7", "7");
        dueMeant(d, "dancer 8", "");
        d = Dance.ready();
        dueMeant(d, "facing n", "01");
        dueMeant(d, "facing e", "67");
        dueMeant(d, "facing s", "45");
        dueMeant(d, "facing w", "23");
        dueMeant(d, "not heads", "2367");
        dueMeant(d, "not not heads", "0145");
        dueMeant(d, "not all", "");
        dueMeant(d, "heads or sides and larks", "012456");
        dueMeant(d, "(heads or sides) and larks", "0246");
        dueMeant(d, "not heads and larks", "26");
        dueMeant(d, "not (heads and larks)", "123567");
        dueMeant(d, "in pair", "01234567");
        dueMeant(d, "at pair 1", "1357");
        dueMeant(d, "in face", "");
    }

    private static void greedy() {
        Dance d = Dance.ready();
        d.load("form line = 0 0 any, 4 0 any, 8 0 any; form hook = 4 0 any, 0 0 any, 0 4 any; form up = 0 0 n;"
            + " form gap = 0 0 any, 8 0 any; form odd = 0 0 any, 2 0 any;");
        Dance.due("set", d.hall.set(2, 3), true);
        // from below: 0 1, 3 2, 4 5; slot 0 with all four turns comes ahead of slot 2, so that lines go up
        dueMeant(d, "in line", "012345");
        dueMeant(d, "at line 0", "01");
        dueMeant(d, "at line 1", "23");
        dueMeant(d, "at line 2", "45");
        dueMeant(d, "in duo", "012345");
        dueMeant(d, "at duo 0", "034");
        dueMeant(d, "in box", "0123");
        dueMeant(d, "at box 3", "2");
        dueMeant(d, "in gap", "0145");
        dueMeant(d, "at gap 0", "01");
        dueMeant(d, "in odd", "");
        dueMeant(d, "in up", "012345");
        // dancer 0 takes the first copy that fits, 0 3 2; nothing is taken back, and 1 4 5 are left
        dueMeant(d, "in hook", "023");
        dueMeant(d, "at hook 0", "0");
        dueMeant(d, "at hook 1", "3");
        dueMeant(d, "at hook 2", "2");
        // within a for the copies are those of the scope alone
        Dance.due("load", d.load("part p { for larks { in duo right; } } part q { for sides { in duo right; } }"), 0);
        d.hall.begin(0);
        Dance.due("larks have no duo", d.hall.step(), 2);
        d.dueFailed(1, -1, -1);
        d.hall.begin(1);
        Dance.due("sides have one", d.hall.step(), 1);
        d.dueDancer(2, 4, 4, 3, 1);
        d.dueDancer(3, 0, 4, 3, 1);
        d.dueDancer(0, 0, 0, 0, 0);
    }

    /** What a form finds is found anew when anybody has moved. */
    private static void greedyAgain() {
        Dance d = Dance.ready();
        Dance.due("nobody is face to face", d.call("in face pass"), 1);
        Dance.due("forward", d.call("heads forward & sides hold"), 0);
        Dance.due("beats", d.hall.about(1), 2);
        Dance.due("pass", d.call("in face pass & not in face hold"), 0);
        Dance.due("now they are behind one another", d.call("in face pass"), 1);
        Dance.due("turned about", d.call("heads turn"), 0);
        Dance.due("pass again", d.call("in face pass"), 0);
        d.dueDancer(0, 4, 0, 2, 2);
        Dance.due("hold has no counts", d.call("all hold"), 0);
        Dance.due("beats", d.hall.about(1), 2 + 4 + 2 + 4);
    }

    private static void partitions() {
        Dance d = Dance.ready();
        d.load("form hook = 4 0 any, 0 0 any, 0 4 any; figure flip on hook counts 1 price 1 = 4 0 1, 0 0 2, 0 4 3;"
            + " form line = 0 0 any, 4 0 any, 8 0 any; figure roll on line counts 1 price 1 = 4 0 1, 8 0 2, 0 0 3;");
        d.hall.set(2, 3);
        Dance.due("two hooks", d.call("all flip"), 0);
        Dance.due("back", d.hall.back(1), true);
        // turned by 3 quarters a line goes up
        Dance.due("two lines", d.call("all roll"), 0);
        d.dueDancer(0, 0, 4, 1, 1);
        d.dueDancer(3, 0, 8, 0, 2);
        d.dueDancer(4, 0, 0, 3, 3);
        d.dueDancer(1, 4, 4, 1, 1);
        d.dueDancer(5, 4, 0, 3, 3);
        Dance.due("four can't be parted by three", d.call("couple 0 or couple 1 roll"), 3);
        // greedily 0 would go with 1; then 3 is left alone, so that 0 must go with 3
        d.hall.set(2, 3);
        Dance.due("duos", d.call("dancer 0 or dancer 1 or dancer 3 or dancer 2 cross"), 0);
        d.dueDancer(0, 4, 0, 0, 0);
        d.hall.set(2, 3);
        Dance.due("an L of four", d.call("dancer 0 or dancer 1 or dancer 3 or dancer 5 cross"), 3);
        Dance.due("one way alone", d.call("dancer 0 or dancer 1 or dancer 3 or dancer 2 or dancer 4 or dancer 5 cross"), 0);
        d.hall.set(2, 3);
        d.load("form ell = 0 0 any, 0 4 any;  figure swap on ell counts 1 price 1 = 0 4 0, 0 0 0;");
        // 0 fits with 3 above it (r 0); then 4 is left, and 1 2 5 too: it is taken back, and 0 goes with 1
        Dance.due("taken back", d.call("not dancer 5 and not dancer 2 swap"), 0);
        d.dueDancer(0, 4, 0, 0, 0);
        d.dueDancer(1, 0, 0, 0, 0);
        d.dueDancer(3, 0, 8, 2, 0);
        d.dueDancer(4, 0, 4, 0, 0);
    }

    private static void failures() {
        Dance d = Dance.ready();
        d.load("figure jump on any1 counts 1 price 1 = -4 -4 0; figure heap on duo counts 1 price 1 = 0 0 0, 0 0 0;"
            + " figure pile on box counts 1 price 1 = 4 4 0, 4 4 0, 4 4 0, 4 4 0;");
        Dance.due("nobody", d.call("dancer 9 turn"), 1);
        d.dueFailed(1, -1, -1);
        Dance.due("twice", d.call("couple 1 hold & all hold"), 2);
        d.dueFailed(2, 2, -1);
        Dance.due("no partition", d.call("couple 3 pass"), 3);
        d.dueFailed(3, 7, -1);
        Dance.due("no multiple", d.call("dancer 4 pass"), 3);
        d.dueFailed(3, 4, -1);
        Dance.due("into another", d.call("dancer 0 meet"), 5);
        d.dueFailed(5, 0, 1);
        Dance.due("a fault is no failure", d.call("dancer 0"), -10);
        d.dueFailed(5, 0, 1);
        Dance.due("one that is danced is none either", d.call("dancer 1 meet"), 0);
        d.dueFailed(5, 0, 1);
        Dance.due("failed(3)", d.hall.failed(3), -1);
        Dance.due("failed(-1)", d.hall.failed(-1), -1);
        d.hall.set(1, 2);
        Dance.due("onto one who stays", d.call("dancer 3 jump"), 5);
        d.dueFailed(5, 0, 3);
        Dance.due("two of them", d.call("couple 1 heap"), 5);
        d.dueFailed(5, 2, 3);
        Dance.due("all on one", d.call("all pile"), 5);
        d.dueFailed(5, 0, 1);
        d.dueDancer(3, 4, 4, 3, 0);
        Dance.due("nothing was danced", d.hall.about(2), 0);
        Dance.due("nor is in the history", d.hall.about(3), 0);
        Dance.due("no beats", d.hall.about(1), 0);
        d.hall.set(1, 3);
        // 5 goes onto 2, 4 onto 3: the least of all who have another is told
        Dance.due("crossed", d.call("dancer 5 jump & dancer 4 jump"), 5);
        d.dueFailed(5, 2, 5);
    }

    private static void whoByWho() {
        Dance d = Dance.ready();
        Dance.due("the first WHO first", d.call("couple 3 pass & dancer 9 turn"), 3);
        Dance.due("then the second", d.call("couple 3 turn & dancer 9 turn & couple 3 turn"), 1);
        Dance.due("nobody ahead of twice", d.call("all hold & dancer 9 hold & all hold"), 1);
        Dance.due("twice ahead of no partition", d.call("all hold & dancer 5 pass"), 2);
        d.dueFailed(2, 5, -1);
        Dance.due("no partition ahead of one place", d.call("dancer 0 meet & dancer 5 pass"), 3);
        d.dueFailed(3, 5, -1);
        Dance.due("the least of those twice", d.call("heads hold & sides or dancer 5 or dancer 4 hold & all hold"), 2);
        d.dueFailed(2, 4, -1);
    }

    private static void tooHard() {
        Dance d = Dance.ready();
        d.load("form down = 0 0 any, 0 -4 any lark; figure g on down counts 1 price 1 = 0 0 1, 0 -4 1;"
            + " form rise = 0 4 any lark, 0 0 any; figure h on rise counts 1 price 1 = 0 4 1, 0 0 1;"
            + " part p { if forms down not couple 0 { all turn; } all hold; }");
        d.load("form over = 0 0 any, 0 4 any lark; figure k on over counts 1 price 1 = 0 0 1, 0 4 1;");
        Dance.due("set", d.hall.set(1, 19), true);
        Dance.due("a partition behind exactly 400 copies", d.call("not couple 1 k"), 0);
        d.dueDancer(0, 0, 0, 2, 1);
        Dance.due("set", d.hall.set(1, 22), true);
        Dance.due("with two larks more it is 401", d.call("not (couple 1 or couple 19 or dancer 41 or dancer 43) k"), 4);
        d.dueFailed(4, 0, -1);
        Dance.due("set", d.hall.set(1, 20), true);
        Dance.due("a partition behind 402 copies", d.call("not couple 0 g"), 4);
        d.dueFailed(4, 2, -1);
        d.hall.begin(0);
        Dance.due("too hard is no partition", d.hall.step(), 1);
        d.dueDancer(0, 0, 0, 1, 0);
        Dance.due("set", d.hall.set(1, 32), true);
        Dance.due("none behind exactly 400", d.call("not (dancer 34 or dancer 62) h"), 3);
        d.dueFailed(3, 0, -1);
        // 64 copies, each the fourth that is tried
        d.load("form west = 0 0 s; figure spin on west counts 1 price 1 = 0 0 1;");
        Dance.due("256 at most without taking back", d.call("all right"), 0);
        Dance.due("all spin", d.call("all spin"), 0);
        d.dueDancer(0, 0, 0, 3, 2);
        d.dueDancer(63, 4, 124, 1, 2);
    }

    private static void together() {
        Dance d = Dance.ready();
        // all are found out before anybody moves, and go at once
        Dance.due("four at once", d.call("couple 0 turn & couple 1 right & couple 2 left & couple 3 hold"), 0);
        d.dueDancer(1, 8, 0, 2, 2);
        d.dueDancer(2, 12, 4, 0, 1);
        d.dueDancer(5, 4, 12, 1, -1);
        d.dueDancer(6, 0, 8, 1, 0);
        Dance e = Dance.ready();
        e.load("figure go on any1 counts 1 price 1 = 4 0 0; figure come on any1 counts 2 price 1 = -4 0 0;");
        e.hall.set(2, 1);
        Dance.due("past one another", e.call("dancer 0 go & dancer 1 come"), 0);
        e.dueDancer(0, 4, 0, 0, 0);
        e.dueDancer(1, 0, 0, 0, 0);
        Dance.due("the greatest", e.hall.about(1), 2);
        Dance.due("bytes", e.hall.about(12), 0);
    }

    private static void may() {
        Dance d = Dance.ready();
        d.load("allow all hold; allow dancer 0 meet; allow couple 3 pass; allow dancer 20 turn; allow all hold & all hold;");
        int[] due = {0, 5, 3, 1, 2};
        for (int i = 0; i < 5; i++) {
            Dance.due("may(" + i + ")", d.hall.may(i), due[i]);
            Dance.due("failed(0)", d.hall.failed(0), i == 0 ? -1 : due[i]);
        }
        d.dueFailed(2, 0, -1);
        Dance.due("may(1)", d.hall.may(1), 5);
        d.dueFailed(5, 0, 1);
        Dance.due("may(0)", d.hall.may(0), 0);
        d.dueFailed(5, 0, 1);
        Dance.due("may(5)", d.hall.may(5), -1);
        Dance.due("may(-1)", d.hall.may(-1), -1);
        Dance.due("nobody moved", d.hall.about(4), 1);
        Dance.due("no step", d.hall.about(2), 0);
        Dance.due("no history", d.hall.about(3), 0);
    }
}
