/** What a STEP does and what it fails for, promises 5 call, 13 failed, 14 may: each sentence that names a limit. */
public final class EdgeStepTest {
    private static final int MOST = Integer.MAX_VALUE;
    private static final int LEAST = Integer.MIN_VALUE;
    private static final String WALKS = "figure jump on any1 counts 1 price 1 = -4 -4 0; figure west on any1 counts 1 price 1 = -4 0 0;"
        + " figure south on any1 counts 1 price 1 = 0 -4 0; figure north on any1 counts 1 price 1 = 0 4 0;"
        + " figure heap on duo counts 1 price 1 = 0 0 0, 0 0 0; figure pile on box counts 1 price 1 = 4 4 0, 4 4 0, 4 4 0, 4 4 0;";

    public static void main(String[] args) {
        foundOutBeforeAnybodyMoves();
        allAtOnce();
        meansNobody();
        meansOneTwice();
        noPartition();
        tooHard();
        twoAtOnePlace();
        anybodyAtOnePlace();
        leastOfThoseAtOnePlace();
        whoByWho();
        nobodyMoves();
        greatestOfTheCounts();
        stepsByOne();
        squared();
        farthest();
        scopeOfACall();
        answersOfACall();
        latestThatFailed();
        notOfTheLatest();
        failedAnother();
        mayOfNone();
        mayChangesNothing();
        Dance.finish("EdgeStepTest");
    }

    private static void foundOutBeforeAnybodyMoves() {
        Dance.says("First all its WHO are found out (before anybody moves)");
        Dance d = Dance.ready();
        d.hall.set(2, 1);
        Dance.due("nobody faces right yet", d.call("dancer 0 right & facing e hold"), 1);
        Dance.due("all face up still", d.call("dancer 0 right & facing n hold"), 2);
        Dance.due("all but the first", d.call("dancer 0 right & not dancer 0 and facing n hold"), 0);
        d.hall.set(2, 2);
        Dance.due("faces before the pass", d.call("in face pass & not in face hold"), 1);
        Dance.due("faces before the pass", d.call("couple 0 or couple 1 pass"), 0);
        Dance.due("none behind it", d.call("in face hold"), 1);
    }

    private static void allAtOnce() {
        Dance.says("Else, all at once: who stands in a slot of a copy of a PARTITION goes where the slot's TO lies");
        Dance d = Dance.with(WALKS);
        d.hall.set(2, 1);
        Dance.due("each to the other's place", d.call("dancer 0 meet & dancer 1 west"), 0);
        d.dueDancer(0, 4, 0, 0, 0);
        d.dueDancer(1, 0, 0, 0, 0);
        d.hall.set(1, 2);
        Dance.due("four in a ring", d.call("dancer 0 meet & dancer 1 north & dancer 3 west & dancer 2 south"), 0);
        d.dueDancer(0, 4, 0, 1, 0);
        d.dueDancer(1, 4, 4, 3, 0);
        d.dueDancer(3, 0, 4, 3, 0);
        d.dueDancer(2, 0, 0, 1, 0);
    }

    private static void meansNobody() {
        Dance.says("1 it means nobody; Who it fails for: of 1 nobody");
        Dance d = Dance.ready();
        String[] steps = {"dancer 8 hold", "not all hold", "couple 4 hold", "in box hold", "larks and robins hold",
            "dancer 8 hold & all hold", "all hold & dancer 8 hold", "couple 0 hold & couple 1 hold & couple 2 hold & couple 4 hold"};
        for (String step : steps) {
            Dance.due("a failure ahead", d.call("dancer 0 meet"), 5);
            d.dueFailed(5, 0, 1);
            Dance.due(step, d.call(step), 1);
            d.dueFailed(1, -1, -1);
        }
        Dance.due("one is enough", d.call("dancer 7 or dancer 8 hold"), 0);
    }

    private static void meansOneTwice() {
        Dance.says("2 it means one whom an earlier one means; 2 the least who is meant twice");
        Dance d = Dance.ready();
        String[] steps = {"all hold & all hold", "all hold & dancer 7 hold", "dancer 7 hold & all hold",
            "couple 3 hold & couple 1 hold & couple 0 hold & dancer 6 or dancer 3 hold", "robins hold & sides or couple 2 hold",
            "couple 0 hold & couple 1 hold & couple 2 hold & all hold"};
        int[] least = {0, 7, 7, 3, 3, 0};
        for (int i = 0; i < steps.length; i++) {
            Dance.due(steps[i], d.call(steps[i]), 2);
            d.dueFailed(2, least[i], -1);
        }
        Dance.due("four that part all", d.call("couple 0 hold & couple 1 hold & couple 2 hold & couple 3 hold"), 0);
        Dance e = Dance.ready();
        e.hall.set(1, 32);
        Dance.due("the last of all", e.call("larks or dancer 63 hold & robins hold"), 2);
        e.dueFailed(2, 63, -1);
    }

    private static void noPartition() {
        Dance.says("3 it has no PARTITION by the figure's form; 3, 4 the first in ORDER of those meant");
        Dance d = Dance.ready();
        String[] steps = {"all pass", "couple 3 pass", "dancer 6 or dancer 2 pass", "couple 2 pass", "dancer 4 pass",
            "couple 0 cross & couple 2 pass"};
        int[] first = {0, 7, 2, 5, 4, 5};
        for (int i = 0; i < steps.length; i++) {
            Dance.due(steps[i], d.call(steps[i]), 3);
            d.dueFailed(3, first[i], -1);
        }
        Dance.due("those that have one", d.call("couple 0 cross & couple 2 cross"), 0);
        Dance.due("the order is that of their places", d.call("couple 0 pass"), 3);
        d.dueFailed(3, 1, -1);
    }

    private static void tooHard() {
        Dance.says("4 TOO HARD.");
        Dance d = Dance.ready();
        d.hall.set(1, 8);
        Dance.due("14 of two columns", d.call("not (dancer 12 or dancer 15) cross"), 4);
        d.dueFailed(4, 0, -1);
        Dance.due("not the first ones", d.call("not (couple 0 or dancer 13 or dancer 14) cross"), 4);
        d.dueFailed(4, 2, -1);
        Dance.due("all", d.call("all cross"), 0);
        Dance.due("the order is that of their places", d.call("not (dancer 12 or dancer 15) cross"), 4);
        d.dueFailed(4, 1, -1);
        Dance.due("behind another WHO", d.call("dancer 12 hold & not (dancer 12 or dancer 15) cross"), 4);
        Dance.due("steps", d.hall.about(2), 1);
    }

    private static void twoAtOnePlace() {
        Dance.says("It fails, 5, if two are at one place then");
        Dance d = Dance.with(WALKS);
        d.hall.set(1, 2);
        Dance.due("two of one copy", d.call("couple 0 heap"), 5);
        d.dueFailed(5, 0, 1);
        Dance.due("two of two WHO", d.call("dancer 2 south & dancer 0 hold & dancer 1 hold"), 5);
        d.dueFailed(5, 0, 2);
        Dance.due("four of one copy", d.call("all pile"), 5);
        d.dueFailed(5, 0, 1);
        Dance.due("three of four", d.call("dancer 1 west & dancer 2 south"), 5);
        d.dueFailed(5, 0, 1);
        // who leaves its place makes room for another
        Dance.due("one after the other", d.call("dancer 2 south & dancer 0 meet & dancer 1 north & dancer 3 north"), 0);
        d.dueDancer(2, 0, 0, 1, 0);
        d.dueDancer(0, 4, 0, 1, 0);
        d.dueDancer(1, 4, 4, 3, 0);
        d.dueDancer(3, 4, 8, 3, 0);
    }

    private static void anybodyAtOnePlace() {
        Dance.says("if two are at one place then (anybody)");
        Dance d = Dance.with(WALKS);
        Dance.due("into one who is not meant", d.call("dancer 0 meet"), 5);
        d.dueFailed(5, 0, 1);
        d.hall.set(1, 2);
        Dance.due("a higher one into a lower one", d.call("dancer 3 jump"), 5);
        d.dueFailed(5, 0, 3);
        Dance.due("a lower one into a higher one", d.call("dancer 0 north"), 5);
        d.dueFailed(5, 0, 2);
        Dance.due("the last into the one ahead of it", d.call("dancer 3 west"), 5);
        d.dueFailed(5, 2, 3);
        Dance.due("beside them", d.call("dancer 3 north"), 0);
    }

    private static void leastOfThoseAtOnePlace() {
        Dance.says("5 the least who has another one at its place, and the least of these others");
        Dance d = Dance.with(WALKS);
        d.hall.set(1, 3);
        // 5 goes onto 2, 4 onto 3 .. and 3, 5 onto 1
        Dance.due("two places", d.call("dancer 5 jump & dancer 4 jump"), 5);
        d.dueFailed(5, 2, 5);
        Dance.due("two places, told the other way round", d.call("dancer 4 jump & dancer 5 jump"), 5);
        d.dueFailed(5, 2, 5);
        d.hall.set(1, 2);
        Dance.due("three at one", d.call("dancer 3 jump & dancer 2 south"), 5);
        d.dueFailed(5, 0, 2);
        Dance.due("four at one", d.call("dancer 3 jump & dancer 2 south & dancer 1 west"), 5);
        d.dueFailed(5, 0, 1);
        d.hall.set(1, 32);
        Dance.due("the last two", d.call("dancer 63 west"), 5);
        d.dueFailed(5, 62, 63);
        Dance.due("the last two, the other way", d.call("dancer 62 meet"), 5);
        d.dueFailed(5, 62, 63);
    }

    private static void whoByWho() {
        Dance.says("then it FAILS for the first of these that holds, WHO by WHO");
        Dance d = Dance.with(WALKS);
        Dance.due("3 of the first ahead of 1 of the second", d.call("couple 3 pass & dancer 8 hold"), 3);
        d.dueFailed(3, 7, -1);
        Dance.due("1 of the second ahead of 2 of the third", d.call("all hold & dancer 8 hold & all hold"), 1);
        Dance.due("2 of the second ahead of 1 of the third", d.call("all hold & all hold & dancer 8 hold"), 2);
        Dance.due("1 ahead of 3 of one", d.call("dancer 8 pass"), 1);
        Dance.due("2 ahead of 3 of one", d.call("all hold & dancer 5 pass"), 2);
        d.dueFailed(2, 5, -1);
        Dance.due("3 ahead of 5 of all", d.call("dancer 0 meet & dancer 5 pass"), 3);
        d.dueFailed(3, 5, -1);
        Dance.due("2 ahead of 5 of all", d.call("dancer 0 meet & dancer 0 hold"), 2);
        d.hall.set(1, 8);
        Dance.due("2 ahead of 4 of one", d.call("dancer 0 hold & not (dancer 12 or dancer 15) cross"), 2);
        Dance.due("4 ahead of 1 of the second", d.call("not (dancer 12 or dancer 15) cross & dancer 16 hold"), 4);
        Dance.due("4 ahead of 5 of all", d.call("dancer 12 meet & not (dancer 12 or dancer 15) cross"), 4);
        Dance.due("5 of all", d.call("dancer 12 meet & dancer 15 hold"), 5);
    }

    private static void nobodyMoves() {
        Dance.says("If it failed nobody moves.");
        String[] steps = {"all right & dancer 8 hold", "larks right & all hold", "larks right & robins pass", "dancer 0 meet & robins turn"};
        int[] answers = {1, 2, 3, 5};
        for (int i = 0; i < steps.length; i++) {
            Dance d = Dance.busy();
            d.hall.end(0);
            d.write("xyz");
            String before = d.state();
            d.hall.end(0);
            Dance.due(steps[i], d.call(steps[i]), answers[i]);
            Dance.due("failed", d.hall.failed(0), answers[i]);
            // the latest failure as it was before
            Dance.due("may", d.hall.may(2), 5);
            d.write("xyz");
            d.dueGoesOn(steps[i], before);
        }
    }

    private static void greatestOfTheCounts() {
        Dance.says("BEATS grow by the greatest of the figures' counts");
        Dance d = Dance.with("figure long on any1 counts 64 price 0 = 0 0 0; figure short on any1 counts 63 price 0 = 0 0 0;");
        Dance.due("none", d.call("all hold"), 0);
        Dance.due("beats", d.hall.about(1), 0);
        Dance.due("the most", d.call("all long"), 0);
        Dance.due("beats", d.hall.about(1), 64);
        Dance.due("the greatest first", d.call("couple 0 long & couple 1 short & couple 2 hold & couple 3 right"), 0);
        Dance.due("beats", d.hall.about(1), 128);
        Dance.due("the greatest last", d.call("couple 0 hold & couple 1 right & couple 2 short & couple 3 long"), 0);
        Dance.due("beats", d.hall.about(1), 192);
        Dance.due("the same twice", d.call("couple 0 short & couple 1 short"), 0);
        Dance.due("beats", d.hall.about(1), 255);
        Dance.due("none of one that fails", d.call("couple 0 long & couple 0 long"), 2);
        Dance.due("beats", d.hall.about(1), 255);
        Dance.due("back", d.hall.back(1), true);
        Dance.due("beats", d.hall.about(1), 192);
    }

    private static void stepsByOne() {
        Dance.says("STEPS by 1");
        Dance d = Dance.ready();
        Dance.due("four WHO", d.call("couple 0 hold & couple 1 hold & couple 2 hold & couple 3 hold"), 0);
        Dance.due("steps", d.hall.about(2), 1);
        Dance.due("one that moves nobody", d.call("dancer 0 hold"), 0);
        Dance.due("steps", d.hall.about(2), 2);
        Dance.due("one that fails", d.call("dancer 0 meet"), 5);
        Dance.due("steps", d.hall.about(2), 2);
        Dance.due("one at fault", d.call("dancer 64 hold"), -9);
        Dance.due("steps", d.hall.about(2), 2);
    }

    private static void squared() {
        Dance.says("X's keep their order, equal ones stay equal, and become 0, 4, 8 .., so do Y's");
        Dance d = Dance.with("figure e1 on any1 counts 1 price 1 = 1 0 0; figure e3 on any1 counts 1 price 1 = 3 0 0;"
            + " figure e4 on any1 counts 1 price 1 = 4 0 0; figure e5 on any1 counts 1 price 1 = 5 0 0;"
            + " figure n5 on any1 counts 1 price 1 = 0 5 0; figure s32 on any1 counts 1 price 1 = 0 -32 0;");
        d.hall.set(1, 3);
        Dance.due("equal ones, a quarter on", d.call("larks e1"), 0);
        d.dueDancer(4, 0, 8, 1, 0);
        d.dueDancer(5, 4, 8, 3, 0);
        Dance.due("up to the next one, less a quarter", d.call("dancer 0 e3"), 0);
        d.dueDancer(2, 0, 4, 1, 0);
        d.dueDancer(0, 4, 0, 1, 0);
        d.dueDancer(1, 8, 0, 3, 0);
        d.hall.set(1, 3);
        Dance.due("onto the next one", d.call("dancer 0 e4 & dancer 1 n5"), 0);
        d.dueDancer(0, 4, 0, 1, 0);
        d.dueDancer(1, 4, 8, 3, 0);
        d.dueDancer(2, 0, 4, 1, 0);
        d.dueDancer(4, 0, 12, 1, 0);
        Dance.due("beyond the next one, a quarter", d.call("dancer 2 e5"), 0);
        d.dueDancer(4, 0, 12, 1, 0);
        d.dueDancer(0, 4, 0, 1, 0);
        d.dueDancer(2, 8, 4, 1, 0);
        Dance.due("below all", d.call("dancer 4 or dancer 2 s32"), 0);
        d.dueDancer(2, 8, 0, 1, 0);
        d.dueDancer(4, 0, 4, 1, 0);
        d.dueDancer(0, 4, 8, 1, 0);
        d.dueDancer(1, 4, 16, 3, 0);
        d.dueDancer(5, 4, 20, 3, 0);
    }

    private static void farthest() {
        Dance.says("goes where the slot's TO lies, turned and put like the copy (-32 .. 32)");
        Dance d = Dance.with("form wide = -32 -32 any, 32 32 any; form nail = 32 32 any;"
            + " figure away on nail counts 1 price 1 = -32 -32 8; figure near on nail counts 1 price 1 = 32 28 -8;");
        d.hall.set(1, 2);
        // 64 to the left and down
        Dance.due("the last goes ahead of the first", d.call("dancer 3 away"), 0);
        d.dueDancer(3, 0, 0, 3, 8);
        d.dueDancer(0, 4, 4, 1, 0);
        d.dueDancer(1, 8, 4, 3, 0);
        d.dueDancer(2, 4, 8, 1, 0);
        Dance.due("four down", d.call("dancer 2 near"), 5);
        d.dueFailed(5, 0, 2);
        Dance.due("four down", d.call("dancer 1 near & dancer 2 near & dancer 0 near"), 0);
        d.dueDancer(3, 0, 0, 3, 8);
        d.dueDancer(0, 4, 0, 1, -8);
        d.dueDancer(2, 4, 4, 1, -8);
        Dance.due("nobody is so far apart", d.call("in wide hold"), 1);
        // seventeen columns: 64 apart are the first and the last
        d.hall.set(1, 17);
        Dance.due("load", d.load("form tall = 0 -32 any lark, 0 32 any lark; figure change on tall counts 1 price 1 = 0 32 0, 0 -32 0;"), 0);
        Dance.due("64 apart", d.call("dancer 0 or dancer 32 change"), 0);
        Dance.due("the first is last", d.hall.dancer(0, 1), 64);
        Dance.due("the last is first", d.hall.dancer(32, 1), 0);
        Dance.due("60 apart", d.call("dancer 2 or dancer 32 change"), 3);
    }

    private static void scopeOfACall() {
        Dance.says("which is danced, the SCOPE being all");
        Dance d = Dance.busy();
        d.hall.end(0);
        // the run is within its for larks
        Dance.due("all", d.call("all right"), 0);
        d.dueDancer(1, 8, 0, 2, 2);
        Dance.due("not larks", d.call("not larks left"), 0);
        d.dueDancer(1, 8, 0, 1, 1);
        d.dueDancer(0, 4, 0, 0, 4);
        Dance.due("the run's own step", d.hall.step(), 1);
        d.dueDancer(1, 8, 0, 1, 1);
        d.dueDancer(0, 4, 0, 2, 6);
    }

    private static void answersOfACall() {
        Dance.says("0; 1 .. 5 for what it fails; -2 - the place of the first fault");
        Dance d = Dance.ready();
        Dance.due("danced", d.call("all hold"), 0);
        Dance.due("1", d.call("dancer 8 hold"), 1);
        Dance.due("2", d.call("all hold & all hold"), 2);
        Dance.due("3", d.call("all pass"), 3);
        Dance.due("5", d.call("dancer 0 meet"), 5);
        Dance.due("at fault at the first byte", d.call("form"), -2);
        Dance.due("at fault at its end", d.call("all"), -5);
        Dance.due("at fault behind a step", d.call("all hold all hold"), -2 - 9);
        d.hall.set(1, 8);
        Dance.due("4", d.call("not (dancer 12 or dancer 15) cross"), 4);
    }

    private static void latestThatFailed() {
        Dance.says("Of the latest STEP that failed (of call, step, follow, may): what for (i 0), who (1), who else (2)");
        Dance d = Dance.with("part p { all hold & dancer 3 hold; } allow facing e cross; allow dancer 0 meet; allow dancer 16 hold;");
        d.hall.set(1, 8);
        d.dueFailed(-1, -1, -1);
        Dance.due("all face right", d.call("robins turn"), 0);
        Dance.due("the aim", d.call("all cross"), 0);
        d.hall.mark();
        Dance.due("back", d.hall.back(1), true);
        Dance.due("resolve", d.hall.resolve(1), 1);
        Dance.due("searching is no failure", d.hall.failed(0), -1);
        Dance.due("row", d.hall.row(0), true);
        Dance.due("of may", d.hall.may(1), 5);
        d.dueFailed(5, 0, 1);
        Dance.due("begin", d.hall.begin(0), true);
        Dance.due("of step", d.hall.step(), 2);
        d.dueFailed(2, 3, -1);
        Dance.due("two do not", d.call("dancer 12 or dancer 15 turn"), 0);
        Dance.due("of follow", d.hall.follow(), 4);
        d.dueFailed(4, 0, -1);
        Dance.due("of call", d.call("couple 6 pass"), 3);
        d.dueFailed(3, 12, -1);
        Dance.due("of may", d.hall.may(2), 1);
        d.dueFailed(1, -1, -1);
        Dance.due("of follow", d.hall.follow(), 4);
        d.dueFailed(4, 0, -1);
    }

    private static void notOfTheLatest() {
        Dance.says("Of the latest STEP that failed (of call, step, follow, may)");
        Dance d = Dance.with("part p { dancer 8 hold; } part q { repeat 64 { repeat 64 { } } } part r { all hold; } allow dancer 8 hold;"
            + " allow all right;");
        Dance.due("a failure", d.call("dancer 0 meet"), 5);
        Dance.due("danced", d.call("all right"), 0);
        d.dueFailed(5, 0, 1);
        Dance.due("at fault", d.call("@"), -2);
        d.dueFailed(5, 0, 1);
        Dance.due("times that fail", d.hall.times(0, 0, 4), -1);
        d.dueFailed(5, 0, 1);
        Dance.due("a search through steps that fail", d.hall.resolve(12), 3);
        d.dueFailed(5, 0, 1);
        Dance.due("begin", d.hall.begin(1), true);
        Dance.due("idle", d.hall.step(), 3);
        d.dueFailed(5, 0, 1);
        Dance.due("may that would be danced", d.hall.may(1), 0);
        Dance.due("may of none", d.hall.may(2), -1);
        d.dueFailed(5, 0, 1);
        Dance.due("back", d.hall.back(1), true);
        d.dueFailed(5, 0, 1);
        Dance.due("begin", d.hall.begin(2), true);
        Dance.due("step", d.hall.step(), 1);
        Dance.due("end", d.hall.step(), 0);
        Dance.due("none", d.hall.step(), -1);
        d.dueFailed(5, 0, 1);
        Dance.due("a new set", d.hall.set(1, 1), true);
        d.dueFailed(5, 0, 1);
    }

    private static void failedAnother() {
        Dance.says("NONE for nobody, none, another i");
        Dance d = Dance.ready();
        int[] others = {-1, 3, 4, LEAST, MOST};
        for (int i : others) {
            Dance.due("none failed(" + i + ")", d.hall.failed(i), -1);
        }
        d.dueFailed(-1, -1, -1);
        Dance.due("a failure", d.call("dancer 0 meet"), 5);
        for (int i : others) {
            Dance.due("failed(" + i + ")", d.hall.failed(i), -1);
        }
        d.dueFailed(5, 0, 1);
        Dance.due("of one there is no other", d.call("all pass"), 3);
        d.dueFailed(3, 0, -1);
        Dance.due("of nobody there is none", d.call("dancer 8 pass"), 1);
        d.dueFailed(1, -1, -1);
    }

    private static void mayOfNone() {
        Dance.says("For what an allowed step would fail now, 0 if it would be danced; NONE if there is none such.");
        Dance e = Dance.ready();
        Dance.due("no allowed step", e.hall.may(0), -1);
        Dance d = Dance.with("allow all hold; allow dancer 16 hold; allow all hold & all hold; allow larks pass;"
            + " allow not (dancer 12 or dancer 15) cross; allow dancer 0 meet;");
        d.hall.set(1, 8);
        for (int i = 0; i < 6; i++) {
            Dance.due("may(" + i + ")", d.hall.may(i), i);
            Dance.due("failed(0)", d.hall.failed(0), i == 0 ? -1 : i);
        }
        int[] none = {-1, 6, 7, 31, 32, LEAST, MOST};
        for (int i : none) {
            Dance.due("may(" + i + ")", d.hall.may(i), -1);
        }
        d.dueFailed(5, 0, 1);
        Dance.due("now", d.call("dancer 1 meet"), 0);
        Dance.due("the way is free", d.hall.may(5), 0);
        d.dueFailed(5, 0, 1);
    }

    private static void mayChangesNothing() {
        Dance.says("For what an allowed step would fail now");
        int[] allowed = {0, 1, 2, -1, 3};
        int[] answers = {0, 0, 5, -1, -1};
        for (int i = 0; i < allowed.length; i++) {
            Dance d = Dance.busy();
            String before = d.state();
            Dance.due("may(" + allowed[i] + ")", d.hall.may(allowed[i]), answers[i]);
            d.dueGoesOn("may(" + allowed[i] + ")", before);
        }
    }
}
