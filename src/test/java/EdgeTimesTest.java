/** Promise 22 times: each sentence that names a limit, at it and just beyond. */
public final class EdgeTimesTest {
    private static final int MOST = Integer.MAX_VALUE;
    private static final int LEAST = Integer.MIN_VALUE;

    public static void main(String[] args) {
        tillAllAreHome();
        eachARunOfItsOwn();
        fromTheBeginning();
        notHomeBehindThe100th();
        noSuchPart();
        noSuchSet();
        itFails();
        itIsIdle();
        step2001();
        act20001();
        actsOfAllRuns();
        idleFirst();
        nothingElseChanges();
        Dance.finish("EdgeTimesTest");
    }

    /** Statements that are so many acts, 64 at least. */
    private static String acts(int n) {
        int inner = (n - 64) / 64;
        int rest = n - 64 - 64 * inner;
        return (inner > 0 ? "repeat 64{repeat " + inner + "{}}" : "repeat 64{}") + (rest > 0 ? "repeat " + rest + "{}" : "");
    }

    private static void dueTimes(String parts, int kind, int couples, int answer) {
        Dance d = Dance.with(parts);
        int last = d.hall.about(8) - 1;
        Dance.due("times of " + parts, d.hall.times(last, kind, couples), answer);
    }

    private static void tillAllAreHome() {
        Dance.says("How many times a part must be danced .. till all are HOME, 1 .. 100");
        dueTimes("part p{}", 0, 4, 1);
        dueTimes("part p{all hold;}", 0, 4, 1);
        dueTimes("part p{all right;all left;}", 0, 4, 1);
        dueTimes("part p{all turn;}", 0, 4, 2);
        dueTimes("part p{all right;}", 0, 4, 4);
        dueTimes("part p{dancer 7 right;}", 0, 4, 4);
        dueTimes("part p{dancer 8 hold;}", 0, 4, -1);
        dueTimes("part p{all circle;}", 1, 2, 4);
        // home is looked at behind each time, not within one
        dueTimes("part p{all right;all right;all right;all right;all right;}", 0, 4, 4);
    }

    private static void eachARunOfItsOwn() {
        Dance.says("(each a RUN of its own), one behind the other");
        // the second time begins with all in its SCOPE, and from the part's beginning
        dueTimes("part p{for larks{all right;}for robins{all right;}}", 0, 4, 4);
        dueTimes("part p{if home{all right;}else{all turn;}}", 0, 4, -1);
        dueTimes("part p{if home{all right;}else{all left;}}", 0, 4, 2);
        // 2000 acts each time, without a STEP between
        dueTimes("part p{all right;" + acts(1000) + "}", 0, 4, 4);
        dueTimes("part p{" + acts(1500) + "all right;" + acts(1500) + "}", 0, 4, 4);
    }

    private static void fromTheBeginning() {
        Dance.says("from the beginning of a set on");
        Dance d = Dance.with("part p{until home most 1{all left;}} part q{if count all is 64{all right;}else{all turn;}} part r{all pass;}");
        Dance.due("left", d.call("all left"), 0);
        Dance.due("set", d.hall.set(2, 3), true);
        Dance.due("left", d.call("all left"), 0);
        Dance.due("of another set", d.hall.times(0, 0, 4), 1);
        Dance.due("of the same", d.hall.times(0, 2, 3), 1);
        Dance.due("the fewest", d.hall.times(1, 1, 1), 2);
        Dance.due("the most", d.hall.times(1, 1, 32), 4);
        Dance.due("the most", d.hall.times(1, 3, 32), 4);
        Dance.due("of those who face", d.hall.times(2, 2, 2), -1);
        Dance.due("of those who face", d.hall.times(2, 1, 32), -1);
        Dance.due("the dancers' own set", d.hall.dancer(0, 2), 3);
        // what was found out about the dancers of this set is nothing of that one's
        Dance e = Dance.with("part p{if count in pair is 8{dancer 0 meet;}} part q{if count in face is 8{}else{dancer 0 meet;}}"
            + " part r{if count in box is 4{}else{dancer 0 meet;}}");
        Dance.due("all are in pairs here", e.call("not in pair hold"), 1);
        Dance.due("nobody is there", e.hall.times(0, 1, 4), 1);
        Dance.due("all face there", e.hall.times(1, 1, 4), 1);
        Dance.due("all are in boxes there", e.hall.times(2, 1, 2), 1);
        Dance.due("nobody faces here", e.call("in face hold"), 1);
        Dance.due("nobody is in boxes here", e.call("in box hold"), 1);
    }

    /** Larks' facings count the times, in fours; when they tell the number that is due all turn home. */
    private static String counter(String name, int due) {
        String[] facings = {"e", "s", "w", "n"};
        String[] home = {"hold", "left", "turn", "right"};
        StringBuilder told = new StringBuilder();
        StringBuilder turns = new StringBuilder();
        for (int digit = 0; digit < 4; digit++) {
            int value = due >> 2 * digit & 3;
            told.append(digit == 0 ? "" : " or ").append("dancer ").append(2 * digit).append(" and facing ")
                .append(facings[value]);
            turns.append("dancer ").append(2 * digit).append(' ').append(home[value]).append("; ");
        }
        return "part " + name + " { dancer 0 right; if count dancer 0 and facing e is 1 { dancer 2 right; "
            + "if count dancer 2 and facing e is 1 { dancer 4 right; if count dancer 4 and facing e is 1 "
            + "{ dancer 6 right; } } } if count " + told + " is 4 { " + turns + "} } ";
    }

    private static void notHomeBehindThe100th() {
        Dance.says("1 .. 100; NONE if .. they are not home behind the 100th");
        Dance d = Dance.with(counter("a", 99) + counter("b", 100) + counter("c", 101));
        Dance.due("99", d.hall.times(0, 1, 4), 99);
        Dance.due("100", d.hall.times(1, 1, 4), 100);
        Dance.due("101", d.hall.times(2, 1, 4), -1);
        dueTimes("part p{until home most 64{}if home{all right;}}", 0, 4, -1);
    }

    private static void noSuchPart() {
        Dance.says("NONE if there is no such part");
        Dance d = Dance.with("part p{} part q{}");
        int[] none = {-1, 2, 3, 59, 60, LEAST, MOST};
        for (int part : none) {
            Dance.due("times(" + part + ", 0, 4)", d.hall.times(part, 0, 4), -1);
        }
        Dance.due("the first", d.hall.times(0, 0, 4), 1);
        Dance.due("the last", d.hall.times(1, 0, 4), 1);
        Dance e = Dance.ready();
        Dance.due("no part at all", e.hall.times(0, 0, 4), -1);
    }

    private static void noSuchSet() {
        Dance.says("NONE if there is no such .. set");
        Dance d = Dance.with("part p{}");
        int[][] good = {{0, 4}, {1, 1}, {1, 32}, {2, 1}, {2, 32}, {3, 1}, {3, 32}};
        for (int[] set : good) {
            Dance.due("times(0, " + set[0] + ", " + set[1] + ")", d.hall.times(0, set[0], set[1]), 1);
        }
        int[][] none = {{0, 3}, {0, 5}, {1, 0}, {1, 33}, {2, 0}, {2, 33}, {3, 0}, {3, 33}, {-1, 4}, {4, 4}, {LEAST, LEAST}, {MOST, MOST}};
        for (int[] set : none) {
            Dance.due("times(0, " + set[0] + ", " + set[1] + ")", d.hall.times(0, set[0], set[1]), -1);
        }
    }

    private static void itFails() {
        Dance.says("NONE if .. it fails");
        dueTimes("part p{dancer 0 meet;}", 0, 4, -1);
        dueTimes("part p{all hold;all hold;all hold & all hold;}", 0, 4, -1);
        dueTimes("part p{all pass;}", 0, 4, -1);
        dueTimes("part p{for dancer 40{all hold;}}", 0, 4, -1);
        dueTimes("part p{not (dancer 12 or dancer 15) cross;}", 1, 8, -1);
        // not the first time, but the second; and behind a time that is home nothing is danced any more
        dueTimes("part p{if home{all right;}else{dancer 0 meet;}}", 0, 4, -1);
        dueTimes("part p{if home{all hold;}else{dancer 0 meet;}}", 0, 4, 1);
    }

    private static void itIsIdle() {
        Dance.says("NONE if .. it .. is IDLE");
        dueTimes("part p{" + acts(2000) + "}", 0, 4, 1);
        dueTimes("part p{" + acts(2001) + "}", 0, 4, -1);
        dueTimes("part p{all hold;" + acts(2000) + "all hold;" + acts(2000) + "}", 0, 4, 1);
        dueTimes("part p{all hold;" + acts(2000) + "all hold;" + acts(2001) + "}", 0, 4, -1);
    }

    private static void step2001() {
        Dance.says("OPEN when a 2001st STEP .. is come to");
        dueTimes("part p{repeat 40{repeat 50{all hold;}}}", 0, 4, 1);
        dueTimes("part p{repeat 40{repeat 50{all hold;}}all hold;}", 0, 4, -2);
        // come to: it needn't be one that can be danced
        dueTimes("part p{repeat 40{repeat 50{all hold;}}dancer 0 meet;}", 0, 4, -2);
        dueTimes("part p{repeat 40{repeat 50{all hold;}}" + acts(2000) + "}", 0, 4, 1);
        // of all its RUNS: 1000 and 1000, 1001 and 1000
        dueTimes("part p{if home{all right;repeat 27{repeat 37{all hold;}}}else{all left;repeat 27{repeat 37{all hold;}}}}", 0, 4, 2);
        dueTimes("part p{if home{all right;all hold;repeat 27{repeat 37{all hold;}}}else{all left;repeat 27{repeat 37{all hold;}}}}",
            0, 4, -2);
        // 20 steps each time are 2000 behind the 100th
        dueTimes("part p{repeat 18{all hold;}if home{all right;all turn;}else{all right;all left;}}", 0, 4, -1);
        dueTimes("part p{repeat 19{all hold;}if home{all right;all turn;}else{all right;all left;}}", 0, 4, -2);
    }

    private static void act20001() {
        Dance.says("OPEN when .. a 20001st ACT of all its RUNS, is come to");
        // ten times 1 + 1999
        dueTimes("part p{repeat 10{" + acts(1999) + "all hold;}}", 0, 4, 1);
        dueTimes("part p{repeat 10{" + acts(1999) + "all hold;}repeat 1{}}", 0, 4, -2);
        dueTimes("part x{} part p{repeat 10{" + acts(1999) + "all hold;}do x;}", 0, 4, -2);
        dueTimes("part p{repeat 10{" + acts(1999) + "all hold;}if home{}}", 0, 4, -2);
        dueTimes("part p{repeat 10{" + acts(1999) + "all hold;}for all{}}", 0, 4, -2);
        dueTimes("part p{repeat 10{" + acts(1999) + "all hold;}until home most 1{}}", 0, 4, -2);
        // those of a CONDITION count together: 19999 and two
        dueTimes("part p{repeat 9{" + acts(1999) + "all hold;}" + acts(1998) + "all hold;if forms box all{}}", 0, 4, 1);
        dueTimes("part p{repeat 9{" + acts(1999) + "all hold;}" + acts(1999) + "all hold;if forms box all{}}", 0, 4, -2);
    }

    private static void actsOfAllRuns() {
        Dance.says("a 20001st ACT of all its RUNS");
        // 5000 each of four times, and one more of the last
        dueTimes("part p{" + acts(2000) + "all hold;" + acts(2000) + "all hold;" + acts(1000) + "all right;}", 0, 4, 4);
        dueTimes("part p{" + acts(2000) + "all hold;" + acts(2000) + "all hold;" + acts(1001) + "all right;}", 0, 4, -2);
        // a later times counts anew
        Dance d = Dance.with("part p{repeat 10{" + acts(1999) + "all hold;}} part q{repeat 40{repeat 50{all hold;}}}");
        for (int i = 0; i < 3; i++) {
            Dance.due("times", d.hall.times(0, 0, 4), 1);
            Dance.due("times", d.hall.times(1, 0, 4), 1);
        }
        // a RUN of step has no such limit
        Dance e = Dance.with("part p{repeat 11{" + acts(1999) + "all hold;}}");
        Dance.due("times", e.hall.times(0, 0, 4), -2);
        Dance.due("begin", e.hall.begin(0), true);
        for (int i = 0; i < 11; i++) {
            Dance.due("step", e.hall.step(), 1);
        }
        Dance.due("end", e.hall.step(), 0);
    }

    private static void idleFirst() {
        Dance.says("(one too many since a STEP is IDLE first)");
        // the 20001st act is the 2001st since a STEP
        dueTimes("part p{repeat 9{" + acts(1999) + "all hold;}" + acts(2000) + "repeat 1{}}", 0, 4, -1);
        dueTimes("part p{repeat 9{" + acts(1999) + "all hold;}" + acts(2000) + "}", 0, 4, 1);
        // the 20001st is the 2000th since a STEP
        dueTimes("part p{repeat 9{" + acts(1999) + "all hold;}repeat 1{}all hold;" + acts(2000) + "}", 0, 4, -2);
        // 20002 and 2001 at once
        dueTimes("part p{repeat 9{" + acts(1999) + "all hold;}repeat 1{}all hold;" + acts(1999) + "if forms box all{}}", 0, 4, -1);
    }

    private static void nothingElseChanges() {
        Dance.says("Nothing else changes.");
        String[] parts = {"part q{all right;}", "part q{dancer 0 meet;}", "part q{" + acts(2001) + "}",
            "part q{repeat 41{repeat 50{all hold;}}}"};
        int[] answers = {4, -1, -1, -2};
        for (int i = 0; i < parts.length; i++) {
            Dance d = Dance.busy();
            d.hall.end(0);
            Dance.due("load", d.load(parts[i]), 0);
            d.write("xyz");
            String before = d.state();
            Dance.due("times of " + parts[i], d.hall.times(1, 0, 4), answers[i]);
            Dance.due("times of none", d.hall.times(2, 0, 4), -1);
            Dance.due("times of a larger set", d.hall.times(1, 1, 32), answers[i]);
            d.dueGoesOn("times of " + parts[i], before);
        }
    }
}
