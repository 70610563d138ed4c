/** Promise 22: times. */
public final class TimesTest {
    public static void main(String[] args) {
        ordinary();
        exactly100();
        limits();
        nothingElseChanges();
        Dance.finish("TimesTest");
    }

    private static void ordinary() {
        Dance d = Dance.ready();
        d.load("part none { } part one { all right; } part two { all turn; } part same { until home most 1 { all left; } } "
            + "part ring { all circle; } part bad { all right; dancer 0 meet; } part idle { repeat 64 { repeat 64 { } } } "
            + "part three { for larks { all right; } all right; all turn; }");
        Dance.due("no step at all is home", d.hall.times(0, 0, 4), 1);
        Dance.due("a quarter", d.hall.times(1, 0, 4), 4);
        Dance.due("a half", d.hall.times(2, 3, 32), 2);
        Dance.due("home is that of the told set", d.hall.times(3, 1, 5), 1);
        Dance.due("circles", d.hall.times(4, 2, 4), 4);
        Dance.due("no box", d.hall.times(4, 2, 3), -1);
        Dance.due("it fails", d.hall.times(5, 0, 4), -1);
        d.dueFailed(-1, -1, -1);
        Dance.due("it is idle", d.hall.times(6, 0, 4), -1);
        Dance.due("larks a full turn, robins three quarters", d.hall.times(7, 0, 4), 4);
        int[][] none = {{8, 0, 4}, {-1, 0, 4}, {0, 0, 3}, {0, 4, 4}, {0, 1, 0}, {0, 1, 33}};
        for (int[] wrong : none) {
            Dance.due("times of none", d.hall.times(wrong[0], wrong[1], wrong[2]), -1);
        }
    }

    /** Larks' facings count the times, in fours; when they tell the number that is due all turn home. */
    private static String counter(String name, int due) {
        String[] facings = {"e", "s", "w", "n"};
        String[] home = {"hold", "left", "turn", "right"};
        StringBuilder told = new StringBuilder();
        StringBuilder turns = new StringBuilder();
        for (int digit = 0; digit < 4; digit++) {
            int value = due >> 2 * digit & 3;
            told.append(digit == 0 ? "" : " or ").append("dancer ").append(2 * digit).append(" and facing ")
                .append(facings[value]);
            turns.append("dancer ").append(2 * digit).append(' ').append(home[value]).append("; ");
        }
        return "part " + name + " { dancer 0 right; if count dancer 0 and facing e is 1 { dancer 2 right; "
            + "if count dancer 2 and facing e is 1 { dancer 4 right; if count dancer 4 and facing e is 1 "
            + "{ dancer 6 right; } } } if count " + told + " is 4 { " + turns + "} } ";
    }

    private static void exactly100() {
        Dance d = Dance.ready();
        Dance.due("load", d.load(counter("a", 99) + counter("b", 100) + counter("c", 101)), 0);
        Dance.due("99", d.hall.times(0, 1, 4), 99);
        Dance.due("100", d.hall.times(1, 1, 4), 100);
        Dance.due("101 is beyond", d.hall.times(2, 1, 4), -1);
    }

    private static void limits() {
        Dance d = Dance.ready();
        String acts = "repeat 64 { repeat 30 { } } repeat 15 { } ";
        // the first has an order of 100, the next of more
        d.load("form five = 0 0 any, 0 4 any, 0 8 any, 0 12 any, 0 16 any; form four = 0 0 any, 0 4 any, 0 8 any, 0 12 any;"
            + " figure go5 on five counts 1 price 1 = 0 4 0, 0 8 0, 0 12 0, 0 16 0, 0 0 0;"
            + " figure go4 on four counts 1 price 1 = 0 4 0, 0 8 0, 0 12 0, 0 0 0;"
            + " form three = 0 0 any, 0 4 any, 0 8 any; figure go3 on three counts 1 price 1 = 0 4 0, 0 8 0, 0 0 0;"
            + " form seven = 0 0 any, 0 4 any, 0 8 any, 0 12 any, 0 16 any, 0 20 any, 0 24 any;"
            + " figure go7 on seven counts 1 price 1 = 0 4 0, 0 8 0, 0 12 0, 0 16 0, 0 20 0, 0 24 0, 0 0 0;"
            // the same dancers, wherever they are in their row
            + " part p60 { dancer 0 or dancer 2 or dancer 4 or dancer 6 or dancer 8 go5 & dancer 1 or dancer 3 or dancer 5 "
            + "go3 & dancer 11 or dancer 13 or dancer 15 or dancer 17 go4; }"
            + " part p105 { dancer 0 or dancer 2 or dancer 4 or dancer 6 or dancer 8 go5 & dancer 1 or dancer 3 or dancer 5 "
            + "go3 & dancer 7 or dancer 9 or dancer 11 or dancer 13 or dancer 15 or dancer 17 or dancer 19 go7; }");
        Dance.due("60", d.hall.times(0, 1, 10), 60);
        Dance.due("105 is beyond 100", d.hall.times(1, 1, 10), -1);
        d.load("part s0 { repeat 40 { repeat 50 { all hold; } } } part s1 { repeat 40 { repeat 50 { all hold; } } all hold; }"
            + " part s2 { repeat 40 { repeat 50 { all hold; } } dancer 0 meet; }"
            + " part s3 { repeat 40 { repeat 25 { all right; all hold; } } }"
            + " part s4 { repeat 2 { repeat 45 { all right; } } }");
        Dance.due("2000 steps", d.hall.times(2, 0, 4), 1);
        Dance.due("a step more is left open", d.hall.times(3, 0, 4), -2);
        Dance.due("also one that would fail", d.hall.times(4, 0, 4), -2);
        Dance.due("2000 of all runs", d.hall.times(5, 0, 4), 1);
        Dance.due("90 quarters are a half", d.hall.times(6, 0, 4), 2);
        d.load("part a0 { repeat 10 { " + acts + "all hold; } }"
            + " part a1 { repeat 10 { " + acts + "all hold; } repeat 1 { } }"
            + " part a2 { repeat 9 { " + acts + "all hold; } " + acts + "repeat 2 { } }"
            + " part a3 { repeat 9 { " + acts + "all hold; } " + acts + "if forms box all { } }"
            + " part a4 { repeat 5 { " + acts + "all right; } all left; }");
        Dance.due("20000 acts", d.hall.times(7, 0, 4), 1);
        Dance.due("an act more is left open", d.hall.times(8, 0, 4), -2);
        Dance.due("idle first", d.hall.times(9, 0, 4), -1);
        Dance.due("idle first, also of two acts at once", d.hall.times(10, 0, 4), -1);
        Dance.due("acts of all runs", d.hall.times(11, 0, 4), 1);
        d.load("part b0 { repeat 5 { " + acts + "all hold; } all right; }");
        Dance.due("the third run has too many", d.hall.times(12, 0, 4), -2);
    }

    private static void nothingElseChanges() {
        Dance d = Dance.ready();
        d.load("part p { all right; all turn; } part bad { all right; dancer 0 meet; } allow all right;");
        d.hall.set(2, 2);
        d.hall.begin(0);
        d.hall.step();
        d.hall.resolve(4);
        d.hall.row(0);
        d.write("xyz");
        long[] before = new long[14];
        for (int i = 0; i < 14; i++) {
            before[i] = d.hall.about(i);
        }
        Dance.due("times", d.hall.times(0, 1, 32), 4);
        Dance.due("times", d.hall.times(1, 0, 4), -1);
        for (int i = 0; i < 14; i++) {
            Dance.due("about(" + i + ")", d.hall.about(i), before[i]);
        }
        d.dueDancer(0, 0, 0, 1, 1);
        Dance.due("found", d.hall.found(0), 0);
        d.dueFailed(-1, -1, -1);
        Dance.due("step", d.hall.step(), 1);
        d.dueDancer(3, 0, 4, 1, 3);
        Dance.due("end", d.hall.step(), 0);
    }
}
