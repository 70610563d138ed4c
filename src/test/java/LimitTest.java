import java.lang.management.ManagementFactory;

/** The limits of books, runs that are deep, and how little a hall may make in all its calls. */
public final class LimitTest {
    /** 61 tokens. */
    private static final String LONG = Dance.many("(", 29) + "all" + Dance.many(")", 29) + "f;";

    public static void main(String[] args) {
        exactly6000();
        theToken6001();
        callsBehind6000();
        deepRuns();
        room();
        Dance.finish("LimitTest");
    }

    /** A hall whose parts have 3908 tokens. */
    private static Dance almostFull() {
        Dance d = Dance.empty();
        Dance.due("forms", d.load("form a = 0 0 any; figure f on a counts 1 price 1 = 0 0 1;"), 0);
        Dance.due("3908 tokens", d.load("part p{" + Dance.many(LONG, 64) + "}"), 0);
        Dance.due("tokens", d.hall.about(13), 3908);
        return d;
    }

    private static void exactly6000() {
        Dance d = almostFull();
        Dance.due("2092 more", d.load("part q{" + Dance.many(LONG, 34) + "(all)f;" + Dance.many("all f;", 3) + "}"), 0);
        Dance.due("tokens", d.hall.about(13), 6000);
        d.dueFault("form g = 0 0 n; allow all f;", 16, 5);
        d.dueFault("part a { }", 0, 5);
        d.dueFault("parts", 0, 1);
        Dance.due("forms may still come", d.load("form g = 0 0 n; figure h on g counts 0 price 0 = 0 0 0;"), 0);
        Dance.due("tokens", d.hall.about(13), 6000);
        Dance.due("begin", d.hall.begin(1), true);
        for (int i = 0; i < 38; i++) {
            Dance.due("step", d.hall.step(), 1);
        }
        Dance.due("end", d.hall.step(), 0);
        d.dueDancer(0, 4, 0, 2, 38);
    }

    private static void theToken6001() {
        String text = "part q{" + Dance.many(LONG, 34) + "(all)f;" + Dance.many("all f;", 3);
        // without its } the text ends behind the 5999th
        dueFaultBehind(text, "", 0, 1);
        dueFaultBehind(text, "all f;}", 4, 5);
        dueFaultBehind(text, "all p;}", 4, 2);
        dueFaultBehind(text, "all 5;}", 4, 1);
        dueFaultBehind(text, "all @;}", 4, 1);
        dueFaultBehind(text, "} allow all f;", 2, 5);
        Dance e = almostFull();
        Dance.due("2091 more", e.load("part q{" + Dance.many(LONG, 34) + "(all)f;(all)f;all f;}"), 0);
        Dance.due("tokens", e.hall.about(13), 5999);
        e.dueFault("part p { }", 5, 3);
        e.dueFault("part new { }", 5, 5);
        e.dueFault("part all { }", 5, 1);
        e.dueFault("allow all f;", 6, 5);
        e.dueFault("allow home f;", 6, 1);
        e.dueFault("allow", 5, 1);
    }

    private static void dueFaultBehind(String text, String more, int place, int fault) {
        Dance d = almostFull();
        d.dueFault(text + more, text.length() + place, fault);
        Dance.due("none of a book at fault", d.hall.about(13), 3908);
    }

    private static void callsBehind6000() {
        Dance d = almostFull();
        d.load("part q{" + Dance.many(LONG, 34) + "(all)f;" + Dance.many("all f;", 3) + "}");
        // the longest steps that a tape can hold are no part of the 6000
        String step = Dance.many("((((((all)))))) or ", 80) + "all f";
        Dance.due("a long step", d.call(step), 0);
        Dance.due("tokens", d.hall.about(13), 6000);
        Dance.due("begin", d.hall.begin(0), true);
        Dance.due("step", d.hall.step(), 1);
        d.dueDancer(0, 4, 0, 2, 2);
        Dance e = Dance.empty();
        e.load("form a = 0 0 any; figure f on a counts 1 price 1 = 0 0 1;");
        Dance.due("nots", e.call("all" + Dance.many(" or all", 580) + " f"), 0);
    }

    private static Dance deep(int parts) {
        Dance d = Dance.empty();
        d.load("form a = 0 0 any; figure f on a counts 1 price 1 = 0 0 1; part p0{all f;all f;}");
        for (int i = 1; i <= parts; i++) {
            Dance.due("part " + i, d.load("part p" + i + "{" + Dance.many("for all{", 29) + "do p" + (i - 1) + ";"
                + Dance.many("}", 30)), 0);
        }
        return d;
    }

    private static void deepRuns() {
        Dance d = deep(20);
        d.hall.begin(20);
        Dance.due("step", d.hall.step(), 1);
        Dance.due("step", d.hall.step(), 1);
        Dance.due("back", d.hall.back(1), true);
        Dance.due("step", d.hall.step(), 1);
        Dance.due("back", d.hall.back(2), true);
        Dance.due("step", d.hall.step(), 1);
        Dance.due("step", d.hall.step(), 1);
        Dance.due("end", d.hall.step(), 0);
        Dance.due("times", d.hall.times(20, 0, 4), 2);
        d.dueDancer(3, 12, 8, 1, 2);
    }

    private static long made() {
        return ((com.sun.management.ThreadMXBean) ManagementFactory.getThreadMXBean())
            .getThreadAllocatedBytes(Thread.currentThread().getId());
    }

    /** The room has 7.3 million elements; these are bytes, and the longest elements have eight. */
    private static void room() {
        deep(1);
        long start = made();
        CallerHall hall = new CallerHall();
        long one = made() - start;
        Dance.due("a new hall of " + one + " bytes is small", one < 1500000, true);
        Dance d = deep(10);
        d.load("part r { repeat 64 { repeat 64 { do p10; } } }"
            + " allow dancer 0 f; allow dancer 1 f; allow dancer 2 f; allow dancer 3 f; allow dancer 4 f; allow dancer 5 f;");
        start = made();
        d.hall.begin(11);
        for (int i = 0; i < 250; i++) {
            d.hall.step();
        }
        for (int i = 0; i < 4; i++) {
            d.hall.resolve(12);
            d.hall.times(10, 1, 32);
            d.hall.times(11, 0, 4);
        }
        long all = made() - start;
        Dance.due("250 deep steps made " + all + " bytes", all < 4000000, true);
        Dance.due("the hall is there", hall.about(0), 8);
    }
}
