/** Whom a WHO means, copies, partitions, conditions: each sentence that names a limit, at it and just beyond. */
public final class EdgeWhoTest {
    /** A form of two whose second is a lark above the first: its partitions take long to find. */
    private static final String OVER = "form over = 0 0 any, 0 4 any lark; figure go on over counts 1 price 1 = 0 0 1, 0 4 1;";

    public static void main(String[] args) {
        scopeWithinFor();
        headsAndSides();
        coupleAndDancer();
        facing();
        notOfTheScope();
        inAndAt();
        fourTurnsOfACopy();
        placesOfACopy();
        anyStaysAny();
        standsInASlot();
        fitsInEachSlot();
        copiesForADancer();
        lastCopiesForADancer();
        putLikeTheCopy();
        greedyCopies();
        greedyCopiesOfTheScope();
        aMultipleOfItsSlots();
        theNextOne();
        noneIfNoOneCan();
        moreThan400();
        triedInVain();
        homeMeansAll();
        countMeansSoMany();
        nobodyHasAPartition();
        tooHardIsFalse();
        Dance.finish("EdgeWhoTest");
    }

    /** Whom a called WHO means, told by who has turned. */
    private static void dueMeant(Dance d, String who, String dancers) {
        Dance.due("call of " + who, d.call(who + " right"), dancers.isEmpty() ? 1 : 0);
        dueTurned(d, who, dancers);
        Dance.due("back", d.hall.back(d.hall.about(3)), true);
    }

    private static void dueTurned(Dance d, String who, String dancers) {
        StringBuilder got = new StringBuilder();
        int n = d.hall.about(0);
        for (int i = 0; i < n; i++) {
            if (d.hall.dancer(i, 3) != 0) {
                got.append(got.length() == 0 ? "" : " ").append(i);
            }
        }
        Dance.due("meant by " + who, got.toString(), dancers);
    }

    /** A part's first step, which is danced, or fails; who has turned then. */
    private static void dueStep(String book, int kind, int couples, int answer, String dancers) {
        Dance d = Dance.with(book);
        Dance.due("set", d.hall.set(kind, couples), true);
        Dance.due("begin", d.hall.begin(d.hall.about(8) - 1), true);
        Dance.due("step of " + book, d.hall.step(), answer);
        dueTurned(d, book, dancers);
    }

    private static void scopeWithinFor() {
        Dance.says("dancers of the SCOPE (all of them but within for: those whom its WHO meant when it was come to)");
        Dance d = Dance.with("part p { for facing n { all right; all right; for facing s { all right; } } all right; }");
        Dance.due("begin", d.hall.begin(0), true);
        Dance.due("those who face up", d.hall.step(), 1);
        dueTurned(d, "the first", "0 1");
        Dance.due("the same, who face right now", d.hall.step(), 1);
        dueTurned(d, "the second", "0 1");
        Dance.due("those of them who face down, not 4 and 5", d.hall.step(), 1);
        dueTurned(d, "the third", "0 1");
        Dance.due("turned three times", d.hall.dancer(0, 3), 3);
        Dance.due("all", d.hall.step(), 1);
        dueTurned(d, "the last", "0 1 2 3 4 5 6 7");
        Dance.due("end", d.hall.step(), 0);
        dueStep("part p { for dancer 40 { all right; } }", 0, 4, 2, "");
        dueStep("part p { for larks { for robins { all right; } } }", 0, 4, 2, "");
        dueStep("part q { all right; } part p { for larks { do q; } }", 0, 4, 1, "0 2 4 6");
    }

    private static void headsAndSides() {
        Dance.says("heads: those of couples 0, 2 .., sides: 1, 3 ..");
        Dance d = Dance.ready();
        d.hall.set(1, 1);
        dueMeant(d, "heads", "0 1");
        dueMeant(d, "sides", "");
        d.hall.set(1, 4);
        dueMeant(d, "heads", "0 1 4 5");
        dueMeant(d, "sides", "2 3 6 7");
        Dance e = Dance.ready();
        e.hall.set(1, 32);
        Dance.due("heads of 32", e.call("heads right"), 0);
        int[] last = {60, 61, 62, 63};
        for (int who : last) {
            Dance.due("dancer " + who, e.hall.dancer(who, 3), who < 62 ? 1 : 0);
        }
        Dance.due("sides of 32", e.call("sides left"), 0);
        for (int who : last) {
            Dance.due("dancer " + who, e.hall.dancer(who, 3), who < 62 ? 1 : -1);
        }
        Dance.due("the first of all", e.hall.dancer(0, 3), 1);
    }

    private static void coupleAndDancer() {
        Dance.says("of that couple; that one");
        Dance d = Dance.ready();
        dueMeant(d, "couple 0", "0 1");
        dueMeant(d, "couple 3", "6 7");
        dueMeant(d, "couple 4", "");
        dueMeant(d, "couple 31", "");
        dueMeant(d, "dancer 0", "0");
        dueMeant(d, "dancer 7", "7");
        dueMeant(d, "dancer 8", "");
        dueMeant(d, "dancer 63", "");
        d = Dance.ready();
        d.hall.set(2, 32);
        Dance.due("the last couple", d.call("couple 31 right"), 0);
        dueTurned(d, "couple 31", "62 63");
        Dance.due("the last one", d.call("dancer 63 left"), 0);
        dueTurned(d, "dancer 63", "62");
    }

    private static void facing() {
        Dance.says("those with that FACING");
        Dance d = Dance.ready();
        dueMeant(d, "facing n", "0 1");
        dueMeant(d, "facing e", "6 7");
        dueMeant(d, "facing s", "4 5");
        dueMeant(d, "facing w", "2 3");
        Dance.due("round both ways", d.call("couple 1 right & couple 0 left"), 0);
        Dance.due("who came round to up", d.call("facing n and couple 1 hold"), 0);
        Dance.due("who faced so before", d.call("facing n and not couple 1 hold"), 1);
        Dance.due("who came round to left", d.call("facing w and couple 0 hold"), 0);
        Dance.due("who faced so before", d.call("facing w and not couple 0 hold"), 1);
    }

    private static void notOfTheScope() {
        Dance.says("not: those of the SCOPE whom ONE doesn't mean");
        Dance d = Dance.ready();
        dueMeant(d, "not all", "");
        dueMeant(d, "not not all", "0 1 2 3 4 5 6 7");
        dueMeant(d, "not dancer 63", "0 1 2 3 4 5 6 7");
        dueMeant(d, "not heads and larks", "2 6");
        dueMeant(d, "not (heads and larks)", "1 2 3 5 6 7");
        dueStep("part p { for larks { not heads right; } }", 0, 4, 1, "2 6");
        dueStep("part p { for larks { not all right; } }", 0, 4, 2, "");
        dueStep("part p { for larks { not robins right; } }", 0, 4, 1, "0 2 4 6");
        dueStep("part p { for dancer 40 { not dancer 0 right; } }", 0, 4, 2, "");
        dueStep("part p { for larks { if count not heads is 32 { all right; } } }", 1, 32, 0, "");
        dueStep("part p { for sides { if count not larks is 16 { larks right; } } }", 1, 32, 1,
            "2 6 10 14 18 22 26 30 34 38 42 46 50 54 58 62");
    }

    private static void inAndAt() {
        Dance.says("in FORM: all who are in one of the form's GREEDY COPIES, at FORM k: those of them in slot k");
        Dance d = Dance.with("form eight = 0 0 any, 4 0 any, 0 4 any, 4 4 any, 0 8 any, 4 8 any, 0 12 any, 4 12 any;");
        d.hall.set(1, 4);
        dueMeant(d, "in eight", "0 1 2 3 4 5 6 7");
        for (int k = 0; k < 8; k++) {
            dueMeant(d, "at eight " + k, String.valueOf(k));
        }
        d = Dance.with("form eight = 0 0 any, 4 0 any, 0 4 any, 4 4 any, 0 8 any, 4 8 any, 0 12 any, 4 12 any;");
        d.hall.set(1, 3);
        dueMeant(d, "in eight", "");
        dueMeant(d, "at eight 7", "");
        d.hall.set(1, 5);
        // eight of ten: two are in none
        dueMeant(d, "in eight", "0 1 2 3 4 5 6 7");
        dueMeant(d, "not in eight", "8 9");
        dueMeant(d, "at eight 7", "7");
    }

    private static void fourTurnsOfACopy() {
        Dance.says("A COPY of a form is turned r quarters clockwise, r 0 .. 3 .. and its DIRECTION is r quarters on");
        Dance d = Dance.with("figure part2 on pair counts 1 price 1 = 0 0 0, 8 0 0;");
        // each couple of a square is a pair, turned by 0, 3, 2, 1
        dueMeant(d, "in pair", "0 1 2 3 4 5 6 7");
        dueMeant(d, "at pair 0", "0 2 4 6");
        dueMeant(d, "at pair 1", "1 3 5 7");
        int[][] due = {{12, 0}, {12, 12}, {0, 12}, {0, 0}};
        for (int couple = 0; couple < 4; couple++) {
            Dance.due("couple " + couple, d.call("couple " + couple + " part2"), 0);
            Dance.due("X of its robin", d.hall.dancer(2 * couple + 1, 0), due[couple][0]);
            Dance.due("Y of its robin", d.hall.dancer(2 * couple + 1, 1), due[couple][1]);
            Dance.due("back", d.hall.back(1), true);
        }
        Dance.due("turned about they are none", d.call("couple 0 turn"), 0);
        Dance.due("in pair", d.call("in pair and couple 0 hold"), 1);
    }

    private static void placesOfACopy() {
        Dance.says("a slot (x, y) then lies as far from that as (x, y), (y, -x), (-x, -y), (-y, x) tells");
        Dance d = Dance.with("form leap = 0 0 any, 4 8 any; form mirror = 0 0 any, -4 8 any;"
            + " figure east on any1 counts 1 price 1 = 1 0 0; figure far on any1 counts 1 price 1 = 2 0 0;");
        d.hall.set(2, 3);
        dueMeant(d, "in leap", "0 5");
        dueMeant(d, "at leap 0", "0");
        dueMeant(d, "in mirror", "1 4");
        dueMeant(d, "at mirror 0", "1");
        // lying: robins of two couples go between, so that there are two rows of four
        d.hall.set(2, 2);
        Dance.due("three columns", d.call("dancer 1 or dancer 2 east"), 0);
        Dance.due("one row more to the right", d.call("dancer 1 east"), 0);
        d.dueDancer(0, 0, 0, 0, 0);
        d.dueDancer(1, 8, 0, 0, 0);
        d.dueDancer(2, 4, 4, 2, 0);
        d.dueDancer(3, 0, 4, 2, 0);
        // of 1 and 3: 3 is 8 to the left and 4 up, which is (4, 8) turned by 3
        Dance.due("a leap that lies", d.call("in leap right"), 0);
        Dance.due("its first", d.hall.dancer(1, 3), 1);
        Dance.due("its second", d.hall.dancer(3, 3), 1);
        Dance.due("nobody else", d.hall.dancer(0, 3) + d.hall.dancer(2, 3), 0);
        Dance.due("back", d.hall.back(1), true);
        Dance.due("slot 0", d.call("at leap 0 right"), 0);
        Dance.due("its first", d.hall.dancer(1, 3), 1);
    }

    private static void anyStaysAny() {
        Dance.says("(any stays any)");
        Dance d = Dance.with("form loose = 0 0 n, 4 0 any;");
        dueMeant(d, "at loose 0", "0 2 4 6");
        dueMeant(d, "at loose 1", "1 3 5 7");
        for (int i = 0; i < 4; i++) {
            Dance.due("robins turn", d.call("robins right"), 0);
            Dance.due("whoever is next", d.call("in loose hold"), 0);
        }
        // but slot 0 is not any: with their backs there larks have nobody beside them
        Dance.due("larks turn", d.call("larks turn"), 0);
        Dance.due("in loose", d.call("in loose hold"), 1);
    }

    private static void standsInASlot() {
        Dance.says("A dancer STANDS in a slot if it has that place, faces so, and is a lark or robin if that is told.");
        Dance d = Dance.with("form nlark = 0 0 n lark; form nrobin = 0 0 n robin; form odd = 0 0 any, 3 0 any;"
            + " form near = 0 0 n, 4 0 n; form far = 0 0 n, 8 0 n; form against = 0 0 n, 4 0 s;");
        d.hall.set(2, 1);
        dueMeant(d, "in nlark", "0");
        dueMeant(d, "in nrobin", "1");
        dueMeant(d, "in near", "0 1");
        dueMeant(d, "in far", "");
        dueMeant(d, "in odd", "");
        dueMeant(d, "in against", "");
        Dance.due("one faces down", d.call("dancer 1 turn"), 0);
        Dance.due("in near", d.call("in near hold"), 1);
        Dance.due("in against", d.call("in against hold"), 0);
    }

    private static void fitsInEachSlot() {
        Dance.says("A copy FITS some dancers if in each slot one of them stands.");
        String eight = "form eight = 0 0 any, 4 0 any, 0 4 any, 4 4 any, 0 8 any, 4 8 any, 0 12 any, 4 12 any; ";
        dueStep(eight + "part p { for all { in eight right; } }", 1, 4, 1, "0 1 2 3 4 5 6 7");
        // the last slot empty, the first one, one in the midst
        dueStep(eight + "part p { for not dancer 7 { in eight right; } }", 1, 4, 2, "");
        dueStep(eight + "part p { for not dancer 0 { in eight right; } }", 1, 4, 2, "");
        dueStep(eight + "part p { for not dancer 3 { in eight right; } }", 1, 4, 2, "");
        // one too many is in none
        dueStep(eight + "part p { for not dancer 9 { in eight right; } }", 1, 5, 1, "0 1 2 3 4 5 6 7");
        dueStep("part p { for dancer 5 { in any1 right; } }", 1, 5, 1, "5");
    }

    private static void copiesForADancer() {
        Dance.says("The copies FOR a dancer: those with slot 0 at its place, r 0 .. 3, those with slot 1 there, and so on.");
        Dance d = Dance.with("form rl = 0 0 any robin, 4 0 any lark; figure slip on rl counts 1 price 1 = 0 0 0, 4 4 0;"
            + " part p { for larks { at duo 0 right; } } part q { for larks { at duo 1 right; } }");
        d.hall.set(1, 2);
        // to the right, r 0, ahead of upward, r 3
        dueMeant(d, "at duo 0", "0 2");
        dueMeant(d, "at duo 1", "1 3");
        // upward is slot 0 with r 3, ahead of slot 1 with r 1
        Dance.due("begin", d.hall.begin(0), true);
        Dance.due("step", d.hall.step(), 1);
        dueTurned(d, "slot 0 of larks", "0");
        Dance.due("begin", d.hall.begin(1), true);
        Dance.due("step", d.hall.step(), 1);
        dueTurned(d, "slot 1 of larks", "0 2");
        // a robin must be in slot 0: it is on the other side, r 2 with slot 1
        d.hall.set(1, 1);
        dueMeant(d, "at rl 0", "1");
        dueMeant(d, "at rl 1", "0");
        Dance.due("turned by two, up and right is down and left", d.call("all slip"), 0);
        d.dueDancer(0, 0, 0, 1, 0);
        d.dueDancer(1, 4, 4, 3, 0);
    }

    private static void lastCopiesForADancer() {
        Dance.says("those with slot 1 there, and so on: the last of these, too, ahead of those for another dancer");
        Dance d = Dance.with("form rl = 0 0 any robin, 0 4 any lark; part p { for not dancer 3 { at rl 1 right; } }");
        d.hall.set(2, 3);
        // 0 is with 3 above it, slot 1 turned by 2, so that 4 is left to 5
        dueMeant(d, "in rl", "0 1 2 3 4 5");
        dueMeant(d, "at rl 1", "0 2 4");
        // without 3 it is with 1, slot 1 turned by 3, so that 2 is left alone
        d.hall.set(2, 2);
        Dance.due("begin", d.hall.begin(0), true);
        Dance.due("step", d.hall.step(), 1);
        dueTurned(d, "at rl 1", "0");
        // there are no copies for a dancer but those: 0 faces elsewhere, and is in none with 4 and 6 above it
        Dance e = Dance.with("form above = 0 12 n, 0 8 n; part p { for larks { in above turn; } }");
        e.hall.set(1, 4);
        Dance.due("all larks but the first face up", e.call("larks and not dancer 0 left"), 0);
        Dance.due("begin", e.hall.begin(0), true);
        Dance.due("step", e.hall.step(), 1);
        int[] due = {0, 1, 1, -1};
        for (int i = 0; i < 4; i++) {
            Dance.due("lark " + i, e.hall.dancer(2 * i, 3), due[i]);
        }
    }

    private static void putLikeTheCopy() {
        Dance.says("goes where the slot's TO lies, turned and put like the copy");
        Dance d = Dance.with("form rl = 0 0 any robin, 4 0 any lark; figure slip on rl counts 1 price 1 = 0 1 1, 4 -2 2;");
        d.hall.set(1, 3);
        // turned by 2 and put at the robin: it goes a quarter down, its lark half a step up, ahead of the next row
        Dance.due("among others", d.call("couple 0 slip"), 0);
        d.dueDancer(0, 0, 4, 3, 2);
        d.dueDancer(1, 4, 0, 0, 1);
        d.dueDancer(2, 0, 8, 1, 0);
        d.dueDancer(3, 4, 8, 3, 0);
        d.dueDancer(5, 4, 12, 3, 0);
    }

    private static void greedyCopiesOfTheScope() {
        Dance.says("going through the SCOPE's dancers: those of another SCOPE are others, though nobody moved");
        Dance d = Dance.with("part p { if count in duo is 6 { for larks { if count in duo is 2 { for all { for dancer 0 or dancer 4 {"
            + " if count in duo is 0 { dancer 0 right; } } } } } } }");
        d.hall.set(1, 3);
        Dance.due("begin", d.hall.begin(0), true);
        Dance.due("step", d.hall.step(), 1);
        dueTurned(d, "all three", "0");
        // and when somebody moved, those of the same SCOPE
        Dance e = Dance.ready();
        Dance.due("set", e.hall.set(1, 2), true);
        Dance.due("they face", e.call("in face hold"), 0);
        Dance.due("they turn", e.call("larks turn"), 0);
        Dance.due("they do not", e.call("in face hold"), 1);
        Dance.due("they turn back", e.hall.back(1), true);
        Dance.due("they face", e.call("in face hold"), 0);
        Dance.due("another set", e.hall.set(2, 2), true);
        Dance.due("they face", e.call("at face 0 and dancer 0 hold"), 0);
    }

    private static void greedyCopies() {
        Dance.says("GREEDY COPIES: .. for each that is in none yet the first of the copies for it that fits those .. who are in none yet");
        dueStep("part p { for larks { in duo right; } }", 1, 1, 2, "");
        dueStep("part p { for larks { in duo right; } }", 1, 2, 1, "0 2");
        dueStep("part p { for larks { in duo right; } }", 1, 3, 1, "0 2");
        dueStep("part p { for larks { in duo right; } }", 1, 4, 1, "0 2 4 6");
        // nothing is taken back: the first hook leaves three that make none
        dueStep("form hook = 4 0 any, 0 0 any, 0 4 any; part p { in hook right; }", 2, 3, 1, "0 2 3");
        // of others than the scope's nobody is in one
        dueStep("part p { for heads { in box right; } }", 1, 2, 2, "");
        dueStep("part p { for all { in box right; } }", 1, 2, 1, "0 1 2 3");
    }

    private static void aMultipleOfItsSlots() {
        Dance.says("PARTITION of dancers W by a form: if how many they are is a multiple of its slots'");
        Dance d = Dance.ready();
        d.hall.set(1, 4);
        Dance.due("8 by 4", d.call("all circle"), 0);
        Dance.due("7 by 4", d.call("not dancer 7 circle"), 3);
        Dance.due("6 by 4", d.call("not couple 3 circle"), 3);
        Dance.due("4 by 4", d.call("couple 0 or couple 1 circle"), 0);
        Dance.due("1 by 4", d.call("dancer 0 circle"), 3);
        Dance.due("1 by 2", d.call("dancer 0 cross"), 3);
        Dance.due("2 by 2", d.call("couple 0 cross"), 0);
        Dance.due("3 by 2", d.call("couple 0 or dancer 2 cross"), 3);
        Dance.due("1 by 1", d.call("dancer 7 hold"), 0);
        // a search for one would be too hard, but there is none at once
        d.hall.set(1, 8);
        Dance.due("15 by 2", d.call("not dancer 15 cross"), 3);
        Dance.due("14 by 2", d.call("not (dancer 12 or dancer 15) cross"), 4);
        Dance.due("13 by 2", d.call("not (dancer 12 or couple 7) cross"), 3);
    }

    private static void theNextOne() {
        Dance.says("(If one can't, the next one");
        Dance d = Dance.with("form ell = 0 0 any, 0 4 any; figure swap on ell counts 1 price 1 = 0 4 0, 0 0 0;");
        d.hall.set(2, 3);
        // 0 and 3 above it fit first, but leave 1 alone: 0 goes with 1, 3 with 4
        Dance.due("taken back", d.call("not dancer 5 and not dancer 2 swap"), 0);
        d.dueDancer(0, 4, 0, 0, 0);
        d.dueDancer(1, 0, 0, 0, 0);
        d.dueDancer(3, 0, 8, 2, 0);
        d.dueDancer(4, 0, 4, 0, 0);
        // greedy copies are not: 1 has nobody left
        d.hall.set(2, 3);
        Dance.due("nothing else is there", d.load("part p { for not (dancer 5 or dancer 2) { in ell right; } }"), 0);
        Dance.due("begin", d.hall.begin(0), true);
        Dance.due("step", d.hall.step(), 1);
        dueTurned(d, "in ell", "0 3");
    }

    private static void noneIfNoOneCan() {
        Dance.says("none if no one can.)");
        Dance d = Dance.ready();
        d.hall.set(2, 3);
        Dance.due("two that are apart", d.call("dancer 0 or dancer 4 cross"), 3);
        d.dueFailed(3, 0, -1);
        Dance.due("four of an L", d.call("dancer 0 or dancer 1 or dancer 3 or dancer 5 cross"), 3);
        Dance.due("six", d.call("all cross"), 0);
        Dance.due("faces", d.call("all pass"), 3);
    }

    private static void dueParted(int couples, String who, int answer) {
        Dance d = Dance.with(OVER);
        Dance.due("set", d.hall.set(1, couples), true);
        Dance.due("parting " + who, d.call(who + " go"), answer);
        if (answer != 0) {
            d.dueFailed(answer, 0, -1);
        }
    }

    private static void moreThan400() {
        Dance.says("when it would be more than 400 it is TOO HARD, at once");
        dueParted(19, "not couple 1", 0);
        dueParted(22, "not (couple 1 or couple 19 or dancer 41 or dancer 43)", 4);
    }

    private static void triedInVain() {
        Dance.says("All that is TRIED counts, also further on and in vain");
        // none is found behind the 400th, and behind the 408th
        dueParted(19, "not (dancer 34 or dancer 36)", 3);
        dueParted(19, "not (dancer 33 or dancer 36)", 4);
        // each WHO has 400 of its own
        Dance d = Dance.with(OVER);
        d.hall.set(1, 32);
        String rest = coupleRow(19, 31);
        Dance.due("400 and 26", d.call("not couple 1 and not (" + rest + ") go & " + rest + " hold"), 0);
        Dance.due("26 and 400", d.call(rest + " hold & not couple 1 and not (" + rest + ") go"), 0);
        // 64 of one slot are tried with four turns each at most
        Dance e = Dance.with("form down = 0 0 s; figure spin on down counts 1 price 1 = 0 0 1;");
        e.hall.set(1, 32);
        Dance.due("up", e.call("larks left & robins right"), 0);
        Dance.due("each by two turns", e.call("all spin"), 0);
        Dance.due("each by one more", e.call("all spin"), 0);
        e.dueDancer(63, 4, 124, 2, 3);
    }

    private static String coupleRow(int from, int to) {
        StringBuilder who = new StringBuilder("couple " + from);
        for (int couple = from + 1; couple <= to; couple++) {
            who.append(" or couple ").append(couple);
        }
        return who.toString();
    }

    private static void homeMeansAll() {
        Dance.says("home: whether all are HOME");
        String ask = "part p { if home { larks right; } else { larks left; } }";
        Dance d = Dance.with(ask);
        Dance.due("begin", d.hall.begin(0), true);
        Dance.due("step", d.hall.step(), 1);
        Dance.due("home", d.hall.dancer(0, 3), 1);
        // not those of the SCOPE alone
        dueStep("part p { for larks { if home { all right; } } }", 0, 4, 1, "0 2 4 6");
        Dance e = Dance.with("part p { for larks { if home { all right; } else { all left; } } }");
        Dance.due("a robin turns", e.call("dancer 7 right"), 0);
        Dance.due("begin", e.hall.begin(0), true);
        Dance.due("step", e.hall.step(), 1);
        Dance.due("not home", e.hall.dancer(0, 3), -1);
        Dance f = Dance.with("part p { for dancer 40 { if home { } else { all hold; } } }");
        Dance.due("begin", f.hall.begin(0), true);
        Dance.due("home with nobody in the SCOPE", f.hall.step(), 0);
    }

    private static void dueHolds(String condition, int kind, int couples, boolean holds) {
        dueStep("part p { if " + condition + " { dancer 0 right; } }", kind, couples, holds ? 1 : 0, holds ? "0" : "");
    }

    private static void countMeansSoMany() {
        Dance.says("count: whether WHO means so many");
        dueHolds("count not all is 0", 0, 4, true);
        dueHolds("count all is 0", 0, 4, false);
        dueHolds("count dancer 7 is 1", 0, 4, true);
        dueHolds("count dancer 8 is 1", 0, 4, false);
        dueHolds("count dancer 8 is 0", 0, 4, true);
        dueHolds("count all is 7", 0, 4, false);
        dueHolds("count all is 8", 0, 4, true);
        dueHolds("count all is 9", 0, 4, false);
        dueHolds("count all is 64", 1, 32, true);
        dueHolds("count all is 63", 1, 32, false);
        dueHolds("count all is 64", 1, 31, false);
        dueHolds("count not dancer 63 is 63", 1, 32, true);
        dueHolds("not count all is 8", 0, 4, false);
        dueHolds("not count all is 7", 0, 4, true);
        dueHolds("home and count all is 8", 0, 4, true);
        dueHolds("count all is 8 and home", 0, 4, true);
        dueHolds("count all is 7 or count all is 8", 0, 4, true);
        dueHolds("count all is 7 or count all is 9", 0, 4, false);
    }

    private static void nobodyHasAPartition() {
        Dance.says("forms: whether the dancers whom WHO means have a PARTITION by the form (nobody has");
        dueHolds("forms box not all", 0, 4, true);
        dueHolds("forms box dancer 63", 0, 4, true);
        dueHolds("forms box all", 0, 4, false);
        dueHolds("forms any1 dancer 0", 0, 4, true);
        dueHolds("forms duo dancer 0", 0, 4, false);
        dueHolds("forms duo couple 0", 0, 4, true);
        dueHolds("forms box all", 1, 2, true);
        dueHolds("forms box all", 1, 3, false);
        dueHolds("forms box all", 1, 32, true);
        dueHolds("not forms any1 all", 0, 4, false);
        dueHolds("not forms box all", 0, 4, true);
        dueHolds("home and (forms any1 all) and count all is 8", 0, 4, true);
        dueHolds("home and (forms box all) or not home", 0, 4, false);
        // a figure wants somebody
        Dance d = Dance.ready();
        Dance.due("nobody", d.call("not all hold"), 1);
    }

    private static void dueForms(int couples, String who, boolean holds) {
        Dance d = Dance.with(OVER + " part p { if forms over " + who + " { dancer 0 right; } }");
        Dance.due("set", d.hall.set(1, couples), true);
        Dance.due("begin", d.hall.begin(0), true);
        Dance.due("forms over " + who, d.hall.step(), holds ? 1 : 0);
    }

    private static void tooHardIsFalse() {
        Dance.says("TOO HARD: false)");
        dueForms(19, "not couple 1", true);
        dueForms(22, "not (couple 1 or couple 19 or dancer 41 or dancer 43)", false);
        dueForms(19, "not (dancer 34 or dancer 36)", false);
        dueForms(19, "not (dancer 33 or dancer 36)", false);
        Dance d = Dance.with(OVER + " part p { if not forms over not (couple 1 or couple 19 or dancer 41 or dancer 43) { all hold; } }");
        Dance.due("set", d.hall.set(1, 22), true);
        Dance.due("begin", d.hall.begin(0), true);
        Dance.due("its not is true", d.hall.step(), 1);
        Dance.due("it is no failure", d.hall.failed(0), -1);
    }
}
