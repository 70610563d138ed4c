/** Promises 2 feed, 3 end, 4 load, 6 fault, 7 named, and the faults of steps (5 call). */
public final class TextTest {
    public static void main(String[] args) {
        tape();
        tokens();
        forms();
        figures();
        names();
        longNames();
        statements();
        who();
        conditions();
        counts();
        nothingOfABookAtFault();
        named();
        Dance.finish("TextTest");
    }

    private static void tape() {
        CallerHall h = new CallerHall();
        Dance.due("end(0) of an empty tape", h.end(0), true);
        Dance.due("end(1) of an empty tape", h.end(1), false);
        Dance.due("end(-1)", h.end(-1), false);
        for (int i = 0; i < 204; i++) {
            Dance.due("feed " + i, h.feed(i, 0, -1, 0, 0), true);
        }
        Dance.due("bytes", h.about(12), 4080);
        Dance.due("feed beyond 4096", h.feed(0, 0, 0, 0, 0), false);
        Dance.due("bytes stay", h.about(12), 4080);
        Dance.due("end(4077)", h.end(4077), true);
        Dance.due("feed to 4097", h.feed(0, 0, 0, 0, 0), false);
        Dance.due("end(4078) of 4077", h.end(4078), false);
        Dance.due("end(4076)", h.end(4076), true);
        Dance.due("feed to 4096", h.feed(0, 0, 0, 0, 0), true);
        Dance.due("bytes 4096", h.about(12), 4096);
        Dance.due("load of bytes that are none", h.load(), -2);
        Dance.due("bytes behind load", h.about(12), 0);
        // the highest byte of a number first: "form", "a=0 ", "0 n;"
        CallerHall g = new CallerHall();
        Dance.due("feed", g.feed(0x666F726D, 0x20613D30, 0x2030206E, 0x3B202020, 0x23FF00FE), true);
        Dance.due("load", g.load(), 0);
        Dance.due("forms", g.about(6), 1);
    }

    private static void tokens() {
        Dance d = Dance.ready();
        Dance.due("an empty book", d.load(""), 0);
        Dance.due("each of the four blanks", d.load("form\tblank1\n=\r0 0 n;\n\n\nform\nblank2 = 0\n0 n;"), 0);
        d.dueFault("form\u000bf = 0 0 n;", 4, 1);
        Dance.due("blanks and remarks alone", d.load(" \t\r\n# all { \u00ff\n  # to the end"), 0);
        Dance.due("fault of that", d.hall.fault(), 0);
        Dance.due("no blanks", d.load("form a1=0 0n,4 0e,-4 -0s lark,00004 00004any robin;"), 0);
        Dance.due("a remark parts", d.load("form#x\nb1#y\n=#\n0#\n0#\nw#\n;"), 0);
        Dance.due("all sorts of letters", d.load("form zaZA_09 = 0 0 n;"), 0);
        String outside = "@[`/:|~!\"'$%*+.<>?\\^";
        for (int i = 0; i < outside.length(); i++) {
            d.dueFault("form y" + outside.charAt(i) + " = 0 0 n;", 6, 1);
        }
        Dance.due("24 letters", d.load("form aaaaaaaaaaaaaaaaaaaaaaa_ = 0 0 n;"), 0);
        d.dueFault("form aaaaaaaaaaaaaaaaaaaaaaaaa = 0 0 n;", 5, 1);
        d.dueFault("form f = 0 0000000 n;", 11, 1);
        d.dueFault("form f = 0 -000000 n;", 11, 1);
        d.dueFault("form f = 0 - 4 n;", 11, 1);
        d.dueFault("form f = 0 --4 n;", 11, 1);
        d.dueFault("form _f = 0 0 n;", 5, 1);
        d.dueFault("form f = 0 0 n; @", 16, 1);
        d.dueFault("form f = 0 0 n; \u00e9", 16, 1);
        d.dueFault("form f = 0 0 n\0;", 14, 1);
        d.dueFault("form f = 0 0 n  ", 16, 1);
        d.dueFault("form f = 0 0 n # ;", 18, 1);
        // an earlier token is at fault ahead of bytes that are none
        d.dueFault("form f = 0 33 n; @", 11, 4);
        d.dueFault("Form f = 0 0 n;", 0, 1);
        Dance.due("letters' sizes", d.load("form Form = 0 0 n; form N = 0 0 n; form Any1 = 0 0 n;"), 0);
    }

    private static void forms() {
        Dance d = Dance.ready();
        Dance.due("places up to 32", d.load("form f0 = 32 -32 n lark, -32 32 any robin;"), 0);
        Dance.due("eight slots", d.load("form f8 = 0 0 n,0 1 n,0 2 n,0 3 n,0 4 n,0 5 n,0 6 n,0 7 n;"), 0);
        d.dueFault("form g = 33 0 n;", 9, 4);
        d.dueFault("form g = -33 0 n;", 9, 4);
        d.dueFault("form g = 0 33 n;", 11, 4);
        d.dueFault("form g = 0 -33 n;", 11, 4);
        d.dueFault("form g = 0 0;", 12, 1);
        d.dueFault("form g = 0 0 north;", 13, 1);
        d.dueFault("form g = 0 0 n lark robin;", 20, 1);
        d.dueFault("form g = ;", 9, 1);
        d.dueFault("form g 0 0 n;", 7, 1);
        d.dueFault("form part = 0 0 n;", 5, 1);
        d.dueFault("form g = 0 0 n,;", 15, 1);
        d.dueFault("form g = 4 8 n, 4 8 s;", 18, 7);
        d.dueFault("form g = 4 8 n, 4 9 s, 4 08 e;", 25, 7);
        String eight = "form g = 0 0 n,0 1 n,0 2 n,0 3 n,0 4 n,0 5 n,0 6 n,0 7 n,";
        d.dueFault(eight + "0 8 n;", eight.length(), 5);
        d.dueFault(eight + "33 8 n;", eight.length(), 4);
        d.dueFault(eight + "n 8 n;", eight.length(), 1);
        d.dueFault(eight, eight.length(), 1);
    }

    private static void figures() {
        Dance d = Dance.ready();
        Dance.due("the edges", d.load("figure f on duo counts 64 price 1000 = -32 32 8, 32 -32 -8;"), 0);
        Dance.due("and the others", d.load("figure f2 on any1 counts 0 price 0 = 0 0 0;"), 0);
        d.dueFault("figure g on duo counts 65 price 0 = 0 0 0, 4 0 0;", 23, 4);
        d.dueFault("figure g on duo counts -1 price 0 = 0 0 0, 4 0 0;", 23, 4);
        d.dueFault("figure g on duo counts 1 price 1001 = 0 0 0, 4 0 0;", 31, 4);
        d.dueFault("figure g on duo counts 1 price -1 = 0 0 0, 4 0 0;", 31, 4);
        d.dueFault("figure g on duo counts 1 price 1 = -33 0 0, 4 0 0;", 35, 4);
        d.dueFault("figure g on duo counts 1 price 1 = 0 -33 0, 4 0 0;", 37, 4);
        d.dueFault("figure g on duo counts 1 price 1 = 33 0 0, 4 0 0;", 35, 4);
        d.dueFault("figure g on duo counts 1 price 1 = 0 33 0, 4 0 0;", 37, 4);
        d.dueFault("figure g on duo counts 1 price 1 = 0 0 9, 4 0 0;", 39, 4);
        d.dueFault("figure g on duo counts 1 price 1 = 0 0 -9, 4 0 0;", 39, 4);
        d.dueFault("figure g on duo counts 1 price 1 = 0 0 0;", 40, 6);
        d.dueFault("figure g on duo counts 1 price 1 = 0 0 0, 4 0 0, 8 0 0;", 47, 6);
        d.dueFault("figure g on duo counts 1 price 1 = 0 0 0, 4 0 0, x", 47, 6);
        d.dueFault("figure g on duo counts 1 price 1 = 0 0 0, 4 0 0 &", 48, 1);
        d.dueFault("figure g on duo counts 1 price 1 = 0 0 0 &", 41, 1);
        d.dueFault("figure g on turn counts 1 price 1 = 0 0 0;", 12, 2);
        d.dueFault("figure g on duo price 1 counts 1 = 0 0 0, 4 0 0;", 16, 1);
        d.dueFault("figure g at duo counts 1 price 1 = 0 0 0, 4 0 0;", 9, 1);
    }

    private static void names() {
        Dance d = Dance.ready();
        Dance.due("a part", d.load("part p { all turn; }"), 0);
        d.dueFault("form box = 0 0 n;", 5, 3);
        d.dueFault("form turn = 0 0 n;", 5, 3);
        d.dueFault("form p = 0 0 n;", 5, 3);
        d.dueFault("figure box on any1 counts 0 price 0 = 0 0 0;", 7, 3);
        d.dueFault("part turn { }", 5, 3);
        d.dueFault("part p { }", 5, 3);
        d.dueFault("form q = 0 0 n; part q { }", 21, 3);
        d.dueFault("part q { do q; }", 12, 2);
        d.dueFault("part q { do r; } part r { }", 12, 2);
        d.dueFault("part q { do turn; }", 12, 2);
        d.dueFault("part q { all box; }", 13, 2);
        d.dueFault("part q { in turn turn; }", 12, 2);
        d.dueFault("part q { all all; }", 13, 1);
        Dance.due("further up in the text", d.load("form q = 0 0 n; figure r on q counts 1 price 1 = 0 0 0; "
            + "part t { in q r; } part u { do t; do p; }"), 0);
    }

    /** Names that are alike in their first letters, up to the last of 24. */
    private static void longNames() {
        Dance d = Dance.empty();
        String eight = "abcdefgh";
        String[] names = {eight, eight + "i", eight + "j", eight + eight, eight + eight + "i", eight + eight + eight,
            eight + eight + "abcdefgH", eight + eight + "abcdefg", "a" + eight, eight + "ibcdefgh"};
        for (int i = 0; i < names.length; i++) {
            Dance.due("form " + names[i], d.load("form " + names[i] + " = 0 0 n;"), 0);
        }
        for (int i = 0; i < names.length; i++) {
            Dance.due("named " + names[i], d.named(names[i], 0), i);
        }
        Dance.due("none", d.named(eight + "k", 0), -1);
        Dance.due("none", d.named(eight + eight + "j", 0), -1);
        Dance.due("none", d.named("abcdefg", 0), -1);
        Dance.due("figures", d.load("figure formation on abcdefghi counts 0 price 0 = 0 0 0;"
            + "figure figures on abcdefghj counts 0 price 0 = 0 0 0;"), 0);
        Dance.due("a word that begins like a keyword", d.named("formation", 1), 0);
        Dance.due("a word that begins like a keyword", d.named("figures", 1), 1);
    }

    private static void statements() {
        Dance d = Dance.ready();
        Dance.due("all of them", d.load("part p { all turn; repeat 64 { } until home most 64 { } if home { } "
            + "if home { } else { } for all { } } part q { do p; }"), 0);
        d.dueFault("part a { repeat 0 { } }", 16, 4);
        d.dueFault("part a { repeat 65 { } }", 16, 4);
        d.dueFault("part a { repeat all { } }", 16, 1);
        d.dueFault("part a { repeat 1 all turn; }", 18, 1);
        d.dueFault("part a { until home most 0 { } }", 25, 4);
        d.dueFault("part a { until home most 65 { } }", 25, 4);
        d.dueFault("part a { until home { } }", 20, 1);
        d.dueFault("part a { if home { } else all turn; }", 26, 1);
        d.dueFault("part a { else { } }", 9, 1);
        d.dueFault("part a { if home { } all turn; else { } }", 31, 1);
        d.dueFault("part a { do p }", 14, 1);
        d.dueFault("part a { all turn }", 18, 1);
        d.dueFault("part a { all turn; ", 19, 1);
        d.dueFault("part a all turn;", 7, 1);
        d.dueFault("part a { } }", 11, 1);
        d.dueFault("allow all turn", 14, 1);
        d.dueFault("allow do p;", 6, 1);
        d.dueFault("all turn;", 0, 1);
    }

    private static void who() {
        Dance d = Dance.ready();
        Dance.due("all words", d.load("allow all or larks and robins or heads and not sides or couple 31 or dancer 63 "
            + "or facing n or facing e or facing s or facing w or (in box and at box 3) or not not all turn;"), 0);
        d.dueCallFault("couple 32 turn", 7, 4);
        d.dueCallFault("couple -1 turn", 7, 4);
        d.dueCallFault("dancer 64 turn", 7, 4);
        d.dueCallFault("dancer all turn", 7, 1);
        d.dueCallFault("facing any turn", 7, 1);
        d.dueCallFault("at box 4 turn", 7, 4);
        d.dueCallFault("at any1 1 turn", 8, 4);
        d.dueCallFault("at box turn", 7, 1);
        d.dueCallFault("in nothing turn", 3, 2);
        d.dueCallFault("(all turn", 5, 1);
        d.dueCallFault("all) turn", 3, 1);
        d.dueCallFault("all or turn", 7, 1);
        d.dueCallFault("all turn;", 8, 1);
        d.dueCallFault("all turn all", 9, 1);
        d.dueCallFault("all turn &", 10, 1);
        d.dueCallFault("home turn", 0, 1);
        d.dueCallFault("all turn & all turn & all turn & all turn & all turn", 42, 5);
        d.dueCallFault("", 0, 1);
        d.dueCallFault("all", 3, 1);
        String thirty = Dance.many("(", 15) + Dance.many("not ", 15);
        Dance.due("30 in one another", d.call(thirty + "all" + Dance.many(")", 15) + " turn"), 1);
        d.dueCallFault(Dance.many("(", 15) + Dance.many("not ", 16) + "all" + Dance.many(")", 15) + " turn", 75, 5);
        d.dueCallFault(Dance.many("not ", 30) + "(all) turn", 120, 5);
        Dance.due("a not goes as long as its ONE", d.call(Dance.many("not all and not all or ", 20) + "all turn"), 0);
    }

    private static void conditions() {
        Dance d = Dance.ready();
        Dance.due("all of them", d.load("part p { if not home or (home and count all or larks is 0) and forms box larks "
            + "or robins { } until count all is 64 and home most 1 { } }"), 0);
        d.dueFault("part q { if forms box all and home { } }", 30, 1);
        Dance.due("parted by ( )", d.load("part q { if (forms box all) and home { } }"), 0);
        d.dueFault("part r { if count all is 65 { } }", 25, 4);
        d.dueFault("part r { if count all is -1 { } }", 25, 4);
        d.dueFault("part r { if count all { } }", 22, 1);
        d.dueFault("part r { if forms turn all { } }", 18, 2);
        d.dueFault("part r { if all { } }", 12, 1);
        d.dueFault("part r { if (home { } }", 18, 1);
        d.dueFault("part r { for home { } }", 13, 1);
        // the part's own { is the first, so that 29 more may be open
        String nots = Dance.many("not ", 29);
        Dance.due("30 with the part's own", d.load("part r { if " + nots + "home { } }"), 0);
        d.dueFault("part v { if " + nots + "not home { } }", 12 + 29 * 4, 5);
        d.dueFault("part v { if " + nots + "(home) { } }", 12 + 29 * 4, 5);
        Dance.due("a for's { behind its WHO", d.load("part v { for " + nots + "all { } }"), 0);
        String blocks = Dance.many("if home {", 29);
        Dance.due("30 blocks", d.load("part t {" + blocks + Dance.many("}", 30)), 0);
        d.dueFault("part u {" + blocks + "if home {}" + Dance.many("}", 30), 8 + 29 * 9 + 8, 5);
        d.dueFault("part u {" + blocks + "if not home {}" + Dance.many("}", 30), 8 + 29 * 9 + 3, 5);
        Dance.due("an else is no deeper", d.load("part u {" + Dance.many("if home {", 28) + "if home { } else { }"
            + Dance.many("}", 29)), 0);
    }

    private static void counts() {
        Dance d = Dance.empty();
        StringBuilder text = new StringBuilder();
        for (int i = 0; i < 40; i++) {
            text.append("form a").append(i).append("=0 0 n;");
        }
        Dance.due("40 forms", d.load(text.toString()), 0);
        d.dueFault("form b=0 0 n;", 0, 5);
        d.dueFault("figure f on a0 counts 0 price 0=0 0 0; form b=0 0 n;", 39, 5);
        Dance.due("forms", d.hall.about(6), 40);
        Dance.due("figures", d.hall.about(7), 0);
        text.setLength(0);
        for (int i = 0; i < 60; i++) {
            text.append("part p").append(i).append("{}");
        }
        Dance.due("60 parts", d.load(text.toString()), 0);
        d.dueFault("part q{}", 0, 5);
        Dance.due("tokens of parts", d.hall.about(13), 240);
        Dance.due("a figure", d.load("figure f on a0 counts 0 price 0=0 0 0;"), 0);
        Dance.due("32 allows", d.load(Dance.many("allow all f;", 32)), 0);
        d.dueFault("allow all f;", 0, 5);
        Dance.due("allows", d.hall.about(9), 32);
        Dance.due("tokens with allows", d.hall.about(13), 240 + 128);
        Dance e = Dance.empty();
        text.setLength(0);
        text.append("form a=0 0 n;");
        for (int i = 0; i < 100; i++) {
            text.append("figure f").append(i).append(" on a counts 0 price 0=0 0 0;");
        }
        Dance.due("100 figures", e.load(text.toString()), 0);
        e.dueFault("figure g on a counts 0 price 0=0 0 0;", 0, 5);
        e.dueFault(" figures", 1, 1);
        Dance.due("figures", e.hall.about(7), 100);
    }

    private static void nothingOfABookAtFault() {
        Dance d = Dance.ready();
        int forms = d.hall.about(6);
        String good = "form z = 0 0 n; figure y on z counts 1 price 1 = 0 0 0; part x { all y; } allow all y;";
        d.dueFault(good + " !", good.length() + 1, 1);
        Dance.due("forms", d.hall.about(6), forms);
        Dance.due("figures", d.hall.about(7), 11);
        Dance.due("parts", d.hall.about(8), 0);
        Dance.due("allows", d.hall.about(9), 0);
        Dance.due("tokens", d.hall.about(13), 0);
        Dance.due("the form is not there", d.named("z", 0), -1);
        Dance.due("the same names may come again", d.load("form z = 0 0 any; part x { all turn; }"), 0);
        Dance.due("fault of that", d.hall.fault(), 0);
        Dance.due("tokens", d.hall.about(13), 7);
        Dance.due("forms are none of the tokens", d.load("allow all turn; form y = 0 0 n; part v { } figure u on y "
            + "counts 1 price 1 = 0 0 0;"), 0);
        Dance.due("tokens", d.hall.about(13), 7 + 4 + 4);
        Dance.due("a new hall has no fault", new CallerHall().fault(), 0);
    }

    private static void named() {
        Dance d = Dance.ready();
        Dance.due("parts", d.load("part p { } part q { }"), 0);
        Dance.due("a form", d.named("box", 0), 2);
        Dance.due("a figure", d.named(" # x\n circle # y", 1), 3);
        Dance.due("a part", d.named("q", 2), 1);
        Dance.due("bytes behind it", d.hall.about(12), 0);
        Dance.due("of another sort", d.named("box", 1), -1);
        Dance.due("that is no fault", d.hall.fault(), 0);
        Dance.due("sort 3", d.named("box", 3), -1);
        Dance.due("sort -1", d.named("box", -1), -1);
        Dance.due("sort 3", d.named("q", 3), -1);
        Dance.due("sort -1", d.named("q", -1), -1);
        Dance.due("no fault either", d.hall.fault(), 0);
        Dance.due("unknown", d.named("nobody", 0), -1);
        Dance.due("no fault", d.hall.fault(), 0);
        String[] wrong = {"", "box box", "all", "5", "box;", "box @", "aaaaaaaaaaaaaaaaaaaaaaaaa", "{"};
        for (String text : wrong) {
            for (int sort = -1; sort < 4; sort++) {
                Dance.due("named " + text, d.named(text, sort), -1);
                Dance.due("fault of " + text, d.hall.fault(), 1);
            }
        }
    }
}
