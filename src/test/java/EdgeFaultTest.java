/** The faults 1 .. 7 and how much all books may have: each sentence that names a limit, at it and just beyond. */
public final class EdgeFaultTest {
    /** 61 tokens in 63 bytes. */
    private static final String LONG = Dance.many("(", 29) + "all" + Dance.many(")", 29) + "f;";

    public static void main(String[] args) {
        forms();
        figures();
        parts();
        allows();
        tokens6000();
        tokensFromTheFirstWord();
        tokensOfOthers();
        tokensOfABookAtFault();
        token6001();
        everyToken6001();
        nestedBlocks();
        nestedGroups();
        nestedNots();
        nestedAnyWay();
        partsOwnBlock();
        notAsLongAsItsOne();
        endOfTheText();
        eachPrefix();
        noneOfThatSort();
        furtherUp();
        behindItsEnd();
        oneAlready();
        oneTooMany();
        leastOfThem();
        firstTokenThatIsWrong();
        nothingComesToBe();
        Dance.finish("EdgeFaultTest");
    }

    private static Dance plain() {
        Dance d = Dance.empty();
        Dance.due("forms", d.load("form a = 0 0 any; figure f on a counts 1 price 1 = 0 0 1;"), 0);
        return d;
    }

    private static void dueLoad(Dance d, String text, int place, int fault) {
        Dance.due("load of " + text, d.load(text), fault == 0 ? 0 : -2 - place);
        Dance.due("fault of " + text, d.hall.fault(), fault);
    }

    /** Some of one sort, named from a number on. */
    private static String some(String ahead, String behind, int from, int to) {
        StringBuilder text = new StringBuilder();
        for (int i = from; i < to; i++) {
            text.append(ahead).append(i).append(behind);
        }
        return text.toString();
    }

    private static void forms() {
        Dance.says("At most 40 forms; 5 the word form of the 41st");
        String forty = some("form a", "=0 0 n;", 0, 40);
        dueLoad(Dance.empty(), forty, 0, 0);
        dueLoad(Dance.empty(), forty + "form b=0 0 n;", forty.length(), 5);
        dueLoad(Dance.empty(), forty + "form", forty.length(), 5);
        dueLoad(Dance.empty(), forty + "form @", forty.length(), 5);
        Dance d = Dance.empty();
        dueLoad(d, some("form a", "=0 0 n;", 0, 39), 0, 0);
        dueLoad(d, some("form a", "=0 0 n;", 39, 41), "form a39=0 0 n;".length(), 5);
        Dance.due("none of that book", d.hall.about(6), 39);
        dueLoad(d, "form a39=0 0 any;", 0, 0);
        Dance.due("forms", d.hall.about(6), 40);
        dueLoad(d, " form a40=0 0 n;", 1, 5);
        dueLoad(d, "figure f on a39 counts 0 price 0=0 0 1; part p{in a39 f;} allow at a39 0 f;", 0, 0);
        Dance.due("the last form", d.named("a39", 0), 39);
        Dance.due("may be used", d.call("in a39 f"), 0);
        d.dueDancer(7, 0, 4, 2, 1);
    }

    private static void figures() {
        Dance.says("At most 100 figures; 5 the word figure of the 101st");
        String form = "form a=0 0 any;";
        String hundred = some("figure f", " on a counts 0 price 0=0 0 0;", 0, 99) + "figure f99 on a counts 9 price 0=0 0 1;";
        dueLoad(Dance.empty(), form + hundred, 0, 0);
        dueLoad(Dance.empty(), form + hundred + "figure g on a counts 0 price 0=0 0 0;", form.length() + hundred.length(), 5);
        Dance d = Dance.empty();
        dueLoad(d, form + some("figure f", " on a counts 0 price 0=0 0 0;", 0, 99), 0, 0);
        dueLoad(d, "figure f99 on a counts 9 price 0=0 0 1;", 0, 0);
        dueLoad(d, "figure f100 on a counts 0 price 0=0 0 0;", 0, 5);
        dueLoad(d, "figure", 0, 5);
        Dance.due("figures", d.hall.about(7), 100);
        Dance.due("the last figure", d.named("f99", 1), 99);
        Dance.due("may be used", d.call("all f99"), 0);
        d.dueDancer(7, 0, 4, 2, 1);
        Dance.due("its counts", d.hall.about(1), 9);
    }

    private static void parts() {
        Dance.says("At most 60 parts; 5 the word part of the 61st");
        String sixty = some("part p", "{}", 0, 59) + "part p59{all f;}";
        Dance d = plain();
        dueLoad(d, sixty + "part q{}", sixty.length(), 5);
        dueLoad(d, some("part p", "{}", 0, 59), 0, 0);
        dueLoad(d, "part p59{all f;}", 0, 0);
        dueLoad(d, "part p60{}", 0, 5);
        dueLoad(d, "part", 0, 5);
        Dance.due("parts", d.hall.about(8), 60);
        Dance.due("the last part", d.named("p59", 2), 59);
        Dance.due("begin(60)", d.hall.begin(60), false);
        Dance.due("begin(59)", d.hall.begin(59), true);
        Dance.due("step", d.hall.step(), 1);
        Dance.due("times", d.hall.times(59, 0, 4), 4);
        Dance.due("times of none", d.hall.times(60, 0, 4), -1);
    }

    private static void allows() {
        Dance.says("At most 32 allows; 5 the word allow of the 33rd");
        Dance d = plain();
        dueLoad(d, Dance.many("allow all f;", 33), 12 * 32, 5);
        Dance.due("none of that book", d.hall.about(9), 0);
        dueLoad(d, Dance.many("allow dancer 9 f;", 31), 0, 0);
        dueLoad(d, "allow all f;", 0, 0);
        dueLoad(d, "allow all f;", 0, 5);
        dueLoad(d, "allow", 0, 5);
        Dance.due("allows", d.hall.about(9), 32);
        Dance.due("the last one", d.hall.may(31), 0);
        Dance.due("one behind it", d.hall.may(32), -1);
        Dance.due("call", d.call("all f"), 0);
        Dance.due("resolve", d.hall.resolve(3), 3);
        Dance.due("cheapest", d.hall.cheapest(), 3);
        Dance.due("found", d.hall.found(2), 31);
    }

    /** A hall whose parts have 3908 tokens. */
    private static Dance almostFull() {
        Dance d = plain();
        Dance.due("3908 tokens", d.load("part p{" + Dance.many(LONG, 64) + "}"), 0);
        Dance.due("tokens", d.hall.about(13), 3908);
        return d;
    }

    /** A text that makes it 5999 of them if a } comes behind it. */
    private static String almostTheRest() {
        return "part q{" + Dance.many(LONG, 34) + "(all)f;(all)f;all f;";
    }

    private static void tokens6000() {
        Dance.says("parts and allows have at most 6000 tokens in all");
        // 3908 + 3 + 34 * 61 + 5 + 3 * 3 + 1
        Dance d = almostFull();
        Dance.due("2092 more", d.load("part q{" + Dance.many(LONG, 34) + "(all)f;all f;all f;all f;}"), 0);
        Dance.due("tokens", d.hall.about(13), 6000);
        dueLoad(d, "part r{}", 0, 5);
        dueLoad(d, "allow all f;", 0, 5);
        Dance.due("tokens", d.hall.about(13), 6000);
        Dance.due("the last part", d.hall.begin(1), true);
        for (int i = 0; i < 38; i++) {
            Dance.due("step", d.hall.step(), 1);
        }
        Dance.due("end", d.hall.step(), 0);
        Dance e = almostFull();
        Dance.due("2093 more", e.load("part q{" + Dance.many(LONG, 34) + "(all)f;(all)f;(all)f;}"), -2 - 63 * 34 - 7 - 21);
        Dance.due("fault", e.hall.fault(), 5);
        Dance.due("tokens", e.hall.about(13), 3908);
    }

    private static void tokensFromTheFirstWord() {
        Dance.says("(each from its first word to its } or ;");
        Dance d = plain();
        dueLoad(d, "part p{}", 0, 0);
        Dance.due("part p { }", d.hall.about(13), 4);
        dueLoad(d, "allow all f;", 0, 0);
        Dance.due("allow all f ;", d.hall.about(13), 8);
        dueLoad(d, "allow not(dancer 5 or facing n)f&at a 0 f; #\n", 0, 0);
        Dance.due("allow not ( dancer 5 or facing n ) f & at a 0 f ;", d.hall.about(13), 24);
        dueLoad(d, "part q{if home{do p;}else{all f;}}", 0, 0);
        Dance.due("part q { if home { do p ; } else { all f ; } }", d.hall.about(13), 41);
    }

    private static void tokensOfOthers() {
        Dance.says("parts and allows have at most 6000 tokens: those of forms, figures, called steps and names are none");
        Dance d = plain();
        Dance.due("tokens", d.hall.about(13), 0);
        Dance.due("call", d.call("all f & not all f"), 1);
        Dance.due("named", d.named("f", 1), 0);
        Dance.due("tokens", d.hall.about(13), 0);
        dueLoad(d, "allow all f; form b=0 0 n; part p{} figure g on b counts 0 price 0=0 0 0;", 0, 0);
        Dance.due("tokens", d.hall.about(13), 8);
        Dance e = almostFull();
        Dance.due("2092 more", e.load("part q{" + Dance.many(LONG, 34) + "(all)f;all f;all f;all f;}"), 0);
        dueLoad(e, "form b=0 0 n; figure g on b counts 0 price 0=0 0 0;", 0, 0);
        Dance.due("tokens", e.hall.about(13), 6000);
        Dance.due("a step of many tokens", e.call(Dance.many("(((((all))))) or ", 60) + "all f"), 0);
        e.dueDancer(0, 4, 0, 1, 1);
        Dance.due("tokens", e.hall.about(13), 6000);
    }

    private static void tokensOfABookAtFault() {
        Dance.says("none of a book at fault)");
        Dance d = plain();
        dueLoad(d, "part p{all f;} allow all f; part q{all f;} @", 43, 1);
        Dance.due("tokens", d.hall.about(13), 0);
        dueLoad(d, "part p{all f;}", 0, 0);
        Dance.due("tokens", d.hall.about(13), 7);
        dueLoad(d, "allow all f; part p{}", 18, 3);
        Dance.due("tokens", d.hall.about(13), 7);
        Dance e = almostFull();
        String most = "part q{" + Dance.many(LONG, 34);
        Dance.due("at fault ahead of 6000", e.load(most + "@"), -2 - most.length());
        Dance.due("tokens", e.hall.about(13), 3908);
        Dance.due("what may come is as much as before", e.load(most + "(all)f;all f;all f;all f;}"), 0);
        Dance.due("tokens", e.hall.about(13), 6000);
    }

    /** A hall with 5999 tokens, so that one more may come. */
    private static void dueBehind5999(String text, int place, int fault) {
        Dance d = almostFull();
        Dance.due("2091 more", d.load(almostTheRest() + "}"), 0);
        Dance.due("tokens", d.hall.about(13), 5999);
        dueLoad(d, text, place, fault);
        Dance.due("tokens", d.hall.about(13), 5999);
    }

    private static void token6001() {
        Dance.says("5 .. a token of parts and allows beyond 6000");
        dueBehind5999("part r{}", 5, 5);
        dueBehind5999("allow all f;", 6, 5);
        dueBehind5999("allow not all f;", 6, 5);
        dueBehind5999("allow (all) f;", 6, 5);
        dueBehind5999("form g=0 0 n; allow dancer 5 f;", 20, 5);
        // what is wrong by less is told ahead of it
        dueBehind5999("part p{}", 5, 3);
        dueBehind5999("part all{}", 5, 1);
        dueBehind5999("part", 4, 1);
        dueBehind5999("allow f;", 6, 1);
        dueBehind5999("allow @", 6, 1);
        // the 6001st in the midst of a text, as good or wrong as it may be else
        String head = "part q{" + Dance.many(LONG, 34) + "(all)f;(all)f;";
        String[] tails = {"all f;all f;}", "all f;all f}", "all f;not all f;}", "all f;not all g;}", "all f;not dancer 5 f;}",
            "all f;not dancer 64 f;}", "all f;repeat 1{}}", "all f;repeat 1}", "repeat 1{}do p;}", "repeat 1{}do r;}", "(all)f;}",
            "(all)f;@", "(all)f;", "(all)f;do p;}"};
        int[] places = {11, 11, 14, 14, 17, 17, 14, 14, 13, 13, 7, 7, 7, 7};
        int[] faults = {5, 1, 5, 2, 5, 4, 5, 1, 5, 2, 5, 1, 1, 5};
        for (int i = 0; i < tails.length; i++) {
            Dance d = almostFull();
            Dance.due("load behind " + tails[i], d.load(head + tails[i]), -2 - head.length() - places[i]);
            Dance.due("fault", d.hall.fault(), faults[i]);
        }
    }

    /** Statements of so many tokens, three at least. */
    private static String statements(int tokens) {
        int left = tokens;
        StringBuilder text = new StringBuilder();
        while (left >= 61 + 3) {
            text.append(LONG);
            left -= 61;
        }
        while (left >= 6) {
            text.append("all f;");
            left -= 3;
        }
        return text + (left == 3 ? "all f;" : left == 4 ? "not all f;" : "(all)f;");
    }

    /** A part and an allowed step with all there is, each of their tokens as the 6001st. */
    private static void everyToken6001() {
        Dance.says("5 .. a token of parts and allows beyond 6000");
        String[] words = ("part z { all f & ( larks or not robins ) and heads f ; do p ; repeat 2 { } until home and not home or home most 3 "
            + "{ all f ; } if count sides is 8 { } else { } for couple 1 or dancer 2 and facing n { } if ( forms a in a or at a 0 ) { } } "
            + "allow all f & all f ;").split(" ");
        for (int i = 0; i < words.length; i++) {
            Dance d = almostFull();
            Dance.due("tokens", d.load("part q{" + statements(2092 - i - 4) + "}"), 0);
            Dance.due("tokens", d.hall.about(13), 6000 - i);
            StringBuilder ahead = new StringBuilder();
            for (int k = 0; k < i; k++) {
                ahead.append(words[k]).append(' ');
            }
            StringBuilder behind = new StringBuilder();
            for (int k = i; k < words.length; k++) {
                behind.append(words[k]).append(' ');
            }
            Dance.due("the 6001st is " + words[i], d.load(ahead.toString() + behind), -2 - ahead.length());
            Dance.due("fault", d.hall.fault(), 5);
            Dance.due("no token there", d.load(ahead + "@"), -2 - ahead.length());
            Dance.due("fault", d.hall.fault(), 1);
            Dance.due("tokens", d.hall.about(13), 6000 - i);
        }
    }

    private static void nestedBlocks() {
        Dance.says("of { ( and not at most 30 are in one another: { (a part's own { is one)");
        String[] opens = {"repeat 1{", "until home most 1{", "if home{", "for all{"};
        for (String open : opens) {
            Dance d = Dance.ready();
            dueLoad(d, "part q{" + Dance.many(open, 29) + Dance.many("}", 30), 0, 0);
            dueLoad(d, "part r{" + Dance.many(open, 30) + Dance.many("}", 31), 6 + 30 * open.length(), 5);
            dueLoad(d, "part r{" + Dance.many(open, 29) + "}" + open + Dance.many("}", 30), 0, 0);
        }
        Dance d = Dance.ready();
        dueLoad(d, "part q{" + Dance.many("if home{}else{", 29) + Dance.many("}", 30), 0, 0);
        dueLoad(d, "part r{" + Dance.many("if home{}else{", 28) + "if home{}else{repeat 1{}" + Dance.many("}", 30),
            6 + 28 * 14 + 14 + 9, 5);
        // a STEP, a do within the deepest
        dueLoad(d, "part r{" + Dance.many("for all{", 29) + "all hold;do q;" + Dance.many("}", 30), 0, 0);
    }

    private static void nestedGroups() {
        Dance.says("of { ( and not at most 30 are in one another: (");
        Dance d = Dance.ready();
        Dance.due("30 of a call", d.call(Dance.many("(", 30) + "all" + Dance.many(")", 30) + " hold"), 0);
        d.dueCallFault(Dance.many("(", 31) + "all" + Dance.many(")", 31) + " hold", 30, 5);
        d.dueCallFault(Dance.many("(", 31), 30, 5);
        dueLoad(d, "allow " + Dance.many("(", 30) + "all" + Dance.many(")", 30) + " hold;", 0, 0);
        dueLoad(d, "allow " + Dance.many("(", 31) + "all" + Dance.many(")", 31) + " hold;", 36, 5);
        dueLoad(d, "part q{" + Dance.many("(", 29) + "all" + Dance.many(")", 29) + " hold;}", 0, 0);
        dueLoad(d, "part r{" + Dance.many("(", 30) + "all" + Dance.many(")", 30) + " hold;}", 7 + 29, 5);
        dueLoad(d, "part r{if " + Dance.many("(", 29) + "home" + Dance.many(")", 29) + "{}}", 0, 0);
        dueLoad(d, "part t{if " + Dance.many("(", 30) + "home" + Dance.many(")", 30) + "{}}", 10 + 29, 5);
    }

    private static void nestedNots() {
        Dance.says("of { ( and not at most 30 are in one another: not");
        Dance d = Dance.ready();
        Dance.due("30 of a call", d.call(Dance.many("not ", 30) + "all hold"), 0);
        d.dueCallFault(Dance.many("not ", 31) + "all hold", 120, 5);
        dueLoad(d, "allow " + Dance.many("not ", 30) + "all hold;", 0, 0);
        dueLoad(d, "allow " + Dance.many("not ", 31) + "all hold;", 126, 5);
        dueLoad(d, "part q{for " + Dance.many("not ", 29) + "all{}}", 0, 0);
        dueLoad(d, "part r{for " + Dance.many("not ", 30) + "all{}}", 11 + 29 * 4, 5);
        dueLoad(d, "part r{until " + Dance.many("not ", 29) + "home most 1{}}", 0, 0);
        dueLoad(d, "part t{until " + Dance.many("not ", 30) + "home most 1{}}", 13 + 29 * 4, 5);
        dueLoad(d, "part t{if " + Dance.many("not ", 29) + "count all is 0{}}", 0, 0);
        dueLoad(d, "part u{if " + Dance.many("not ", 29) + "count not all is 0{}}", 10 + 29 * 4 + 6, 5);
    }

    private static void nestedAnyWay() {
        Dance.says("of { ( and not at most 30 are in one another");
        Dance d = Dance.ready();
        Dance.due("15 of each", d.call(Dance.many("(not ", 15) + "all" + Dance.many(")", 15) + " hold"), 1);
        d.dueCallFault(Dance.many("(not ", 15) + "(all)" + Dance.many(")", 15) + " hold", 75, 5);
        d.dueCallFault(Dance.many("(not ", 15) + "not all" + Dance.many(")", 15) + " hold", 75, 5);
        String tens = "part q{" + Dance.many("for all{", 9) + "if " + Dance.many("(not ", 5) + "count " + Dance.many("not (", 5);
        String ends = Dance.many(")", 5) + " is 0" + Dance.many(")", 5) + "{}" + Dance.many("}", 10);
        dueLoad(d, tens + "all" + ends, 0, 0);
        dueLoad(d, tens.replace(" q{", " r{") + "not all" + ends, tens.length(), 5);
        dueLoad(d, tens.replace(" q{", " r{") + "(all)" + ends, tens.length(), 5);
        // as many values as can wait for one another: two at each of the 30
        StringBuilder deep = new StringBuilder();
        for (int i = 0; i < 30; i++) {
            deep.append("larks or robins and (");
        }
        Dance.due("two wait at each", d.call("robins or larks and " + deep + "all" + Dance.many(")", 30) + " right"), 0);
        d.dueDancer(0, 4, 0, 1, 1);
        d.dueDancer(1, 8, 0, 1, 1);
        Dance e = Dance.with("part q{if home or home and " + Dance.many("(home or home and ", 14) + "count larks or robins and "
            + Dance.many("(larks or robins and ", 15) + "all" + Dance.many(")", 15) + " is 8" + Dance.many(")", 14) + "{all hold;}}");
        Dance.due("begin", e.hall.begin(0), true);
        Dance.due("step", e.hall.step(), 1);
    }

    private static void partsOwnBlock() {
        Dance.says("(a part's own { is one");
        Dance d = Dance.ready();
        dueLoad(d, "part q{" + Dance.many("not ", 29) + "all hold;}", 0, 0);
        dueLoad(d, "part r{" + Dance.many("not ", 30) + "all hold;}", 7 + 29 * 4, 5);
        // each part, each allow has 30 of its own
        dueLoad(d, "part r{" + Dance.many("if home{", 29) + Dance.many("}", 30) + "part t{" + Dance.many("if home{", 29)
            + Dance.many("}", 30) + "allow " + Dance.many("not ", 30) + "all hold;allow " + Dance.many("(", 30) + "all"
            + Dance.many(")", 30) + "hold;", 0, 0);
    }

    private static void notAsLongAsItsOne() {
        Dance.says("a not for as long as its ONE, or condition, goes)");
        Dance d = Dance.ready();
        String nots = Dance.many("not ", 30);
        Dance.due("one behind the other", d.call(nots + "all and " + nots + "all or " + nots + "all hold"), 0);
        Dance.due("also of ( )", d.call(Dance.many("not ", 29) + "(all) and " + Dance.many("not ", 29) + "(all) hold"), 1);
        Dance.due("of each WHO", d.call(nots + "larks hold & " + nots + "robins hold"), 0);
        d.dueCallFault(nots + "all and " + nots + "not all hold", 120 + 8 + 120, 5);
        // a forms' WHO goes on over or and and, and its not with it
        nots = Dance.many("not ", 29);
        dueLoad(d, "part q{if " + nots + "home or " + nots + "home{}}", 0, 0);
        dueLoad(d, "part r{if " + nots + "forms box all or larks{}}", 0, 0);
        dueLoad(d, "part t{if " + nots + "forms box all or not larks{}}", 10 + 116 + 17, 5);
        dueLoad(d, "part t{if " + nots + "count all is 0 or not home{}}", 0, 0);
    }

    private static void endOfTheText() {
        Dance.says("1 it is no token, or can't stand there (also the end of the text, at its length)");
        Dance d = Dance.ready();
        d.dueFault("form", 4, 1);
        d.dueFault("form  ", 6, 1);
        d.dueFault("form # x", 8, 1);
        d.dueFault("form #\n\n", 8, 1);
        d.dueCallFault("", 0, 1);
        d.dueCallFault("   ", 3, 1);
        d.dueCallFault("all ", 4, 1);
        d.dueCallFault("all hold all", 9, 1);
        d.dueCallFault("all hold;", 8, 1);
        d.dueFault("@", 0, 1);
        d.dueFault("form q = 0 0 n, @", 16, 1);
        d.dueFault("form q = 0 0 n; form aaaaaaaaaaaaaaaaaaaaaaaaa = 0 0 n;", 21, 1);
    }

    /** A book with all there is, cut behind each of its tokens. */
    private static void eachPrefix() {
        Dance.says("(also the end of the text, at its length)");
        String book = "form a = 0 0 n lark , 4 0 any robin ; figure f on a counts 1 price 1 = 0 0 0 , 4 0 0 ; part p { } "
            + "part q { all f ; do p ; repeat 2 { } until home most 3 { all f ; } if count all is 8 { } else { } for in a { } "
            + "if ( not forms a larks or at a 1 ) and home or home { } } allow couple 0 or dancer 1 and facing n f & heads f ;";
        String[] words = book.split(" ");
        StringBuilder text = new StringBuilder();
        int open = 0;
        for (int i = 0; i < words.length; i++) {
            text.append(i == 0 ? "" : " ").append(words[i]);
            open += words[i].equals("{") ? 1 : words[i].equals("}") ? -1 : 0;
            boolean whole = open == 0 && (words[i].equals(";") || words[i].equals("}"));
            Dance d = Dance.empty();
            dueLoad(d, text + " @", text.length() + 1, 1);
            dueNothing(d);
            dueLoad(d, text.toString(), text.length(), whole ? 0 : 1);
            if (!whole) {
                dueNothing(d);
            }
        }
        Dance.due("brackets", open, 0);
    }

    private static void dueNothing(Dance d) {
        int[] counts = {6, 7, 8, 9, 13};
        for (int what : counts) {
            Dance.due("about(" + what + ") of a book at fault", d.hall.about(what), 0);
        }
    }

    private static void noneOfThatSort() {
        Dance.says("2 a NAME where a form, figure or part is wanted, and none of that sort is there by that name");
        Dance d = Dance.with("part p { }");
        String[] ahead = {"figure q on ", "allow in ", "allow at ", "allow all ", "part q { do ", "part q { if forms "};
        String[] behind = {" counts 0 price 0 = 0 0 0;", " turn;", " 0 turn;", ";", "; }", " all { } }"};
        int[] sorts = {0, 0, 0, 1, 2, 0};
        String[] names = {"any1", "turn", "p", "nobody"};
        for (int i = 0; i < ahead.length; i++) {
            for (int sort = 0; sort < names.length; sort++) {
                if (sort != sorts[i]) {
                    dueLoad(d, ahead[i] + names[sort] + behind[i], ahead[i].length(), 2);
                }
            }
            dueLoad(d, ahead[i] + "5" + behind[i], ahead[i].length(), 1);
            dueLoad(d, ahead[i] + "all" + behind[i], ahead[i].length(), 1);
            dueLoad(Dance.with("part p { }"), ahead[i] + names[sorts[i]] + behind[i], 0, 0);
        }
        d.dueCallFault("all box", 4, 2);
        d.dueCallFault("all p", 4, 2);
        d.dueCallFault("in turn turn", 3, 2);
        d.dueCallFault("all Turn", 4, 2);
    }

    private static void furtherUp() {
        Dance.says("(further up in the text counts");
        Dance d = Dance.empty();
        dueLoad(d, "form a=0 0 n; figure f on a counts 0 price 0=0 0 0; part p{in a f;} part q{do p;} allow at a 0 f;", 0, 0);
        dueLoad(d, "figure g on b counts 0 price 0=0 0 0; form b=0 0 n;", 12, 2);
        dueLoad(d, "allow all g; figure g on a counts 0 price 0=0 0 0;", 10, 2);
        dueLoad(d, "part r{do t;} part t{}", 10, 2);
        dueLoad(d, "form b=0 0 n; figure g on b counts 0 price 0=0 0 0; allow all g;", 0, 0);
        // a figure does not know itself either
        dueLoad(d, "figure h on h counts 0 price 0=0 0 0;", 12, 2);
    }

    private static void behindItsEnd() {
        Dance.says("a part from behind its } on)");
        Dance d = Dance.ready();
        dueLoad(d, "part q{do q;}", 10, 2);
        dueLoad(d, "part q{repeat 1{do q;}}", 19, 2);
        dueLoad(d, "part q{}part r{do q;}", 0, 0);
        dueLoad(d, "part t{} part u{do t;do u;}", 24, 2);
        Dance.due("nothing of that", d.named("t", 2), -1);
    }

    private static void oneAlready() {
        Dance.says("3 a NAME that is to come, but is one already, of any sort.");
        String[] texts = {"form x = 0 0 n;", "figure x on any1 counts 0 price 0 = 0 0 0;", "part x { }"};
        int[] places = {5, 7, 5};
        for (int first = 0; first < 3; first++) {
            for (int second = 0; second < 3; second++) {
                Dance d = Dance.ready();
                dueLoad(d, texts[first] + texts[second], texts[first].length() + places[second], 3);
                dueLoad(d, texts[first], 0, 0);
                dueLoad(d, texts[second], places[second], 3);
                dueLoad(d, texts[second].replace("x", "X"), 0, 0);
            }
        }
        Dance d = Dance.empty();
        String almost = Dance.many("x", 23);
        dueLoad(d, "form " + almost + "y = 0 0 n; form " + almost + "z = 0 0 n; form " + almost + " = 0 0 n;", 0, 0);
        dueLoad(d, "form " + almost + "z = 0 0 n;", 5, 3);
        dueLoad(d, "form x = 0 0 n; form y = 0 0 n; form x = 0 0 n;", 37, 3);
    }

    private static void oneTooMany() {
        Dance.says("5 one too many: the X of a 9th slot; the & ahead of a fifth WHO of a STEP; the { ( or not that would be the 31st");
        Dance d = Dance.ready();
        String eight = "form q = 0 0 n,0 1 n,0 2 n,0 3 n,0 4 n,0 5 n,0 6 n,0 7 n,";
        d.dueFault(eight + "0 8 n;", eight.length(), 5);
        d.dueFault(eight + "32", eight.length(), 5);
        d.dueFault(eight + "33", eight.length(), 4);
        d.dueFault(eight + "n", eight.length(), 1);
        d.dueFault(eight, eight.length(), 1);
        d.dueFault(eight.substring(0, eight.length() - 1) + ";;", eight.length(), 1);
        String four = "all hold & all hold & all hold & all hold ";
        d.dueCallFault(four + "& all hold", four.length(), 5);
        d.dueCallFault(four + "&", four.length(), 5);
        d.dueCallFault(four + ";", four.length(), 1);
        d.dueCallFault(Dance.many("(", 30) + "(", 30, 5);
        d.dueCallFault(Dance.many("(", 30) + "not", 30, 5);
        d.dueCallFault(Dance.many("(", 30) + "{", 30, 1);
        d.dueCallFault(Dance.many("(", 30) + ")", 30, 1);
        d.dueCallFault(Dance.many("(", 30) + "home", 30, 1);
        d.dueFault("part q{" + Dance.many("for all{", 29) + "for all(", 7 + 29 * 8 + 7, 1);
    }

    private static void leastOfThem() {
        Dance.says("and there by the least that is");
        Dance d = Dance.ready();
        // 1 ahead of 5 and 6, 4 ahead of 5: the rest is told with the 6000 tokens
        String eight = "form q = 0 0 n,0 1 n,0 2 n,0 3 n,0 4 n,0 5 n,0 6 n,0 7 n,";
        d.dueFault(eight + "-33 0 n;", eight.length(), 4);
        d.dueFault(eight + "@", eight.length(), 1);
        d.dueFault("figure q on duo counts 1 price 1 = 0 0 0 ;", 41, 6);
        d.dueFault("figure q on duo counts 1 price 1 = 0 0 0 @", 41, 1);
        d.dueFault("figure q on duo counts 1 price 1 = 0 0 0, 0 0 0 ,", 48, 6);
        // a keyword is no name, whatever is there by another
        d.dueFault("form form = 0 0 n;", 5, 1);
        d.dueFault("part q { do do; }", 12, 1);
        Dance full = Dance.empty();
        Dance.due("40 forms", full.load(some("form a", "=0 0 n;", 0, 40)), 0);
        full.dueFault("form a0=0 0 n;", 0, 5);
        full.dueFault("forms a0=0 0 n;", 0, 1);
    }

    private static void firstTokenThatIsWrong() {
        Dance.says("A text is at fault at the first token that is wrong");
        Dance d = Dance.ready();
        d.dueFault("form q = 33 33 m;", 9, 4);
        d.dueFault("form q = 0 33 m;", 11, 4);
        d.dueFault("form q = 0 0 m;", 13, 1);
        d.dueFault("form box = 33 0 n;", 5, 3);
        d.dueFault("figure q on nobody counts 99 price 9999 = ;", 12, 2);
        d.dueFault("figure q on duo counts 65 price 9999 = ;", 23, 4);
        d.dueFault("figure q on duo counts 64 price 9999 = ;", 32, 4);
        d.dueFault("figure q on duo counts 64 price 1000 = ;", 39, 1);
        d.dueFault("part q { all nobody & dancer 64 nobody; }", 13, 2);
        d.dueFault("part q { all hold & dancer 64 nobody; }", 27, 4);
        d.dueFault("part q { all hold & dancer 63 nobody; }", 30, 2);
    }

    private static void nothingComesToBe() {
        Dance.says("Of a book at fault nothing comes to be.");
        String good = "form z = 0 0 any; figure y on z counts 1 price 1 = 0 0 1; part x { all y; } allow all y; ";
        String[] wrong = {"@", "form", "form z = 0 0 n;", "allow in w y;", "form w = 33 0 n;", "figure w on z counts 1 price 1 = 0 0 0,",
            "form w = 0 0 n, 0 0 n;", "part w { all y; all y"};
        for (String last : wrong) {
            Dance d = Dance.busy();
            d.hall.end(0);
            d.write("xyz");
            String before = d.state();
            d.hall.end(0);
            Dance.due("load of " + last, d.load(good + last) < 0, true);
            d.write("z");
            Dance.due("no form", d.hall.named(0), -1);
            d.write("y");
            Dance.due("no figure", d.hall.named(1), -1);
            d.write("x");
            Dance.due("no part", d.hall.named(2), -1);
            Dance.due("begin(1)", d.hall.begin(1), false);
            Dance.due("may(3)", d.hall.may(3), -1);
            d.write("xyz");
            d.dueGoesOn("a book at fault", before);
        }
        Dance d = Dance.ready();
        d.dueFault(good + "@", good.length(), 1);
        Dance.due("the same names may come", d.load(good.replace("0 0 1", "0 0 2")), 0);
        Dance.due("call", d.call("all y"), 0);
        d.dueDancer(0, 4, 0, 2, 2);
        Dance.due("form", d.named("z", 0), 5);
        Dance.due("figure", d.named("y", 1), 11);
        Dance.due("part", d.named("x", 2), 0);
    }
}
