/** Promises 2 feed, 3 end, 6 fault, 7 named, and the tape of 4 load, 5 call: each sentence that names a limit. */
public final class EdgeTapeTest {
    private static final int MOST = Integer.MAX_VALUE;
    private static final int LEAST = Integer.MIN_VALUE;

    public static void main(String[] args) {
        highestByteFirst();
        behindTheTapes();
        moreThan4096();
        refusedFeed();
        firstBytesAlone();
        notSoMany();
        refusedEnd();
        emptyBehindReading();
        placeOfTheFirstFault();
        noFault();
        latestFault();
        numberOfAName();
        noneSuchOfThatSort();
        anotherSort();
        allButAName();
        Dance.finish("EdgeTapeTest");
    }

    private static void highestByteFirst() {
        Dance.says("Twenty bytes, of each number the highest first, come behind the tape's: true");
        Counted h = new Counted();
        // "form q=0 0 n;" and a remark with the bytes 0, 127, 128, 255 in it
        Dance.due("feed", h.feed(0x666F726D, 0x20713D30, 0x2030206E, 0x3B23007F, 0x80FF20FF), true);
        Dance.due("twenty bytes", h.about(12), 20);
        Dance.due("load", h.load(), 0);
        Dance.due("a form", h.about(6), 1);
        int[] shifts = {24, 16, 8, 0};
        for (int shift : shifts) {
            Counted g = new Counted();
            Dance.due("feed", g.feed(0x20202020, 0x20202020 & ~(0xFF << shift), 0x20202020, 0x20202020, 0x20202020), true);
            Dance.due("the place of the byte 0", g.load(), -2 - (7 - shift / 8));
            g.feed(0x20202020, 0x20202020, 0x20202020, 0x20202020, 0x20202020 | 0xFF << shift);
            Dance.due("the place of the byte 255", g.load(), -2 - (19 - shift / 8));
        }
        Dance.due("all bits", h.feed(-1, -1, -1, -1, -1), true);
        Dance.due("no token", h.load(), -2);
    }

    private static void behindTheTapes() {
        Dance.says("come behind the tape's");
        Dance d = Dance.empty();
        d.write("form ");
        d.write("q = 0");
        d.write(" 0 n;");
        Dance.due("bytes", d.hall.about(12), 15);
        Dance.due("load", d.hall.load(), 0);
        d.write("q");
        d.write("q");
        Dance.due("one word", d.hall.named(0), -1);
        d.write("q");
        Dance.due("the form", d.hall.named(0), 0);
    }

    /** A hall with so many bytes on its tape, all of them blanks. */
    private static Counted blanks(int bytes) {
        Counted h = new Counted();
        for (int i = 0; i < bytes; i += 20) {
            Dance.due("feed", h.feed(0x20202020, 0x20202020, 0x20202020, 0x20202020, 0x20202020), i + 20 <= 4096);
        }
        if (bytes > 4080) {
            h.end(4076);
            Dance.due("feed", h.feed(0x20202020, 0x20202020, 0x20202020, 0x20202020, 0x20202020), true);
        }
        Dance.due("end", h.end(bytes), true);
        return h;
    }

    private static void moreThan4096() {
        Dance.says("false, and none comes, if it would have more than 4096");
        int[] full = {4077, 4078, 4080, 4095, 4096};
        for (int bytes : full) {
            Counted h = blanks(bytes);
            Dance.due("feed behind " + bytes, h.feed(0x40404040, 0x40404040, 0x40404040, 0x40404040, 0x40404040), false);
            Dance.due("bytes", h.about(12), bytes);
            Dance.due("again", h.feed(0, 0, 0, 0, 0), false);
            Dance.due("bytes", h.about(12), bytes);
            Dance.due("blanks alone", h.load(), 0);
            Dance.due("feed behind none", h.feed(0x20202020, 0, 0, 0, 0), true);
            Dance.due("bytes", h.about(12), 20);
        }
        Counted h = blanks(4076);
        Dance.due("feed behind 4076", h.feed(0x20202020, 0x20202020, 0x20202020, 0x20202020, 0x20202040), true);
        Dance.due("bytes", h.about(12), 4096);
        Dance.due("the last byte of all", h.load(), -2 - 4095);
        Dance.due("fault", h.fault(), 1);
    }

    private static void refusedFeed() {
        Dance.says("false, and none comes");
        Dance d = Dance.ready();
        Dance.due("call", d.call("all right"), 0);
        d.write(Dance.many(" ", 4077));
        String before = d.state();
        Dance.due("feed", d.hall.feed(-1, -1, -1, -1, -1), false);
        Dance.due("feed changes nothing", d.state(), before);
    }

    private static void firstBytesAlone() {
        Dance.says("The tape has its first n bytes alone: true");
        Dance d = Dance.empty();
        d.write("form q = 0 0 n; @@@@");
        Dance.due("all of them", d.hall.end(20), true);
        Dance.due("bytes", d.hall.about(12), 20);
        Dance.due("the first 15", d.hall.end(15), true);
        Dance.due("bytes", d.hall.about(12), 15);
        Dance.due("what is gone is gone", d.hall.end(16), false);
        Dance.due("load", d.hall.load(), 0);
        d.write("form qq = 0 0 n;");
        Dance.due("none", d.hall.end(0), true);
        Dance.due("bytes", d.hall.about(12), 0);
        Dance.due("none again", d.hall.end(0), true);
        Dance.due("an empty book", d.hall.load(), 0);
        Dance.due("forms", d.hall.about(6), 1);
        d.write("qq");
        Dance.due("the first one", d.hall.end(1), true);
        Dance.due("the form", d.hall.named(0), 0);
    }

    private static void notSoMany() {
        Dance.says("false if it has not so many, or n is below 0");
        Dance d = Dance.empty();
        Dance.due("end(1) of none", d.hall.end(1), false);
        Dance.due("end(-1) of none", d.hall.end(-1), false);
        Dance.due("end(0) of none", d.hall.end(0), true);
        d.write("form q = 0 0 n;");
        int[] none = {16, 20, 4096, 4097, MOST, -1, -15, LEAST};
        for (int n : none) {
            Dance.due("end(" + n + ")", d.hall.end(n), false);
            Dance.due("bytes", d.hall.about(12), 15);
        }
        Dance.due("end(15)", d.hall.end(15), true);
        Dance.due("load", d.hall.load(), 0);
        Counted h = blanks(4096);
        Dance.due("end(4097)", h.end(4097), false);
        Dance.due("end(4096)", h.end(4096), true);
        Dance.due("bytes", h.about(12), 4096);
    }

    private static void refusedEnd() {
        Dance.says("false if it has not so many, or n is below 0");
        int[] none = {-1, 4, LEAST, MOST};
        for (int n : none) {
            Dance d = Dance.busy();
            String before = d.state();
            Dance.due("end(" + n + ")", d.hall.end(n), false);
            d.dueGoesOn("end(" + n + ")", before);
        }
    }

    private static void emptyBehindReading() {
        Dance.says("The tape (empty then) is read");
        Dance d = Dance.ready();
        Dance.due("behind a load", d.hall.about(12), 0);
        Dance.due("a load at fault", d.load("form q"), -2 - 6);
        Dance.due("behind it", d.hall.about(12), 0);
        Dance.due("a call", d.call("all right"), 0);
        Dance.due("behind it", d.hall.about(12), 0);
        Dance.due("a call that fails", d.call("all pass"), 3);
        Dance.due("behind it", d.hall.about(12), 0);
        Dance.due("a call at fault", d.call("all"), -2 - 3);
        Dance.due("behind it", d.hall.about(12), 0);
        Dance.due("a name", d.named("box", 0), 2);
        Dance.due("behind it", d.hall.about(12), 0);
        Dance.due("a name of no sort", d.named("box", 3), -1);
        Dance.due("behind it", d.hall.about(12), 0);
        Dance.due("no name", d.named("all", 0), -1);
        Dance.due("behind it", d.hall.about(12), 0);
        Dance.due("the next text is read alone", d.call("all left"), 0);
    }

    private static void placeOfTheFirstFault() {
        Dance.says("0; -2 - the place of the first fault");
        Dance d = Dance.ready();
        Dance.due("an empty book", d.load(""), 0);
        Dance.due("at the first byte", d.load("all"), -2);
        Dance.due("at the second", d.load(" all"), -3);
        Dance.due("an empty step", d.call(""), -2);
        Dance.due("a step at its first byte", d.call("form"), -2);
        Counted h = blanks(4096);
        Dance.due("4096 blanks are a book", h.load(), 0);
        h = blanks(4096);
        Dance.due("and no step: behind the last of them", h.call(), -2 - 4096);
        Dance.due("fault", h.fault(), 1);
        h = blanks(4095);
        Dance.due("4095", h.call(), -2 - 4095);
        Dance.due("a book of 4096 bytes", Dance.empty().load("#" + Dance.many("x", 4080) + "\nform q=0 0 n;\n"), 0);
        Dance.due("without its ;", Dance.empty().load("#" + Dance.many("x", 4081) + "\nform q=0 0 n\n"), -2 - 4096);
        Dance.due("the first of two", d.load("form 5 = 0 0 n; form 6 = 0 0 n;"), -2 - 5);
    }

    private static void noFault() {
        Dance.says("0 if it wasn't, or there was none");
        Dance d = Dance.ready();
        Dance.due("a new hall", Dance.empty().hall.fault(), 0);
        Dance.due("behind a load", d.hall.fault(), 0);
        String[] steps = {"all right", "dancer 9 right", "all hold & all hold", "all pass", "dancer 0 meet"};
        int[] answers = {0, 1, 2, 3, 5};
        for (int i = 0; i < steps.length; i++) {
            Dance.due("a fault ahead", d.load("@"), -2);
            Dance.due("fault", d.hall.fault(), 1);
            Dance.due(steps[i], d.call(steps[i]), answers[i]);
            Dance.due("a step that fails is no fault", d.hall.fault(), 0);
        }
        Dance.due("a fault ahead", d.call("@"), -2);
        Dance.due("a load", d.load(""), 0);
        Dance.due("fault", d.hall.fault(), 0);
        Dance.due("a fault ahead", d.call("@"), -2);
        Dance.due("a name that nobody has", d.named("nobody", 0), -1);
        Dance.due("fault", d.hall.fault(), 0);
    }

    private static void latestFault() {
        Dance.says("How the latest load, call or named was at fault, 1 .. 7 as told");
        Dance d = Dance.with("part p { all hold; } allow all right;");
        String[] books = {"form 5", "part q { do r; }", "form box = 0 0 n;", "form q = 33 0 n;",
            "allow all hold & all hold & all hold & all hold & all hold;", "figure q on duo counts 1 price 1 = 0 0 0;",
            "form q = 0 0 n, 0 0 n;"};
        for (int i = 0; i < books.length; i++) {
            Dance.due(books[i], d.load(books[i]) < 0, true);
            Dance.due("fault of " + books[i], d.hall.fault(), i + 1);
        }
        // no other call has faults, or takes one away
        d.write(" ");
        d.hall.end(0);
        d.hall.set(0, 4);
        d.hall.mark();
        d.hall.begin(0);
        d.hall.step();
        d.hall.back(1);
        d.hall.may(0);
        d.hall.resolve(2);
        d.hall.row(0);
        d.hall.draw(0, 0);
        d.hall.cheapest();
        d.hall.follow();
        d.hall.times(0, 0, 4);
        Dance.due("fault", d.hall.fault(), 7);
        Dance.due("of a call", d.call("dancer 64 hold"), -9);
        Dance.due("fault", d.hall.fault(), 4);
        Dance.due("of named", d.named("5", 0), -1);
        Dance.due("fault", d.hall.fault(), 1);
    }

    private static void numberOfAName() {
        Dance.says("the number of that form (sort 0), figure (1), part (2), as they were told, from 0 on");
        Dance d = Dance.with("part p0 { } part p1 { }");
        String[][] names = {{"any1", "face", "box", "pair", "duo"},
            {"turn", "right", "pass", "circle", "star", "trade", "forward", "cross", "hold", "meet", "left"}, {"p0", "p1"}};
        for (int sort = 0; sort < 3; sort++) {
            for (int i = 0; i < names[sort].length; i++) {
                Dance.due("named " + names[sort][i], d.named(names[sort][i], sort), i);
            }
        }
        Dance.due("a later book", d.load("form last = 0 0 n; part p2 { } figure end on last counts 0 price 0 = 0 0 0;"), 0);
        Dance.due("the next form", d.named("last", 0), 5);
        Dance.due("the next figure", d.named("end", 1), 11);
        Dance.due("the next part", d.named("p2", 2), 2);
        Dance.due("among blanks and remarks", d.named(" \t\r\n#box\n p2 #box", 2), 2);
        Dance.due("fault", d.hall.fault(), 0);
    }

    private static void noneSuchOfThatSort() {
        Dance.says("NONE if there is none such of that sort (that is no fault)");
        Dance d = Dance.with("part p { }");
        String[] names = {"box", "turn", "p", "nobody", "Box", "bo", "boxx"};
        int[][] due = {{2, -1, -1}, {-1, 0, -1}, {-1, -1, 0}, {-1, -1, -1}, {-1, -1, -1}, {-1, -1, -1}, {-1, -1, -1}};
        for (int i = 0; i < names.length; i++) {
            for (int sort = 0; sort < 3; sort++) {
                Dance.due("named " + names[i] + " of sort " + sort, d.named(names[i], sort), due[i][sort]);
                Dance.due("fault", d.hall.fault(), 0);
            }
        }
    }

    private static void anotherSort() {
        Dance.says("NONE .. for another sort");
        Dance d = Dance.with("part p { }");
        int[] sorts = {-1, 3, 4, LEAST, MOST};
        String[] names = {"any1", "turn", "p", "nobody"};
        for (int sort : sorts) {
            for (String name : names) {
                Dance.due("named " + name + " of sort " + sort, d.named(name, sort), -1);
                Dance.due("fault", d.hall.fault(), 0);
            }
        }
    }

    private static void allButAName() {
        Dance.says("at fault (1 for all but a NAME alone, whatever the sort)");
        String[] texts = {"", " ", "# box", "box box", "box ,", "all", "n", "5", "-", ";", "box;", "box 5", "box @", "@", "_box",
            "5box", "aaaaaaaaaaaaaaaaaaaaaaaaa", "box aaaaaaaaaaaaaaaaaaaaaaaaa", "part p { }"};
        int[] sorts = {-1, 0, 1, 2, 3};
        for (String text : texts) {
            Dance d = Dance.ready();
            for (int sort : sorts) {
                Dance.due("named " + text + " of sort " + sort, d.named(text, sort), -1);
                Dance.due("fault", d.hall.fault(), 1);
                Dance.due("a name alone", d.named("box", 0), 2);
                Dance.due("fault", d.hall.fault(), 0);
            }
        }
        Dance d = Dance.with("form aaaaaaaaaaaaaaaaaaaaaaaa = 0 0 n;");
        Dance.due("the longest name", d.named("aaaaaaaaaaaaaaaaaaaaaaaa", 0), 5);
        Dance.due("fault", d.hall.fault(), 0);
        Dance.due("one byte more", d.named("aaaaaaaaaaaaaaaaaaaaaaaaa", 0), -1);
        Dance.due("fault", d.hall.fault(), 1);
    }
}
