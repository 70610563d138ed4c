/** TEXTS are TOKENS: each sentence that names a limit, at it and just beyond. */
public final class EdgeTokenTest {
    private static final String KEYWORDS = "form figure part allow on counts price do repeat until most if else for all larks "
        + "robins heads sides couple dancer facing in at or and not home count is forms n e s w any lark robin";

    public static void main(String[] args) {
        blanks();
        remarks();
        remarksAnyByte();
        remarkToTheEnd();
        firstByteOfAWord();
        laterBytesOfAWord();
        lettersOfAWord();
        eachLetterOfAWord();
        digitsOfANumber();
        minus();
        signs();
        asLongAsCanBe();
        noToken();
        keywords();
        sizesOfLetters();
        Dance.finish("EdgeTokenTest");
    }

    private static boolean isBlank(int c) {
        return c == 9 || c == 10 || c == 13 || c == 32;
    }

    private static boolean isLetter(int c) {
        return c >= 'A' && c <= 'Z' || c >= 'a' && c <= 'z';
    }

    private static boolean isDigit(int c) {
        return c >= '0' && c <= '9';
    }

    /** A book that is at fault at a place, by 1; NONE: it isn't. */
    private static void dueBook(String text, int place) {
        Dance d = Dance.empty();
        Dance.due("load of " + text, d.load(text), place < 0 ? 0 : -2 - place);
        Dance.due("fault of " + text, d.hall.fault(), place < 0 ? 0 : 1);
    }

    private static void blanks() {
        Dance.says("with any bytes 9, 10, 13, 32 and remarks (from # up to a byte 10 or the end) between them");
        for (int c = 0; c < 256; c++) {
            String text = "form" + (char) c + "q = 0 0 n;";
            int place = 4;
            if (isBlank(c)) {
                place = -1;
            } else if (isLetter(c) || isDigit(c) || c == '_') {
                place = 0;
            } else if (c == '#') {
                place = text.length();
            }
            dueBook(text, place);
        }
        dueBook("\t\n\r form\t\n\r q\t\n\r =\t\n\r 0\t\n\r 0\t\n\r n\t\n\r ;\t\n\r ", -1);
        dueBook("\t\n\r ", -1);
        dueBook(Dance.many("\n", 4096), -1);
    }

    private static void remarks() {
        Dance.says("remarks (from # up to a byte 10");
        dueBook("#\nform#\nq#\n=#\n0#\n0#\nn#\n;#\n", -1);
        dueBook("form # q = 5 ; { \n q = 0 0 n;", -1);
        dueBook("form ## # q\n q = 0 0 n;", -1);
        dueBook("form #\n#\n#\nq = 0 0 n;", -1);
        // a byte 13 ends none
        dueBook("form # q\r q = 0 0 n;", 20);
        dueBook("form # q\r\n q = 0 0 n;", -1);
        // the byte behind the 10 is none of the remark's
        dueBook("form q = 0 0 n;#\n@", 17);
        dueBook("form q = 0 0 n;#@\n", -1);
    }

    private static void remarksAnyByte() {
        Dance.says("remarks (from # up to a byte 10: any other byte may be in one");
        StringBuilder text = new StringBuilder("form #");
        for (int c = 0; c < 256; c++) {
            text.append(c == 10 ? "" : String.valueOf((char) c));
        }
        dueBook(text + "\nq = 0 0 n;", -1);
        dueBook(text + "q = 0 0 n;", text.length() + 10);
    }

    private static void remarkToTheEnd() {
        Dance.says("or the end)");
        dueBook("#", -1);
        dueBook("#\n#", -1);
        dueBook("form q = 0 0 n;#", -1);
        dueBook("form q = 0 0 n; # @ {", -1);
        dueBook("form q = 0 0 n # ;", 18);
        dueBook("form q = 0 0 n#", 15);
        dueBook("#" + Dance.many("@", 4095), -1);
        Dance d = Dance.ready();
        Dance.due("of a step", d.call("all right#"), 0);
        Dance.due("of a name", d.named("box#", 0), 2);
    }

    private static void firstByteOfAWord() {
        Dance.says("WORDS (a letter A .. Z, a .. z, then letters, digits, _");
        for (int c = 0; c < 256; c++) {
            String text = "form " + (char) c + "0 = 0 0 n;";
            // of a blank the 0 behind it is left, of another byte the byte itself can't stand there
            int place = 5;
            if (isLetter(c)) {
                place = -1;
            } else if (isBlank(c)) {
                place = 6;
            } else if (c == '#') {
                place = text.length();
            }
            dueBook(text, place);
        }
    }

    private static void laterBytesOfAWord() {
        Dance.says("then letters, digits, _");
        for (int c = 0; c < 256; c++) {
            String text = "form q" + (char) c + "r = 0 0 n;";
            int place = 6;
            if (isLetter(c) || isDigit(c) || c == '_') {
                place = -1;
            } else if (isBlank(c) || c == '=') {
                place = 7;
            } else if (c == '#') {
                place = text.length();
            }
            dueBook(text, place);
        }
        dueBook("form azAZ09_ = 0 0 n;", -1);
        dueBook("form a_ = 0 0 n; form a__ = 0 0 n; form a0 = 0 0 n;", -1);
    }

    private static void lettersOfAWord() {
        Dance.says("1 to 24 bytes; a WORD of more than 24 bytes .. is none");
        dueBook("form q = 0 0 n;", -1);
        dueBook("form " + Dance.many("q", 23) + " = 0 0 n;", -1);
        dueBook("form " + Dance.many("q", 24) + " = 0 0 n;", -1);
        dueBook("form " + Dance.many("q", 25) + " = 0 0 n;", 5);
        dueBook("form " + Dance.many("q", 26) + " = 0 0 n;", 5);
        dueBook("form q" + Dance.many("_", 23) + " = 0 0 n;", -1);
        dueBook("form q" + Dance.many("0", 24) + " = 0 0 n;", 5);
        dueBook("form " + Dance.many("q", 4091), 5);
        dueBook("form " + Dance.many("q", 24) + "= 0 0 n; form " + Dance.many("q", 23) + "r = 0 0 n;", -1);
        dueBook("form q = 0 0 " + Dance.many("n", 25) + ";", 13);
        Dance d = Dance.empty();
        d.load("form " + Dance.many("q", 24) + " = 0 0 n;");
        Dance.due("told again", d.load("form " + Dance.many("q", 24) + " = 0 0 n;"), -2 - 5);
        Dance.due("fault", d.hall.fault(), 3);
    }

    private static void eachLetterOfAWord() {
        Dance.says("1 to 24 bytes: each of them tells a NAME apart");
        String word = "abcdefghijklmnopqrstuvwx";
        Dance d = Dance.empty();
        Dance.due("load", d.load("form " + word + " = 0 0 n;"), 0);
        for (int i = 0; i < 24; i++) {
            Dance.due("another letter at " + i, d.named(word.substring(0, i) + "Z" + word.substring(i + 1), 0), -1);
            Dance.due("no fault", d.hall.fault(), 0);
            Dance.due("up to " + i, d.named(word.substring(0, i + 1), 0), i == 23 ? 0 : -1);
        }
        Dance.due("the same", d.named(word, 0), 0);
    }

    private static void digitsOfANumber() {
        Dance.says("NUMBERS (perhaps - , then 1 to 5 digits); a NUMBER of more than 5 digits .. is none");
        dueBook("form q = 4 4 n;", -1);
        dueBook("form q = 00032 -00032 n;", -1);
        dueBook("form q = 000032 0 n;", 9);
        dueBook("form q = -000032 0 n;", 9);
        dueBook("form q = 0 000000 n;", 11);
        dueBook("form q = 0 -000000 n;", 11);
        dueBook("form q = 0 " + Dance.many("0", 4085), 11);
        Dance d = Dance.empty();
        d.dueFault("form q = 99999 0 n;", 9, 4);
        d.dueFault("form q = -99999 0 n;", 9, 4);
        d.dueFault("form q = 99999999999999999999 0 n;", 9, 1);
        // beyond 2 to the 32, which would be 4 again
        d.dueFault("form q = 4294967300 0 n;", 9, 1);
        Dance.due("the same number, told otherwise", d.load("form q = 4 -4 n, 4 4 n, -0004 0 n; form r = -0 0 n;"), 0);
        d.dueFault("form t = 4 0 n, 00004 -00000 n;", 22, 7);
    }

    private static void minus() {
        Dance.says("a - without a digit .. is none");
        dueBook("form q = - 0 n;", 9);
        dueBook("form q = -n 0 n;", 9);
        dueBook("form q = --4 0 n;", 9);
        dueBook("form q = 0 -", 11);
        dueBook("form q = 0 -#\n4 n;", 11);
        dueBook("form q = -4-4n;", -1);
        dueBook("form q = 4 -4 n;", -1);
        dueBook("form q = +4 0 n;", 9);
    }

    private static void signs() {
        Dance.says("SIGNS { } ( ) , ; = &");
        Dance d = Dance.ready();
        Dance.due("each of them", d.load("part q{if(home){(all)right&not(all)right;}}form r=0 0 n,4 0 n;"), 0);
        // one that can't stand there is a token as well: named is at fault, and load at it
        String signs = "{}(),;=&";
        for (int i = 0; i < signs.length(); i++) {
            d.dueFault(" " + signs.charAt(i), 1, 1);
        }
        Dance.due("two of them are two tokens", d.load("part t{{}"), -2 - 7);
    }

    private static void asLongAsCanBe() {
        Dance.says("A token is as long as can be");
        dueBook("form q=0 0n;", -1);
        dueBook("form q=0 0any;", -1);
        dueBook("form q=0 0nlark;", 10);
        dueBook("form q=0 0n lark;", -1);
        dueBook("formq=0 0 n;", 0);
        dueBook("form q=00 n;", 10);
        dueBook("form q=0-0n;", -1);
        dueBook("form q=00012 n;", 13);
        Dance d = Dance.ready();
        Dance.due("a 0 behind a word is its own", d.call("couple0 right"), -2);
        Dance.due("parted", d.call("couple 0right"), 0);
        Dance.due("a word behind a word is its own", d.call("allright"), -2);
        Dance.due("parted by signs", d.call("(all)right&(not all)right"), 1);
        d.dueFault("part q { repeat2 { } }", 9, 1);
        Dance.due("parted", d.load("part q { repeat 2{ } }"), 0);
        d.dueFault("part r { repeat 12345 { } }", 16, 4);
        d.dueFault("part r { repeat 1 2345 { } }", 18, 1);
    }

    private static void noToken() {
        Dance.says("any other byte is none");
        for (int c = 0; c < 256; c++) {
            boolean known = isBlank(c) || isLetter(c) || isDigit(c) || c == '#' || "{}(),;=&".indexOf(c) >= 0;
            String text = "form q = 0 0 n; " + (char) c;
            if (!known) {
                dueBook(text, 16);
                // of a - and a 1 that is a NUMBER, which can't stand there
                dueBook(text + "1", 16);
            }
        }
        // what stands ahead of it is at fault ahead of it
        Dance d = Dance.empty();
        d.dueFault("form q = 0 33 n; @", 11, 4);
        d.dueFault("form q = 0 0 n, 0 0 n; @", 18, 7);
        d.dueFault("form q = 0 0 n @", 15, 1);
    }

    private static void keywords() {
        Dance.says("KEYWORDS are the words in small letters that are told here; NAMES are all other WORDS");
        String[] words = KEYWORDS.split(" ");
        Dance.due("keywords", words.length, 38);
        for (String word : words) {
            String big = word.substring(0, 1).toUpperCase() + word.substring(1);
            String last = word.substring(0, word.length() - 1) + word.substring(word.length() - 1).toUpperCase();
            dueBook("form " + word + " = 0 0 n;", 5);
            dueBook("form " + big + " = 0 0 n;", -1);
            dueBook("form " + last + " = 0 0 n;", -1);
            dueBook("form " + word + "_ = 0 0 n;", -1);
            dueBook("form " + word + "0 = 0 0 n;", -1);
            Dance d = Dance.empty();
            Dance.due("named " + word, d.named(word, 0), -1);
            Dance.due("fault", d.hall.fault(), 1);
            Dance.due("named " + big, d.named(big, 0), -1);
            Dance.due("fault", d.hall.fault(), 0);
        }
        // words that the document uses in other senses, and parts of keywords, are names
        String[] names = {"lark_", "larksrobins", "couples", "dancers", "i", "o", "a", "north", "up", "scope", "book", "fo",
            "figures", "allows", "price1", "untill", "word", "step", "who", "greedy", "counter", "informs"};
        for (String name : names) {
            dueBook("form " + name + " = 0 0 n;", -1);
        }
    }

    private static void sizesOfLetters() {
        Dance.says("letters' sizes told apart");
        Dance d = Dance.empty();
        Dance.due("four names", d.load("form ab = 0 0 n; form aB = 0 0 n; form Ab = 0 0 n; form AB = 0 0 n;"), 0);
        Dance.due("ab", d.named("ab", 0), 0);
        Dance.due("aB", d.named("aB", 0), 1);
        Dance.due("Ab", d.named("Ab", 0), 2);
        Dance.due("AB", d.named("AB", 0), 3);
        String almost = Dance.many("x", 23);
        Dance.due("in the last of 24", d.load("form " + almost + "y = 0 0 n; form " + almost + "Y = 0 0 n;"), 0);
        Dance.due("the small one", d.named(almost + "y", 0), 4);
        Dance.due("the big one", d.named(almost + "Y", 0), 5);
        Dance.due("a shorter one", d.named(almost, 0), -1);
        d.dueFault("FORM q = 0 0 n;", 0, 1);
        d.dueFault("form q = 0 0 N;", 13, 1);
    }
}
