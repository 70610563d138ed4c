import java.util.Random;

/** No call may throw or fail to end, whatever it is called with: calls by lot, always the same ones. */
public final class AnyCallsTest {
    private static final String[] WORDS = ("form figure part allow on counts price do repeat until most if else for all "
        + "larks robins heads sides couple dancer facing in at or and not home count is forms n e s w any lark robin "
        + "{ } ( ) , ; = & 0 1 4 8 64 65 -4 -33 123456 - @ # _ a b box duo pass turn right circle hold p q "
        + "aaaaaaaaaaaaaaaaaaaaaaaaaaaaaaa").split(" ");
    private static final String[] GOOD = {"all right", "all circle", "all cross", "in duo cross & not in duo hold",
        "larks turn & robins right", "dancer 3 meet", "at box 0 right", "part %{all right;all circle;}",
        "part %{repeat 9{if forms box all{all circle;}else{in duo cross;}}}", "allow all circle;", "allow larks right;",
        "part %{until home most 9{for facing n{all right;}}}", "form %=0 0 any,4 4 n;", "allow in duo cross;"};

    public static void main(String[] args) {
        Random lot = new Random(20261116);
        int calls = 0;
        for (int run = 0; run < 300; run++) {
            Dance d = run % 3 == 0 ? Dance.empty() : Dance.ready();
            for (int i = 0; i < 120; i++) {
                oneCall(d, lot, i);
                calls++;
            }
            dueSound(d.hall);
        }
        Dance.due("calls", calls, 36000);
        Dance.finish("AnyCallsTest");
    }

    private static int any(Random lot) {
        switch (lot.nextInt(8)) {
            case 0:
                return lot.nextInt();
            case 1:
                return Integer.MAX_VALUE;
            case 2:
                return Integer.MIN_VALUE;
            case 3:
                return lot.nextInt(70) - 3;
            default:
                return lot.nextInt(9) - 1;
        }
    }

    private static String text(Random lot, int id) {
        if (lot.nextBoolean()) {
            return GOOD[lot.nextInt(GOOD.length)].replace("%", "x" + id);
        }
        StringBuilder text = new StringBuilder();
        int words = lot.nextInt(12);
        for (int i = 0; i < words; i++) {
            text.append(WORDS[lot.nextInt(WORDS.length)]).append(' ');
        }
        return text.toString();
    }

    private static void oneCall(Dance d, Random lot, int id) {
        Counted h = d.hall;
        switch (lot.nextInt(26)) {
            case 0 -> h.feed(lot.nextInt(), lot.nextInt(), lot.nextInt(), lot.nextInt(), lot.nextInt());
            case 1 -> h.end(any(lot));
            case 2, 3 -> { h.end(0); d.load(text(lot, id)); }
            case 4, 5, 6 -> { h.end(0); d.call(text(lot, id)); }
            case 7 -> h.fault();
            case 8 -> h.named(any(lot));
            case 9 -> h.set(any(lot), any(lot));
            case 10 -> h.mark();
            case 11 -> h.begin(any(lot));
            case 12, 13 -> h.step();
            case 14 -> h.back(any(lot));
            case 15 -> h.failed(any(lot));
            case 16 -> h.may(any(lot));
            case 17 -> h.resolve(any(lot));
            case 18 -> h.row(any(lot));
            case 19 -> h.draw(any(lot), any(lot));
            case 20 -> h.cheapest();
            case 21 -> h.found(any(lot));
            case 22 -> h.follow();
            case 23 -> h.times(any(lot), any(lot), any(lot));
            case 24 -> { h.dancer(any(lot), any(lot)); h.at(any(lot), any(lot)); }
            default -> h.about(any(lot));
        }
    }

    /** The floor is squared, nobody shares a place, and everybody is found where it is. */
    private static void dueSound(Counted h) {
        int n = h.about(0);
        boolean[][] used = new boolean[2][256];
        for (int d = 0; d < n; d++) {
            int x = h.dancer(d, 0);
            int y = h.dancer(d, 1);
            Dance.due("who is at the place of " + d, h.at(x, y), d);
            used[0][x] = true;
            used[1][y] = true;
        }
        for (boolean[] axis : used) {
            for (int i = 0; i < 256; i++) {
                Dance.due("no gap", axis[i] && (i % 4 != 0 || i > 0 && !axis[i - 4]), false);
            }
        }
    }
}
