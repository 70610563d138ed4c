import java.nio.file.Files;
import java.nio.file.Path;
import java.util.List;

/**
 * Long runs of calls whose answers were told by a second model of the document, written apart from this program.
 * Each line of the file is a call, its numbers, and behind = the answer.
 */
public final class RecordedRunsTest {
    public static void main(String[] args) throws Exception {
        List<String> lines = Files.readAllLines(Path.of(args[0], "runs.txt"));
        CallerHall hall = null;
        for (int i = 0; i < lines.size(); i++) {
            String[] words = lines.get(i).split(" ");
            if (words[0].equals("new")) {
                hall = new CallerHall();
                continue;
            }
            int[] v = new int[5];
            for (int k = 1; k < words.length - 2; k++) {
                v[k - 1] = Integer.parseInt(words[k]);
            }
            Dance.due("line " + (i + 1) + " " + lines.get(i), answer(hall, words[0], v),
                Long.parseLong(words[words.length - 1]));
        }
        Dance.finish("RecordedRunsTest");
    }

    private static long one(boolean answer) {
        return answer ? 1 : 0;
    }

    private static long answer(CallerHall h, String call, int[] v) {
        switch (call) {
            case "feed": return one(h.feed(v[0], v[1], v[2], v[3], v[4]));
            case "end": return one(h.end(v[0]));
            case "load": return h.load();
            case "call": return h.call();
            case "fault": return h.fault();
            case "named": return h.named(v[0]);
            case "set": return one(h.set(v[0], v[1]));
            case "mark": h.mark(); return 0;
            case "begin": return one(h.begin(v[0]));
            case "step": return h.step();
            case "back": return one(h.back(v[0]));
            case "failed": return h.failed(v[0]);
            case "may": return h.may(v[0]);
            case "resolve": return h.resolve(v[0]);
            case "rows": return h.rows();
            case "row": return one(h.row(v[0]));
            case "draw": return one(h.draw(v[0], v[1]));
            case "cheapest": return h.cheapest();
            case "found": return h.found(v[0]);
            case "follow": return h.follow();
            case "times": return h.times(v[0], v[1], v[2]);
            case "dancer": return h.dancer(v[0], v[1]);
            case "at": return h.at(v[0], v[1]);
            case "about": return h.about(v[0]);
            default: throw new IllegalArgumentException(call);
        }
    }
}
