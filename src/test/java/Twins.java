import java.util.ArrayList;
import java.util.List;

/**
 * Two objects told the same, one of which is asked something more: no later call may tell them apart.
 * Each look takes a new pair, since some looks change what they look at, and no object is asked more than 512 times.
 */
final class Twins {
    interface Told {
        void to(StrokeSeek x);
    }

    interface Call {
        int on(StrokeSeek x);
    }

    private interface Look {
        void on(StrokeSeek x, List<Integer> seen);
    }

    private static final Look[] LOOKS = {
        Twins::fieldAndCounts, Twins::groups, Twins::odds, Twins::verdicts, Twins::undone,
        (x, seen) -> image(x, 0, seen), (x, seen) -> image(x, 1, seen), Twins::text, Twins::textGoneOnWith
    };
    private static final String[] NAMES = {
        "field and counts", "groups", "odds", "verdicts", "undone", "image 0", "image 1", "text", "text gone on with"
    };

    private Twins() {
    }

    /** The call answers what is wanted and changes nothing. */
    static void unchanged(Check check, String name, Told told, Call call, int want) {
        for (int i = 0; i < LOOKS.length; i++) {
            StrokeSeek left = new StrokeSeek();
            StrokeSeek right = new StrokeSeek();
            told.to(left);
            told.to(right);
            check.due(name, call.on(right), want);
            List<Integer> seenLeft = new ArrayList<>();
            List<Integer> seenRight = new ArrayList<>();
            LOOKS[i].on(left, seenLeft);
            LOOKS[i].on(right, seenRight);
            check.due(name + " leaves " + NAMES[i] + " " + seenLeft + seenRight, seenRight.equals(seenLeft) ? 1 : 0, 1);
        }
    }

    private static void fieldAndCounts(StrokeSeek x, List<Integer> seen) {
        for (int what = 0; what <= 5; what++) {
            seen.add(x.count(what));
        }
        for (int s = 0; s < 7; s++) {
            seen.add(x.station(s, 0));
            seen.add(x.station(s, 1));
        }
        heard(x, seen);
    }

    /** What an image keeps and an undo brings back. */
    private static void heard(StrokeSeek x, List<Integer> seen) {
        int stations = x.count(0);
        int readings = x.count(1);
        for (int s = 0; s < stations; s++) {
            seen.add(x.station(s, 2));
        }
        for (int k = 0; k <= readings; k++) {
            seen.add(x.reading(k, 0));
            seen.add(x.reading(k, 1));
        }
    }

    private static void groups(StrokeSeek x, List<Integer> seen) {
        int readings = x.count(1);
        int groups = x.count(2);
        for (int k = 0; k < readings; k++) {
            seen.add(x.reading(k, 2));
            seen.add(x.reading(k, 3));
        }
        for (int g = 0; g <= groups; g++) {
            for (int what = 0; what <= 7; what++) {
                seen.add(x.group(g, what));
            }
            for (int what = 0; what <= 5; what++) {
                seen.add(x.place(g, what));
            }
        }
    }

    private static void odds(StrokeSeek x, List<Integer> seen) {
        int groups = x.count(2);
        for (int g = 0; g <= groups; g++) {
            for (int tenths = 0; tenths <= 10; tenths++) {
                seen.add(x.odds(g, tenths, 0));
                seen.add(x.odds(g, tenths, 1));
            }
        }
    }

    private static void verdicts(StrokeSeek x, List<Integer> seen) {
        for (int set = 1; set < 130; set++) {
            seen.add(x.verdict(set));
        }
        seen.add(x.verdict(511));
    }

    private static void undone(StrokeSeek x, List<Integer> seen) {
        int left = 0;
        for (int i = 0; i < 11 && left >= 0; i++) {
            left = x.undo();
            seen.add(left);
            heard(x, seen);
        }
    }

    private static void image(StrokeSeek x, int image, List<Integer> seen) {
        seen.add(x.back(image));
        fieldAndCounts(x, seen);
    }

    private static void text(StrokeSeek x, List<Integer> seen) {
        seen.add(x.field());
        fieldAndCounts(x, seen);
        seen.add(x.clear());
    }

    /** Tells one letter that was there from another, where the text ends too early. */
    private static void textGoneOnWith(StrokeSeek x, List<Integer> seen) {
        seen.add(x.type(';'));
        text(x, seen);
    }
}
