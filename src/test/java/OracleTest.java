import java.util.ArrayList;
import java.util.List;
import java.util.Random;

/** Long runs of calls against a second program, written from the document in another way (fractions). */
public final class OracleTest {
    private static final Check CHECK = new Check("OracleTest");
    private static final int RUNS = 700;
    private static final int CALLS = 512; // as many as an object is used for
    private static final int TEXT_CALLS = 115;
    private static final String CLOCKS = "pledb";

    private final Random random;
    private final StrokeSeek seek = new StrokeSeek();
    private final Model model = new Model();
    private final String name;
    private int calls;

    private OracleTest(int run) {
        random = new Random(run);
        name = "run " + run + " ";
    }

    public static void main(String[] args) {
        for (int run = 0; run < RUNS; run++) {
            new OracleTest(run).run();
        }
        for (int v = 0; v < 3; v++) {
            CHECK.due("verdict " + v + " was met " + Model.MET[v], Model.MET[v] > 100 ? 1 : 0, 1);
        }
        CHECK.close();
    }

    private void run() {
        readText();
        while (calls < CALLS) {
            call();
        }
    }

    private int any(int bound) {
        return random.nextInt(bound);
    }

    /** Mostly a number below most, at times one just outside. */
    private int about(int most) {
        return any(25) == 0 ? (any(2) == 0 ? -1 : most) : any(Math.max(1, most));
    }

    private void due(String call, int got, int want) {
        calls++;
        CHECK.due(name + "call " + calls + " " + call, got, want);
    }

    private void readText() {
        String text = any(8) == 0 ? mangled(strokeText()) : strokeText();
        for (int i = 0; i < text.length(); i++) {
            due("type", seek.type(text.charAt(i)), model.type(text.charAt(i)));
        }
        due("field " + text, seek.field(), model.field());
        due("clear", seek.clear(), model.clear());
    }

    private String mangled(String text) {
        StringBuilder b = new StringBuilder(text);
        for (int i = any(3); i >= 0; i--) {
            int at = any(b.length());
            switch (any(3)) {
                case 0 -> b.deleteCharAt(at);
                case 1 -> b.setCharAt(at, "sh;0123456789pledbxA ".charAt(any(21)));
                default -> b.insert(at, "sh;0123456789pledbxA ".charAt(any(21)));
            }
        }
        return b.toString();
    }

    /** Stations at whole ways from a stroke, told mostly as they would hear it. */
    private String strokeText() {
        int x = any(30);
        int y = any(30);
        int t = any(45);
        int noise = any(3);
        List<int[]> stations = new ArrayList<>();
        int many = 2 + any(5);
        for (int i = 0; i < 400 && stations.size() < many; i++) {
            int[] s = {any(30), any(30), any(3) == 0 ? 1 + any(4) : 0};
            if (Model.root(Model.sq(s[0] - x) + Model.sq(s[1] - y)) >= 0 || any(60) == 0) {
                stations.add(s);
            }
        }
        StringBuilder b = new StringBuilder();
        for (int[] s : stations) {
            b.append('s').append(s[0]).append(' ').append(s[1]).append(CLOCKS.charAt(s[2])).append(';');
        }
        for (int i = 0; i < stations.size(); i++) {
            int[] s = stations.get(i);
            int way = Math.max(0, Model.root(Model.sq(s[0] - x) + Model.sq(s[1] - y)));
            int time = t + way + (any(6) < noise ? any(3) - 1 : 0);
            int told = Model.told(s[2], time);
            if (told >= 0 && told <= 60) {
                String item = "h" + i + " " + told + ";";
                if (b.length() + item.length() <= 110) {
                    b.append(item);
                }
            }
        }
        return b.toString();
    }

    private void call() {
        int g = about(model.groups().size());
        int what = about(8);
        int s = about(model.xs.size());
        switch (any(21)) {
            case 0, 1 -> {
                int told = any(4) == 0 ? about(61) : likelyTold(s);
                due("hears " + s + " " + told, seek.hears(s, told), model.hears(s, told));
            }
            case 2, 3 -> {
                int k = about(model.by.size());
                due("strikes " + k, seek.strikes(k), model.strikes(k));
            }
            case 4 -> {
                int clock = about(5);
                due("sets " + s + " " + clock, seek.sets(s, clock), model.sets(s, clock));
            }
            case 5, 6, 7 -> due("undo", seek.undo(), model.undo());
            case 8, 9, 10 -> due("group " + g + " " + what, seek.group(g, what), model.group(g, what));
            case 11, 12 -> due("place " + g + " " + what, seek.place(g, what), model.place(g, what));
            case 13 -> {
                int set = about(1 << model.by.size());
                due("verdict " + set, seek.verdict(set), model.verdict(set));
            }
            case 14 -> {
                int x = about(30);
                int y = about(30);
                int t = about(61);
                int which = about(2);
                due("due " + s + " " + x + " " + y, seek.due(s, x, y, t, which), model.due(s, x, y, t, which));
            }
            case 15 -> {
                int x = about(11);
                int which = about(2);
                due("odds " + g + " " + x + " " + which, seek.odds(g, x, which), model.odds(g, x, which));
            }
            case 16 -> {
                int image = about(2);
                if (any(2) == 0) {
                    due("keep " + image, seek.keep(image), model.keep(image));
                } else {
                    due("back " + image, seek.back(image), model.back(image));
                }
            }
            case 17 -> {
                int k = about(model.by.size());
                due("reading " + k + " " + what, seek.reading(k, what), model.reading(k, what));
            }
            case 18 -> due("count " + what, seek.count(what), model.count(what));
            case 19 -> due("station " + s + " " + what, seek.station(s, what), model.station(s, what));
            default -> {
                if (any(40) == 0 && calls + TEXT_CALLS <= CALLS) {
                    readText();
                }
            }
        }
    }

    /** As a stroke of the first group would be told, where there is one. */
    private int likelyTold(int s) {
        int first = model.group(0, 7);
        if (first < 0 || s < 0 || s >= model.xs.size()) {
            return any(61);
        }
        return Math.max(0, model.due(s, first / 10000, first / 100 % 100, first % 100, 1));
    }
}
