/**
 * "Refused, and nothing changes, the first of these: BAD (a number is not as told, or there is no such thing),
 * STATE (as told), FULL.", "NO: What is BAD, or none, where a number may be below 0.", and that asking changes nothing.
 */
public final class RefusedTest {
    private static final Check CHECK = new Check("RefusedTest");
    private static final int BAD = StrokeSeek.BAD;
    private static final int STATE = StrokeSeek.STATE;
    private static final int FULL = StrokeSeek.FULL;
    private static final int NO = StrokeSeek.NO;
    private static final int LEAST = Integer.MIN_VALUE;
    private static final int MOST = Integer.MAX_VALUE;
    private static final String FOUR = "s10 10p;s16 18l;s10 3e;s1 10d;h0 5;h1 18;h2 9;h3 28;";
    /** Of 110 letters, and no fault in it. */
    private static final String LONG = "s29 29p;h0 1;h0 2;h0 3;h0 4;h0 5;h0 6;h0 7;" + " ".repeat(62) + "h0 8;";

    public static void main(String[] args) {
        toldAsSaid();
        badOfNew();
        badOfSome();
        badAheadOfStateAndFull();
        stateOfUndo();
        stateOfSets();
        stateOfBack();
        fullOfType();
        fullOfHears();
        faultChangesNothing();
        noOfReading();
        noOfPlace();
        askingChangesNothing();
        CHECK.close();
    }

    private static void refused(String name, Twins.Told told, Twins.Call call, int want) {
        Twins.unchanged(CHECK, name, told, call, want);
    }

    /** Nothing at all. */
    private static void fresh(StrokeSeek x) {
    }

    /** Four stations, a sure group and an open one, one image, four changes known, a text that ends too early. */
    private static void some(StrokeSeek x) {
        Check.tell(x, FOUR);
        x.field();
        x.hears(1, 60);
        x.keep(0);
        x.hears(2, 59);
        x.sets(3, 4);
        x.sets(3, 3);
        x.strikes(5);
        x.undo();
        Check.tell(x, "s9 9p;h0 5");
    }

    /** Nine readings, ten changes known and one lost, both images, a text of 110 letters. */
    private static void brim(StrokeSeek x) {
        Check.tell(x, FOUR);
        x.field();
        x.hears(0, 60);
        x.keep(0);
        for (int i = 1; i <= 6; i++) {
            x.sets(0, i % 5);
        }
        for (int k = 5; k < 9; k++) {
            x.hears(k % 4, 4 * k);
        }
        x.keep(1);
        x.sets(2, 0);
        Check.tell(x, LONG);
    }

    private static void toldAsSaid() {
        countsDue("new", RefusedTest::fresh, 0, 0, 0, 0, 0, 0);
        countsDue("some", RefusedTest::some, 4, 6, 2, 1, 10, 4);
        countsDue("brim", RefusedTest::brim, 4, 9, 5, 0, 110, 10);
    }

    private static void countsDue(String name, Twins.Told told, int... want) {
        StrokeSeek x = new StrokeSeek();
        told.to(x);
        for (int what = 0; what <= 5; what++) {
            CHECK.due("count " + what + " of " + name, x.count(what), want[what]);
        }
    }

    private static void badOfNew() {
        badStations(RefusedTest::fresh, 0);
        badReadings(RefusedTest::fresh, 0);
        badGroups(RefusedTest::fresh, 0);
        badOthers(RefusedTest::fresh);
    }

    private static void badOfSome() {
        badStations(RefusedTest::some, 4);
        badReadings(RefusedTest::some, 6);
        badGroups(RefusedTest::some, 2);
        badOthers(RefusedTest::some);
    }

    // type, hears: BAD ahead of FULL; sets, back: BAD ahead of STATE

    private static void badAheadOfStateAndFull() {
        badStations(RefusedTest::brim, 4);
        badReadings(RefusedTest::brim, 9);
        badGroups(RefusedTest::brim, 5);
        badOthers(RefusedTest::brim);
    }

    /** There are just so many stations, so that number is the first that is wrong. */
    private static void badStations(Twins.Told told, int stations) {
        for (int s : new int[] {-1, stations, 6, 7, 32, 256, 65536, LEAST, LEAST + 1, MOST}) {
            refused("station " + s, told, x -> x.station(s, 0), BAD);
            refused("station " + s + " of a wrong what", told, x -> x.station(s, 3), BAD);
            refused("hears of " + s, told, x -> x.hears(s, 0), BAD);
            refused("hears of " + s + " and 61", told, x -> x.hears(s, 61), BAD);
            refused("sets of " + s, told, x -> x.sets(s, 0), BAD);
            refused("sets of " + s + " and 5", told, x -> x.sets(s, 5), BAD);
            refused("due of " + s, told, x -> x.due(s, 0, 0, 0, 0), BAD);
        }
        for (int wrong : new int[] {-1, 3, LEAST, MOST}) {
            refused("station what " + wrong, told, x -> x.station(0, wrong), BAD);
        }
        for (int wrong : new int[] {-1, 61, 256, LEAST, MOST}) {
            refused("hears " + wrong, told, x -> x.hears(0, wrong), BAD);
            refused("due t " + wrong, told, x -> x.due(0, 0, 0, wrong, 0), BAD);
        }
        for (int wrong : new int[] {-1, 5, 6, LEAST, MOST}) {
            refused("sets clock " + wrong, told, x -> x.sets(0, wrong), BAD);
        }
        for (int wrong : new int[] {-1, 30, LEAST, MOST}) {
            refused("due x " + wrong, told, x -> x.due(0, wrong, 0, 0, 0), BAD);
            refused("due y " + wrong, told, x -> x.due(0, 0, wrong, 0, 0), BAD);
        }
        for (int wrong : new int[] {-1, 2, LEAST, MOST}) {
            refused("due what " + wrong, told, x -> x.due(0, 0, 0, 0, wrong), BAD);
            refused("due what " + wrong + ", no whole way", told, x -> x.due(0, 9, 9, 0, wrong), BAD);
        }
    }

    private static void badReadings(Twins.Told told, int readings) {
        for (int k : new int[] {-1, readings, 9, 10, 32, 256, LEAST, LEAST + 1, MOST}) {
            refused("strikes " + k, told, x -> x.strikes(k), BAD);
            refused("reading " + k, told, x -> x.reading(k, 0), NO);
            refused("group of reading " + k, told, x -> x.reading(k, 3), NO);
        }
        for (int wrong : new int[] {-1, 4, LEAST, MOST}) {
            refused("reading what " + wrong, told, x -> x.reading(0, wrong), NO);
        }
        int next = 1 << readings;
        int[] sets = {0, -1, next, next + 1, 2 * next - 1, 512, 1024, 1 << 30, -512, LEAST, LEAST + 1, MOST};
        for (int set : sets) {
            refused("verdict " + set, told, x -> x.verdict(set), BAD);
        }
    }

    private static void badGroups(Twins.Told told, int groups) {
        for (int g : new int[] {-1, groups, 9, 32, LEAST, MOST}) {
            for (int what = 0; what <= 7; what++) {
                int which = what;
                refused("group " + g + " " + what, told, x -> x.group(g, which), BAD);
                refused("place " + g + " " + what, told, x -> x.place(g, which), NO);
            }
            refused("odds " + g, told, x -> x.odds(g, 0, 0), BAD);
        }
        for (int wrong : new int[] {-1, 8, LEAST, MOST}) {
            refused("group what " + wrong, told, x -> x.group(0, wrong), BAD);
        }
        for (int wrong : new int[] {-1, 6, LEAST, MOST}) {
            refused("place what " + wrong, told, x -> x.place(0, wrong), NO);
        }
        for (int wrong : new int[] {-1, 11, LEAST, MOST}) {
            refused("odds by " + wrong, told, x -> x.odds(0, wrong, 0), BAD);
        }
        for (int wrong : new int[] {-1, 2, LEAST, MOST}) {
            refused("odds what " + wrong, told, x -> x.odds(0, 0, wrong), BAD);
        }
    }

    private static void badOthers(Twins.Told told) {
        for (int wrong : new int[] {-1, 256, 257, 371, LEAST, MOST}) {
            refused("type " + wrong, told, x -> x.type(wrong), BAD);
        }
        for (int wrong : new int[] {-1, 2, LEAST, MOST}) {
            refused("keep " + wrong, told, x -> x.keep(wrong), BAD);
            refused("back " + wrong, told, x -> x.back(wrong), BAD);
        }
        for (int wrong : new int[] {-1, 6, LEAST, MOST}) {
            refused("count " + wrong, told, x -> x.count(wrong), BAD);
        }
    }

    // undo: "STATE: none."

    private static void stateOfUndo() {
        refused("undo of new", RefusedTest::fresh, x -> x.undo(), STATE);
        Twins.Told undone = x -> {
            some(x);
            for (int i = 0; i < 4; i++) {
                x.undo();
            }
        };
        refused("undo of all undone", undone, x -> x.undo(), STATE);
        Twins.Told back = x -> {
            brim(x);
            x.back(0);
        };
        refused("undo behind back", back, x -> x.undo(), STATE);
        Twins.Told anew = x -> {
            brim(x);
            x.field();
        };
        refused("undo behind field", anew, x -> x.undo(), STATE);
    }

    // sets: "STATE: it is that."

    private static void stateOfSets() {
        for (int s = 0; s < 4; s++) {
            int station = s;
            refused("sets as it is " + s, RefusedTest::some, x -> x.sets(station, station), STATE);
        }
        refused("sets as it is at the brim", RefusedTest::brim, x -> x.sets(0, 1), STATE);
        refused("sets as it is at the brim", RefusedTest::brim, x -> x.sets(2, 0), STATE);
    }

    // back: "STATE: none was kept."

    private static void stateOfBack() {
        for (int i = 0; i < 2; i++) {
            int image = i;
            refused("back of new " + i, RefusedTest::fresh, x -> x.back(image), STATE);
            Twins.Told anew = x -> {
                brim(x);
                x.field();
                x.hears(0, 7);
                x.type('s');
            };
            refused("back of read anew " + i, anew, x -> x.back(image), STATE);
        }
        refused("back of the other", RefusedTest::some, x -> x.back(1), STATE);
    }

    private static void fullOfType() {
        for (int letter : new int[] {0, ' ', ';', 's', 255}) {
            refused("type when full " + letter, RefusedTest::brim, x -> x.type(letter), FULL);
        }
    }

    private static void fullOfHears() {
        for (int told : new int[] {0, 60}) {
            refused("hears when full " + told, RefusedTest::brim, x -> x.hears(3, told), FULL);
        }
    }

    // field: "-10 less FAULT: nothing changes."

    private static void faultChangesNothing() {
        // ends too early, behind a station and half a reading that would be new
        refused("a text that ends too early", RefusedTest::some, x -> x.field(), -10 - 10);
        String[] texts = {"x", "s1 1p;s2 2p;h1 9;x", "s1 1p;h0 61;", "s1 1p;h1 0;", "s1 1p;h0 0", "s1 1p;h0 0;;",
            "s1 1p;s1 1p;s1 1p;s1 1p;s1 1p;s1 1p;s1 1p;", "s1 1p;h0 1;h0 1;h0 1;h0 1;h0 1;h0 1;h0 1;h0 1;h0 1;h0 1;"};
        int[] faults = {0, 17, 9, 7, 10, 11, 36, 51};
        for (int i = 0; i < texts.length; i++) {
            String text = texts[i];
            Twins.Told told = x -> {
                some(x);
                x.clear();
                Check.tell(x, text);
            };
            refused("field of " + text, told, x -> x.field(), -10 - faults[i]);
        }
    }

    // reading: "NO: BAD." — a TIME of -1 or -3 is no refusal

    private static void noOfReading() {
        StrokeSeek x = Check.read("s1 1l;h0 2;h0 0;");
        CHECK.due("a time of -1", x.reading(0, 2), -1);
        CHECK.due("a time of -3", x.reading(1, 2), -3);
        for (int what = 0; what <= 3; what++) {
            CHECK.due("no reading 2, " + what, x.reading(2, what), NO);
            CHECK.due("no reading -1, " + what, x.reading(-1, what), NO);
        }
    }

    // place: "NO: BAD, it is not SURE."

    private static void noOfPlace() {
        for (int i = 0; i < 6; i++) {
            int what = i;
            // group 1 is of the two at 57 and 62
            refused("place of an open group " + what, RefusedTest::some, x -> x.place(1, what), NO);
        }
        // a place at -1 is no refusal: a stroke at -1, 0 heard 4, 5, 10 and 13 away
        StrokeSeek x = Check.read("s3 0p;s3 3p;s5 8p;s11 5p;h0 6;h1 7;h2 12;h3 15;");
        CHECK.due("x is -1", x.place(0, 0), -1);
        CHECK.due("its lower number", x.place(0, 1), 1);
        CHECK.due("t is 2", x.place(0, 4), 2);
    }

    // "(As things are NOW; nothing is changed.)", and the calls that only tell

    private static void askingChangesNothing() {
        asked("station", x -> x.station(3, 2));
        asked("reading", x -> x.reading(4, 3));
        asked("time", x -> x.reading(4, 2));
        for (int i = 0; i <= 7; i++) {
            int what = i;
            asked("group 0 " + i, x -> x.group(0, what));
            asked("group 1 " + i, x -> x.group(1, what));
        }
        for (int i = 0; i <= 5; i++) {
            int what = i;
            asked("place " + i, x -> x.place(0, what));
            asked("count " + i, x -> x.count(what));
        }
        asked("verdict", x -> x.verdict(15));
        asked("verdict of all", x -> x.verdict(63));
        asked("due", x -> x.due(0, 10, 13, 5, 1));
        asked("odds", x -> x.odds(0, 3, 0));
        asked("odds, lower", x -> x.odds(1, 3, 1));
        refused("clear of an empty text", x -> {
            some(x);
            x.clear();
        }, x -> x.clear(), 0);
        refused("keep over the same", x -> {
            some(x);
            x.keep(0);
        }, x -> x.keep(0), 6);
    }

    private static void asked(String name, Twins.Call call) {
        StrokeSeek x = new StrokeSeek();
        some(x);
        Twins.unchanged(CHECK, name, RefusedTest::some, call, call.on(x));
    }
}
