/** Promises 1 to 10: a new object, the text, stations, readings and what may be undone. */
public final class HeardTest {
    private static final Check CHECK = new Check("HeardTest");

    public static void main(String[] args) {
        newObject();
        typeAndClear();
        goodTexts();
        faults();
        faultChangesNothing();
        readAnew();
        stations();
        readings();
        hears();
        strikes();
        sets();
        undo();
        undoKnowsTen();
        CHECK.close();
    }

    private static void due(String call, long got, long want) {
        CHECK.due(call, got, want);
    }

    private static void newObject() {
        StrokeSeek x = new StrokeSeek();
        for (int what = 0; what <= 5; what++) {
            due("new count " + what, x.count(what), 0);
        }
        due("new station", x.station(0, 0), StrokeSeek.BAD);
        due("new reading", x.reading(0, 0), StrokeSeek.NO);
        due("new group", x.group(0, 0), StrokeSeek.BAD);
        due("new place", x.place(0, 0), StrokeSeek.NO);
        due("new odds", x.odds(0, 0, 0), StrokeSeek.BAD);
        due("new verdict", x.verdict(1), StrokeSeek.BAD);
        due("new back", x.back(0), StrokeSeek.STATE);
        due("new undo", x.undo(), StrokeSeek.STATE);
        due("new clear", x.clear(), 0);
        due("new field", x.field(), 0);
    }

    private static void typeAndClear() {
        StrokeSeek x = new StrokeSeek();
        due("type -1", x.type(-1), StrokeSeek.BAD);
        due("type 256", x.type(256), StrokeSeek.BAD);
        due("type 0", x.type(0), 1);
        due("type 255", x.type(255), 2);
        for (int i = 3; i <= 110; i++) {
            due("type to " + i, x.type(32), i);
        }
        due("type when full", x.type(32), StrokeSeek.FULL);
        due("type bad when full", x.type(256), StrokeSeek.BAD);
        due("count of a full text", x.count(4), 110);
        due("field of letter 0", x.field(), -10);
        due("clear full", x.clear(), 110);
        due("clear empty", x.clear(), 0);
        due("type behind clear", x.type(115), 1);
        due("count behind clear", x.count(4), 1);
    }

    private static void fieldDue(String text, int want) {
        StrokeSeek x = new StrokeSeek();
        Check.tell(x, text);
        due("field of '" + text + "'", x.field(), want);
        due("letters behind '" + text + "'", x.count(4), want < 0 ? text.length() : 0);
    }

    private static void goodTexts() {
        fieldDue("", 0);
        fieldDue("   ", 0);
        fieldDue("s0 0p;", 1);
        fieldDue("  s  29  29  b  ;  ", 1);
        fieldDue("s1 2l;h0 60;", 2);
        fieldDue("s1 2l;h0 60;s3 4e;h1 0;h0 1;", 5);
        fieldDue("s0 0p;s0 0p;s0 0p;s0 0p;s0 0p;s0 0p;", 6);
        fieldDue("s0 0p;h0 0;h0 0;h0 0;h0 0;h0 0;h0 0;h0 0;h0 0;h0 0;", 10);
    }

    private static void faultDue(String text, int fault) {
        fieldDue(text, -10 - fault);
    }

    private static void faults() {
        faultDue("x", 0);
        faultDue(";", 0);
        faultDue("5", 0);
        faultDue("S0 0p;", 0);
        faultDue("s", 1);
        faultDue("s  ", 3);
        faultDue("s1", 2);
        faultDue("s1 2", 4);
        faultDue("s1 2p", 5);
        faultDue("s1 2p ", 6);
        faultDue("s1 2p;h", 7);
        faultDue("s1 2p;h0", 8);
        faultDue("s1 2p;h0 3", 10);
        faultDue("s1 2p p", 6);
        faultDue("s1 2 3;", 5);
        faultDue("s1 2q;", 4);
        faultDue("s1 2s;", 4);
        faultDue("s1 2P;", 4);
        faultDue("s 30 0p;", 2);
        faultDue("s 29 30p;", 5);
        faultDue("s 00 0p;", 2);
        faultDue("s 0 05p;", 4);
        faultDue("s 100 0p;", 2);
        faultDue("s 4294967296 0p;", 2);
        faultDue("s 18446744073709551616 0p;", 2);
        faultDue("s1-2p;", 2);
        faultDue("s1\t2p;", 2);
        faultDue("s1 2p;;", 6);
        faultDue("s1 2p;" + (char) 233, 6);
        faultDue("s1 2p;" + (char) 0, 6);
        faultDue("h0 0;", 1);
        faultDue("s1 2p;h1 0;", 7);
        faultDue("s1 2p;h0 61;", 9);
        faultDue("s1 2p;h0 060;", 9);
        faultDue("s1 2p;h00 6;", 7);
        faultDue("s1 2p;h0 6p;", 10);
        faultDue("s1 2p;h1 0;s1 2p;", 7);
        faultDue("s1 2q;s1 " + (char) 200, 4);
        faultDue("s0 0p;s0 0p;s0 0p;s0 0p;s0 0p;s0 0p;s", 36);
        faultDue("s0 0p;s0 0p;s0 0p;s0 0p;s0 0p;s0 0p;  s0 0p;", 38);
        faultDue("s0 0p;s0 0p;s0 0p;s0 0p;s0 0p;s0 0p;h6 0;", 37);
        faultDue("s0 0p;h0 0;h0 0;h0 0;h0 0;h0 0;h0 0;h0 0;h0 0;h0 0;h0 0;", 51);
    }

    private static void faultChangesNothing() {
        StrokeSeek x = Check.read("s1 2l;s3 4d;h0 9;h1 8;");
        x.sets(0, 4);
        x.keep(1);
        Check.tell(x, "s5 6e;h0 7;!");
        due("faulty field", x.field(), -10 - 11);
        due("faulty again", x.field(), -10 - 11);
        due("stations stay", x.count(0), 2);
        due("x stays", x.station(0, 0), 1);
        due("clock stays", x.station(0, 2), 4);
        due("readings stay", x.count(1), 2);
        due("told stays", x.reading(1, 1), 8);
        due("undo stays", x.count(5), 1);
        due("text stays", x.count(4), 12);
        due("image stays", x.back(1), 2);
    }

    private static void readAnew() {
        StrokeSeek x = Check.read("s1 2l;s3 4d;h0 9;h1 8;");
        x.hears(0, 5);
        x.keep(0);
        Check.tell(x, "s7 8b;");
        due("field anew", x.field(), 1);
        due("stations anew", x.count(0), 1);
        due("readings anew", x.count(1), 0);
        due("groups anew", x.count(2), 0);
        due("undo anew", x.undo(), StrokeSeek.STATE);
        due("images anew", x.back(0), StrokeSeek.STATE);
        due("text anew", x.count(4), 0);
        due("clock anew", x.station(0, 2), 4);
        due("old station", x.station(1, 0), StrokeSeek.BAD);
        x.keep(1);
        due("field of nothing", x.field(), 0);
        due("no stations", x.count(0), 0);
        due("image gone by nothing", x.back(1), StrokeSeek.STATE);
    }

    private static void stations() {
        StrokeSeek x = Check.read("s1 2p;s3 4l;s5 6e;s7 8d;s9 29b;");
        int[] wantX = {1, 3, 5, 7, 9};
        int[] wantY = {2, 4, 6, 8, 29};
        for (int s = 0; s < 5; s++) {
            due("x of " + s, x.station(s, 0), wantX[s]);
            due("y of " + s, x.station(s, 1), wantY[s]);
            due("clock of " + s, x.station(s, 2), s);
        }
        due("station -1", x.station(-1, 0), StrokeSeek.BAD);
        due("station 5", x.station(5, 0), StrokeSeek.BAD);
        due("station most", x.station(Integer.MAX_VALUE, 0), StrokeSeek.BAD);
        due("station least", x.station(Integer.MIN_VALUE, 0), StrokeSeek.BAD);
        due("station what -1", x.station(0, -1), StrokeSeek.BAD);
        due("station what 3", x.station(0, 3), StrokeSeek.BAD);
    }

    private static void readings() {
        StrokeSeek x = Check.read("s0 0p;s29 0l;s0 29e;s29 29d;s15 15b;h0 20;h1 2;h2 60;h3 29;h4 50;");
        int[] told = {20, 2, 60, 29, 50};
        int[] time = {20, -1, 63, 14, 10};
        // by times: 1 (-1), 4 (10), 3 (14), 0 (20), 2 (63)
        int[] group = {0, 0, 1, 0, 0};
        for (int k = 0; k < 5; k++) {
            due("station of " + k, x.reading(k, 0), k);
            due("told of " + k, x.reading(k, 1), told[k]);
            due("time of " + k, x.reading(k, 2), time[k]);
            due("group of " + k, x.reading(k, 3), group[k]);
        }
        due("reading -1", x.reading(-1, 0), StrokeSeek.NO);
        due("reading 5", x.reading(5, 2), StrokeSeek.NO);
        due("reading most", x.reading(Integer.MAX_VALUE, 2), StrokeSeek.NO);
        due("reading what -1", x.reading(0, -1), StrokeSeek.NO);
        due("reading what 4", x.reading(0, 4), StrokeSeek.NO);
        StrokeSeek y = Check.read("s0 0l;s0 0d;h0 0;h1 1;h1 0;h1 60;");
        due("late 0", y.reading(0, 2), -3);
        due("double 1", y.reading(1, 2), 0);
        due("double 0", y.reading(2, 2), 0);
        due("double 60", y.reading(3, 2), 30);
    }

    private static void hears() {
        StrokeSeek x = Check.read("s0 0p;s5 5d;");
        due("hears station -1", x.hears(-1, 0), StrokeSeek.BAD);
        due("hears station 2", x.hears(2, 0), StrokeSeek.BAD);
        due("hears told -1", x.hears(0, -1), StrokeSeek.BAD);
        due("hears told 61", x.hears(0, 61), StrokeSeek.BAD);
        due("refused is not known", x.count(5), 0);
        for (int k = 0; k < 9; k++) {
            due("hears " + k, x.hears(k % 2, 60 - k), k);
        }
        due("hears when full", x.hears(0, 0), StrokeSeek.FULL);
        due("hears bad when full", x.hears(2, 0), StrokeSeek.BAD);
        due("heard station", x.reading(7, 0), 1);
        due("heard told", x.reading(7, 1), 53);
        due("heard count", x.count(1), 9);
        due("heard undo", x.count(5), 9);
    }

    private static void strikes() {
        StrokeSeek x = Check.read("s0 0p;s5 5d;h0 1;h1 2;h0 3;h1 4;");
        due("strikes -1", x.strikes(-1), StrokeSeek.BAD);
        due("strikes 4", x.strikes(4), StrokeSeek.BAD);
        due("strikes 1", x.strikes(1), 3);
        due("the next comes down", x.reading(1, 1), 3);
        due("its station too", x.reading(1, 0), 0);
        due("the last comes down", x.reading(2, 1), 4);
        due("the last's station", x.reading(2, 0), 1);
        due("none behind", x.reading(3, 1), StrokeSeek.NO);
        due("strikes last", x.strikes(2), 2);
        due("strikes first", x.strikes(0), 1);
        due("strikes only", x.strikes(0), 0);
        due("strikes none", x.strikes(0), StrokeSeek.BAD);
        due("groups of none", x.count(2), 0);
    }

    private static void sets() {
        StrokeSeek x = Check.read("s0 0p;s5 5d;h0 40;h1 41;");
        due("sets station 2", x.sets(2, 0), StrokeSeek.BAD);
        due("sets station -1", x.sets(-1, 0), StrokeSeek.BAD);
        due("sets clock 5", x.sets(0, 5), StrokeSeek.BAD);
        due("sets clock -1", x.sets(0, -1), StrokeSeek.BAD);
        due("sets as it is", x.sets(0, 0), StrokeSeek.STATE);
        due("sets as it is, other", x.sets(1, 3), StrokeSeek.STATE);
        due("refused is not known", x.count(5), 0);
        due("sets late", x.sets(0, 1), 0);
        due("time late", x.reading(0, 2), 37);
        due("sets early", x.sets(0, 2), 1);
        due("time early", x.reading(0, 2), 43);
        due("sets back", x.sets(0, 4), 2);
        due("time back", x.reading(0, 2), 20);
        due("sets double", x.sets(0, 3), 4);
        due("time double", x.reading(0, 2), 20);
        due("sets plain", x.sets(0, 0), 3);
        due("time plain", x.reading(0, 2), 40);
        due("told as it was", x.reading(0, 1), 40);
        due("other clock", x.station(1, 2), 3);
    }

    private static void undo() {
        StrokeSeek x = Check.read("s0 0p;s5 5d;h0 1;h1 2;");
        x.hears(0, 9);
        x.strikes(0);
        x.sets(1, 4);
        x.sets(1, 4);
        x.hears(7, 7);
        due("undo sets", x.undo(), 2);
        due("clock is back", x.station(1, 2), 3);
        due("readings not yet", x.count(1), 2);
        due("undo strikes", x.undo(), 1);
        due("struck is back", x.reading(0, 1), 1);
        due("next is back", x.reading(1, 0), 1);
        due("heard still there", x.reading(2, 1), 9);
        due("undo hears", x.undo(), 0);
        due("heard is gone", x.count(1), 2);
        due("undo none", x.undo(), StrokeSeek.STATE);
        due("none changes nothing", x.count(1), 2);
        due("undo is not known itself", x.count(5), 0);
        x.hears(1, 30);
        due("known behind undo", x.count(5), 1);
        due("undo once more", x.undo(), 0);
        due("as told", x.count(1), 2);
    }

    private static void undoKnowsTen() {
        StrokeSeek x = Check.read("s0 0p;");
        for (int i = 1; i <= 13; i++) {
            due("sets " + i, x.sets(0, i % 5), (i - 1) % 5);
            due("known " + i, x.count(5), Math.min(i, 10));
        }
        for (int i = 12; i >= 3; i--) {
            due("undo to " + i, x.undo(), i - 3);
            due("clock at " + i, x.station(0, 2), i % 5);
        }
        due("older are lost", x.undo(), StrokeSeek.STATE);
        due("clock stays", x.station(0, 2), 3);
    }
}
