/** Promises 11 to 18: groups, places, verdicts, what is due, odds, images and counts. */
public final class GroupsTest {
    private static final Check CHECK = new Check("GroupsTest");
    /** Heard of a stroke at 10, 10, time 5, by six stations with clocks of all kinds. */
    private static final String SIX =
            "s10 10p;s16 18l;s10 3e;s1 10d;s22 5b;s13 14p;h0 5;h1 18;h2 9;h3 28;h4 42;h5 10;";
    /** Heard of a stroke at 7/2, 12, time 1/2. */
    private static final String HALF = "s5 14p;s6 18p;s11 16p;s0 0p;h0 3;h1 7;h2 9;h3 13;";

    public static void main(String[] args) {
        grouping();
        rankAndVerdict();
        verdictOfSets();
        ahead();
        out();
        four();
        can();
        place();
        dueCalls();
        odds();
        images();
        count();
        wrongInputs();
        CHECK.close();
    }

    private static void due(String call, long got, long want) {
        CHECK.due(call, got, want);
    }

    private static void grouping() {
        // 3 and 4 apart: a way of 5; times 5 apart go together, 6 apart do not
        StrokeSeek x = Check.read("s0 0p;s3 4p;h0 10;h1 15;");
        due("just together", x.count(2), 1);
        x.strikes(1);
        x.hears(1, 16);
        due("one too far", x.count(2), 2);
        due("earlier is ahead", x.reading(0, 3), 0);
        // by times, not by numbers: 3 (10), 1 (20), 2 (25), 0 (30)
        StrokeSeek y = Check.read("s0 0p;s3 4p;s6 8p;h0 30;h0 20;h1 25;h2 10;");
        due("group 0", y.group(0, 0), 8 + 2);
        due("group 1", y.group(1, 0), 4 + 1);
        due("group 2", y.group(2, 0), StrokeSeek.BAD);
        due("group of 0", y.reading(0, 3), 1);
        // of one time by stations: 1 (station 0) is ahead of 0 (station 1)
        StrokeSeek z = Check.read("s0 0p;s0 0p;s9 9p;h1 7;h0 7;h0 7;h2 7;");
        due("same place, same time", z.group(0, 0), 8 + 2 + 1);
        due("one station twice", z.group(1, 0), 4);
        // of one place, times apart: never together
        StrokeSeek w = Check.read("s4 4p;s4 4p;h0 7;h1 8;");
        due("same place, times apart", w.count(2), 2);
        // with all of a group: 2 goes with 1 but not with 0
        StrokeSeek v = Check.read("s0 0p;s6 8p;s0 1p;h0 0;h1 1;h2 3;");
        due("with all of them", v.group(0, 0), 3);
        due("a group of its own", v.group(1, 0), 4);
    }

    private static void rankAndVerdict() {
        StrokeSeek one = Check.read("s4 4p;h0 9;");
        due("rank of one", one.group(0, 1), 0);
        due("verdict of one", one.group(0, 2), 1);
        StrokeSeek line = Check.read("s0 0p;s6 0p;s12 0p;s18 0p;h0 10;h1 8;h2 10;h3 14;");
        due("rank on a line", line.group(0, 1), 2);
        due("against on a line", line.group(0, 2), 2);
        StrokeSeek alike = Check.read("s0 0p;s0 0p;h0 9;h1 9;");
        due("rank of two alike", alike.group(0, 1), 0);
        due("verdict of two alike", alike.group(0, 2), 1);
        StrokeSeek six = Check.read(SIX);
        due("rank of six", six.group(0, 1), 3);
        due("verdict of six", six.group(0, 2), 0);
        six.strikes(0);
        six.hears(0, 6);
        due("rank of one off", six.group(0, 1), 3);
        due("verdict of one off", six.group(0, 2), 2);
    }

    private static void verdictOfSets() {
        StrokeSeek x = Check.read(SIX);
        due("verdict of all", x.verdict(63), 0);
        due("verdict of four", x.verdict(15), 0);
        due("verdict of three", x.verdict(7), 1);
        due("verdict of one", x.verdict(32), 1);
        due("verdict 0", x.verdict(0), StrokeSeek.BAD);
        due("verdict -1", x.verdict(-1), StrokeSeek.BAD);
        due("verdict 64", x.verdict(64), StrokeSeek.BAD);
        due("verdict least", x.verdict(Integer.MIN_VALUE), StrokeSeek.BAD);
        due("verdict most", x.verdict(Integer.MAX_VALUE), StrokeSeek.BAD);
        x.hears(0, 40);
        // one station twice: its two equations tell a time, the others another
        due("verdict across groups", x.verdict(127), 2);
        due("verdict of one station twice", x.verdict(65), 1);
        for (int k = 7; k < 9; k++) {
            x.hears(0, 40);
        }
        due("verdict of nine", x.verdict(511), 2);
        due("verdict 512", x.verdict(512), StrokeSeek.BAD);
    }

    /** Times mirrored: all was heard before the stroke, so it is against itself. */
    private static void ahead() {
        StrokeSeek x = Check.read("s13 14p;s16 18p;s10 3p;s1 10p;h0 35;h1 30;h2 33;h3 31;");
        due("mirrored is one group", x.group(0, 0), 15);
        due("mirrored rank", x.group(0, 1), 3);
        due("mirrored verdict", x.group(0, 2), 2);
        due("mirrored worst", x.group(0, 5), 0);
        due("mirrored place", x.place(0, 0), StrokeSeek.NO);
        due("mirrored count", x.count(3), 0);
        // it is the first reading by number that must not be ahead of the stroke
        StrokeSeek first = Check.read("s10 10p;s16 18p;s10 3p;s1 10p;h0 40;h1 30;h2 33;h3 31;");
        due("the first at the stroke", first.group(0, 2), 0);
        first.strikes(0);
        first.hears(0, 40);
        due("the last at the stroke", first.group(0, 2), 2);
        // a stroke just where and when a station heard it: t is T1
        StrokeSeek y = Check.read("s10 10p;s16 18p;s10 3p;s1 10p;h0 40;h1 50;h2 47;h3 49;");
        due("at a station", y.group(0, 2), 0);
        due("its time", y.place(0, 4), 40);
    }

    private static void out() {
        StrokeSeek x = Check.read(SIX);
        due("none out", x.group(0, 3), 0);
        x.strikes(0);
        x.hears(0, 6);
        // now 0: station 1 .. 4: station 5, 5: station 0, one late
        due("one group still", x.group(0, 0), 63);
        due("one out", x.group(0, 3), 32);
        x.strikes(4);
        x.hears(5, 11);
        due("group with two off", x.group(0, 0), 63);
        due("two out", x.group(0, 3), 32 + 16);
        x.sets(3, 0);
        x.strikes(2);
        x.hears(3, 15);
        due("group with three off", x.group(0, 0), 63);
        due("more than two", x.group(0, 3), StrokeSeek.NONE);
        StrokeSeek three = Check.read("s10 10p;s16 18p;s10 3p;h0 5;h1 15;h2 12;");
        due("three are never sure", three.group(0, 3), StrokeSeek.NONE);
    }

    private static void four() {
        StrokeSeek x = Check.read(SIX);
        due("least four", x.group(0, 4), 15);
        due("worst of sure", x.group(0, 5), 0);
        StrokeSeek line = Check.read("s0 0p;s6 0p;s12 0p;s18 0p;h0 10;h1 8;h2 10;h3 14;");
        due("none has rank 3", line.group(0, 4), StrokeSeek.NONE);
        due("no worst", line.group(0, 5), StrokeSeek.NONE);
        StrokeSeek three = Check.read("s10 10p;s16 18p;s10 3p;h0 5;h1 15;h2 12;");
        due("fewer than four", three.group(0, 4), StrokeSeek.NONE);
        due("fewer than four, worst", three.group(0, 5), StrokeSeek.NONE);
        // x = 5, y = 5 by the first three, then 2 t = 11: each way's square is 50, the time's 1/4
        StrokeSeek square = Check.read("s0 0p;s10 0p;s0 10p;s10 10p;h0 5;h1 5;h2 5;h3 6;");
        due("a square's group", square.group(0, 0), 15);
        due("a square's four", square.group(0, 4), 15);
        due("a square's verdict", square.group(0, 2), 2);
        due("a square's worst", square.group(0, 5), 49);
        // nearly on a plane, so that the place is far away
        StrokeSeek far = Check.read("s2 27p;s8 19p;s26 26p;s28 5p;h0 32;h1 30;h2 33;h3 27;");
        due("worst far away", far.group(0, 5), 809741477);
        StrokeSeek farther = Check.read("s29 25p;s18 21p;s6 28p;s0 13p;h0 38;h1 37;h2 31;h3 36;");
        due("worst at most", farther.group(0, 5), 999999999);
        due("four of that", farther.group(0, 4), 15);
        // one of them off
        StrokeSeek y = Check.read(SIX);
        y.strikes(0);
        y.hears(0, 6);
        int worst = y.group(0, 5);
        due("worst of one off is above 0", worst > 0 ? 1 : 0, 1);
        due("it has four", Integer.bitCount(y.group(0, 4)), 4);
    }

    private static void can() {
        StrokeSeek x = Check.read(SIX);
        due("can many", x.group(0, 6), 1);
        due("can first", x.group(0, 7), 101005);
        // alone at time 0: only the station's own place
        StrokeSeek zero = Check.read("s7 9p;h0 0;");
        due("own place alone", zero.group(0, 6), 1);
        due("own place", zero.group(0, 7), 70900);
        // at time -3 none
        zero.sets(0, 1);
        due("ahead of all times", zero.group(0, 6), 0);
        due("ahead of all times, first", zero.group(0, 7), StrokeSeek.NONE);
        // at time 63 the stroke is 3 at least and 41 at most away: no t above 60
        StrokeSeek late = Check.read("s15 15e;h0 60;");
        int many = 0;
        int first = -1;
        for (int a = 0; a < 30; a++) {
            for (int b = 0; b < 30; b++) {
                int root = (int) Math.round(Math.sqrt((a - 15) * (a - 15) + (b - 15) * (b - 15)));
                boolean whole = root * root == (a - 15) * (a - 15) + (b - 15) * (b - 15);
                if (whole && root >= 3) {
                    many++;
                    first = first < 0 ? 10000 * a + 100 * b + 63 - root : first;
                }
            }
        }
        due("can at 63", late.group(0, 6), many);
        due("can at 63, first", late.group(0, 7), first);
        // two who would have heard it at -1 alone: 5 and 4 away
        StrokeSeek before = Check.read("s0 0p;s9 0p;h0 4;h1 3;");
        due("no time below 0", before.group(0, 6), 0);
        // the cut half counts: 29 of a double clock is 14
        StrokeSeek twice = Check.read("s0 0d;h0 29;s10 0p;h1 4;");
        // 10 apart in way and in time: 10 .. 14, 0 at 4 .. 0
        due("cut half", twice.group(0, 6), 5);
        due("cut half, first", twice.group(0, 7), 100004);
    }

    private static void place() {
        StrokeSeek x = Check.read(HALF);
        int[] want = {7, 2, 12, 1, 1, 2};
        for (int what = 0; what < 6; what++) {
            due("half's place " + what, x.place(0, what), want[what]);
        }
        due("half's can", x.group(0, 6), 0);
        // all clocks late, a step earlier: the time is below 0
        StrokeSeek y = Check.read("s5 14l;s6 18l;s11 16l;s0 0l;h0 5;h1 9;h2 11;h3 15;");
        int[] below = {7, 2, 12, 1, -1, 2};
        for (int what = 0; what < 6; what++) {
            due("place below " + what, y.place(0, what), below[what]);
        }
        // where x is 0, the lower number is 1
        StrokeSeek z = Check.read("s0 0p;s3 4p;s0 7p;s12 5p;h0 0;h1 5;h2 7;h3 13;");
        int[] zero = {0, 1, 0, 1, 0, 1};
        for (int what = 0; what < 6; what++) {
            due("place at 0 " + what, z.place(0, what), zero[what]);
        }
        due("place what -1", x.place(0, -1), StrokeSeek.NO);
        due("place what 6", x.place(0, 6), StrokeSeek.NO);
        due("place -1", x.place(-1, 0), StrokeSeek.NO);
        due("place 1", x.place(1, 0), StrokeSeek.NO);
        x.strikes(3);
        due("place when open", x.place(0, 1), StrokeSeek.NO);
    }

    private static void dueCalls() {
        StrokeSeek x = Check.read("s3 4p;s3 4l;s3 4e;s3 4d;s3 4b;");
        int[] told = {15, 18, 12, 30, 45};
        for (int s = 0; s < 5; s++) {
            due("due time " + s, x.due(s, 0, 0, 10, 0), 15);
            due("due told " + s, x.due(s, 0, 0, 10, 1), told[s]);
            due("no whole way " + s, x.due(s, 4, 5, 10, 0), StrokeSeek.NONE);
            due("no whole way, told " + s, x.due(s, 4, 5, 10, 1), StrokeSeek.NONE);
        }
        due("at the station", x.due(0, 3, 4, 60, 0), 60);
        due("plain 60", x.due(0, 3, 4, 60, 1), 60);
        due("plain 65, time", x.due(0, 0, 0, 60, 0), 65);
        due("plain 65", x.due(0, 0, 0, 60, 1), StrokeSeek.NONE);
        due("late 57", x.due(1, 3, 4, 57, 1), 60);
        due("late 58", x.due(1, 3, 4, 58, 1), StrokeSeek.NONE);
        due("late 58, time", x.due(1, 3, 4, 58, 0), 58);
        due("early 3", x.due(2, 3, 4, 3, 1), 0);
        due("early 2", x.due(2, 3, 4, 2, 1), StrokeSeek.NONE);
        due("early 63", x.due(2, 0, 0, 58, 1), 60);
        due("early 64", x.due(2, 0, 0, 59, 1), StrokeSeek.NONE);
        due("double 30", x.due(3, 3, 4, 30, 1), 60);
        due("double 31", x.due(3, 3, 4, 31, 1), StrokeSeek.NONE);
        due("back 60", x.due(4, 3, 4, 60, 1), 0);
        due("back 61", x.due(4, 3, 5, 60, 1), StrokeSeek.NONE);
        due("back 0", x.due(4, 3, 4, 0, 1), 60);
        due("due station -1", x.due(-1, 0, 0, 0, 0), StrokeSeek.BAD);
        due("due station 5", x.due(5, 0, 0, 0, 0), StrokeSeek.BAD);
        due("due x -1", x.due(0, -1, 0, 0, 0), StrokeSeek.BAD);
        due("due x 30", x.due(0, 30, 0, 0, 0), StrokeSeek.BAD);
        due("due y -1", x.due(0, 0, -1, 0, 0), StrokeSeek.BAD);
        due("due y 30", x.due(0, 0, 30, 0, 0), StrokeSeek.BAD);
        due("due t -1", x.due(0, 0, 0, -1, 0), StrokeSeek.BAD);
        due("due t 61", x.due(0, 0, 0, 61, 0), StrokeSeek.BAD);
        due("due what -1", x.due(0, 0, 0, 0, -1), StrokeSeek.BAD);
        due("due what 2", x.due(0, 0, 0, 0, 2), StrokeSeek.BAD);
        due("due extreme", x.due(0, Integer.MAX_VALUE, Integer.MIN_VALUE, 0, 0), StrokeSeek.BAD);
    }

    private static void odds() {
        StrokeSeek x = Check.read(HALF);
        due("half's verdict", x.verdict(15), 0);
        due("never lost, upper", x.odds(0, 0, 0), 1);
        due("never lost, lower", x.odds(0, 0, 1), 1);
        due("all lost, upper", x.odds(0, 10, 0), 0);
        due("all lost, lower", x.odds(0, 10, 1), 1);
        due("half lost, upper", x.odds(0, 5, 0), 1);
        due("half lost, lower", x.odds(0, 5, 1), 16);
        due("three tenths lost, upper", x.odds(0, 3, 0), 2401);
        due("three tenths lost, lower", x.odds(0, 3, 1), 10000);
        x.strikes(3);
        due("open, upper", x.odds(0, 2, 0), 0);
        due("open, lower", x.odds(0, 2, 1), 1);
        // five sure by any four: 0.5^5 * 6
        StrokeSeek five = Check.read("s10 10p;s16 18p;s10 3p;s1 10p;s13 14p;h0 5;h1 15;h2 12;h3 14;h4 10;");
        int sure = 0;
        for (int set = 1; set < 32; set++) {
            sure += five.verdict(set) == 0 ? 1 : 0;
        }
        due("five half lost", five.odds(0, 5, 0) * 32, sure * five.odds(0, 5, 1));
        due("odds x -1", five.odds(0, -1, 0), StrokeSeek.BAD);
        due("odds x 11", five.odds(0, 11, 0), StrokeSeek.BAD);
        due("odds what -1", five.odds(0, 0, -1), StrokeSeek.BAD);
        due("odds what 2", five.odds(0, 0, 2), StrokeSeek.BAD);
        due("odds group -1", five.odds(-1, 0, 0), StrokeSeek.BAD);
        due("odds group 1", five.odds(1, 0, 0), StrokeSeek.BAD);
    }

    private static void images() {
        StrokeSeek x = Check.read("s1 1p;s2 2l;h0 3;h1 4;");
        due("keep -1", x.keep(-1), StrokeSeek.BAD);
        due("keep 2", x.keep(2), StrokeSeek.BAD);
        due("back -1", x.back(-1), StrokeSeek.BAD);
        due("back 2", x.back(2), StrokeSeek.BAD);
        due("back of none", x.back(0), StrokeSeek.STATE);
        due("keep 0", x.keep(0), 2);
        due("back of the other", x.back(1), StrokeSeek.STATE);
        x.hears(1, 50);
        x.sets(0, 4);
        due("keep leaves undo", x.count(5), 2);
        due("keep 1", x.keep(1), 3);
        x.strikes(0);
        x.type('s');
        due("back 0", x.back(0), 2);
        due("text is not kept", x.count(4), 1);
        due("clock is back", x.station(0, 2), 0);
        due("reading is back", x.reading(0, 1), 3);
        due("none to undo", x.undo(), StrokeSeek.STATE);
        due("back 1", x.back(1), 3);
        due("clock of image 1", x.station(0, 2), 4);
        due("reading of image 1", x.reading(2, 1), 50);
        x.hears(0, 1);
        due("image stays as kept", x.back(1), 3);
        due("undo behind back", x.count(5), 0);
        x.strikes(2);
        due("keep over", x.keep(1), 2);
        x.hears(0, 7);
        due("back to the newer", x.back(1), 2);
        due("newer clock", x.station(0, 2), 4);
        StrokeSeek none = new StrokeSeek();
        due("keep nothing", none.keep(0), 0);
        due("back to nothing", none.back(0), 0);
    }

    private static void count() {
        StrokeSeek x = Check.read(SIX);
        x.hears(0, 55);
        x.type('q');
        int[] want = {6, 7, 2, 1, 1, 1};
        for (int what = 0; what < 6; what++) {
            due("count " + what, x.count(what), want[what]);
        }
        due("count -1", x.count(-1), StrokeSeek.BAD);
        due("count 6", x.count(6), StrokeSeek.BAD);
        due("count most", x.count(Integer.MAX_VALUE), StrokeSeek.BAD);
    }

    private static void wrongInputs() {
        StrokeSeek x = Check.read(SIX);
        int[] wrong = {-1, 1, 9, Integer.MAX_VALUE, Integer.MIN_VALUE};
        for (int g : wrong) {
            for (int what = 0; what < 8; what++) {
                due("group " + g + " " + what, x.group(g, what), StrokeSeek.BAD);
            }
        }
        due("group what -1", x.group(0, -1), StrokeSeek.BAD);
        due("group what 8", x.group(0, 8), StrokeSeek.BAD);
        due("nothing changed", x.group(0, 7), 101005);
    }
}
