/** Section 2 of the document's terms, sentence by sentence: what goes together, verdicts, what is undone. */
public final class HeardEdgesTest {
    private static final Check CHECK = new Check("HeardEdgesTest");
    /** Ways of whole numbers from 10, 10: none, 10, 7, 9 and 5. */
    private static final String FIVE = "s10 10p;s16 18p;s10 3p;s1 10p;s13 14p;";
    private static final int SURE = 0;
    private static final int OPEN = 1;
    private static final int AGAINST = 2;

    public static void main(String[] args) {
        unlikeStations();
        noMoreThan();
        timesOutside0To60GoTogether();
        groupsByTimes();
        groupsOfOneTimeByStations();
        groupsOfOneStationByNumbers();
        intoTheFirstGroup();
        withAllOfAGroup();
        noReadingsNoGroups();
        atMostNineGroups();
        rankFrom0To3();
        sureFromFourOn();
        timeNoMoreThanTheFirst();
        notAtItsTime();
        noPlaceForAll();
        openBelowRank3();
        verdictWhateverGroups();
        heardComesBehind();
        struckGoes();
        setIsAnother();
        tenAreKnown();
        tenAreKnownOfEachKind();
        knownGoesRound();
        onlyChangesAreUndone();
        CHECK.close();
    }

    private static void due(String call, long got, long want) {
        CHECK.due(call, got, want);
    }

    // "Two READINGS go TOGETHER, if they are of unlike STATIONS, and the square of what their TIMES are apart
    // is no more than the square of what these are apart."

    private static void unlikeStations() {
        due("one station, one time", Check.read("s5 5p;h0 9;h0 9;").count(2), 2);
        due("one station, times apart", Check.read("s5 5p;h0 9;h0 10;").count(2), 2);
        due("two stations in one place, one time", Check.read("s5 5p;s5 5p;h0 9;h1 9;").count(2), 1);
        due("two stations in one place, times apart", Check.read("s5 5p;s5 5p;h0 9;h1 10;").count(2), 2);
        due("one time by unlike clocks", Check.read("s5 5l;s5 5b;h0 33;h1 30;").count(2), 1);
    }

    private static void noMoreThan() {
        int[][] ways = {{3, 4}, {5, 12}, {20, 21}, {0, 1}, {1, 0}, {1, 1}, {2, 3}, {0, 29}, {29, 0}, {29, 29}, {7, 1}};
        for (int[] way : ways) {
            int square = way[0] * way[0] + way[1] * way[1];
            for (int apart = 0; apart <= 60; apart++) {
                String places = "s0 0p;s" + way[0] + " " + way[1] + "p;";
                int groups = apart * apart <= square ? 1 : 2;
                String name = "groups of " + way[0] + " " + way[1] + ", " + apart + " apart";
                due(name, Check.read(places + "h0 0;h1 " + apart + ";").count(2), groups);
                due(name + " back", Check.read(places + "h0 60;h1 " + (60 - apart) + ";").count(2), groups);
            }
        }
    }

    private static void timesOutside0To60GoTogether() {
        // -3 and 38: 41 apart; the corners' square is 1682, that of 41 is 1681
        StrokeSeek below = Check.read("s0 0l;s29 29p;h0 0;h1 38;");
        due("41 apart from below 0", below.count(2), 1);
        due("its time", below.reading(0, 2), -3);
        due("42 apart from below 0", Check.read("s0 0l;s29 29p;h0 0;h1 39;").count(2), 2);
        // 63 and 22
        StrokeSeek above = Check.read("s0 0e;s29 29p;h0 60;h1 22;");
        due("41 apart from above 60", above.count(2), 1);
        due("its time", above.reading(0, 2), 63);
        due("42 apart from above 60", Check.read("s0 0e;s29 29p;h0 60;h1 21;").count(2), 2);
        due("66 apart", Check.read("s0 0e;s29 29l;h0 60;h1 0;").count(2), 2);
    }

    // "GROUPS 0, 1, ..: READINGS, by TIMES, of one TIME by STATIONS, of one STATION by numbers, come each into
    // the first GROUP with all of which it goes TOGETHER, else into a new one."

    private static void groupsByTimes() {
        // none goes with another; by times: 2 (10), 0 (30), 1 (50)
        StrokeSeek x = Check.read("s0 0p;s0 1p;s1 0p;h0 30;h1 50;h2 10;");
        due("the earliest", x.group(0, 0), 4);
        due("the next", x.group(1, 0), 1);
        due("the latest", x.group(2, 0), 2);
        due("group of the earliest", x.reading(2, 3), 0);
        due("group of the next", x.reading(0, 3), 1);
        due("group of the latest", x.reading(1, 3), 2);
        // by times, not by what was told: 40 by BACK is 20, 20 by LATE 17, 16 by EARLY 19
        StrokeSeek y = Check.read("s0 0b;s0 0l;s0 0e;h0 40;h1 20;h2 16;");
        due("the first time is 17", y.group(0, 0), 2);
        due("the second is 19", y.group(1, 0), 4);
        due("the third is 20", y.group(2, 0), 1);
        // a step earlier is ahead, whatever the station
        StrokeSeek step = Check.read("s4 4p;s4 4p;h1 7;h0 8;");
        due("a step earlier", step.group(0, 0), 1);
        due("a step later", step.group(1, 0), 2);
        // a time below 0 is ahead of 0
        StrokeSeek z = Check.read("s0 0p;s0 0l;h0 0;h1 0;");
        due("below 0 is ahead", z.group(0, 0), 2);
    }

    private static void groupsOfOneTimeByStations() {
        // order: 2 (20, station 0), 1 (20, station 1), 3 (21, station 0), 0 (22, station 2)
        StrokeSeek x = Check.read("s5 5p;s5 6p;s5 7p;h2 22;h1 20;h0 20;h0 21;");
        due("both of one time", x.group(0, 0), 4 + 2);
        due("0 is 2 steps behind 1, and 1 away", x.group(1, 0), 8 + 1);
        // order: 3 (0, station 0), 2 (0, station 2), 1 (5, station 0), 0 (5, station 1)
        StrokeSeek y = Check.read("s0 0p;s9 0p;s4 0p;h1 5;h0 5;h2 0;h0 0;");
        due("of two times", y.group(0, 0), 8 + 4 + 1);
        due("the same station's later one", y.group(1, 0), 2);
        // neither of the two of one time goes with the first
        StrokeSeek z = Check.read("s10 0p;s0 0p;s5 0p;h2 0;h1 6;h0 6;");
        due("the first by itself", z.group(0, 0), 1);
        due("both of one time behind it", z.group(1, 0), 6);
        StrokeSeek w = Check.read("s0 0p;s0 0l;s0 0p;h2 7;h1 10;h0 7;h0 7;h1 10;h2 7;");
        due("first of each station", w.group(0, 0), 1 + 2 + 4);
        due("second of each station", w.group(1, 0), 8 + 16 + 32);
    }

    private static void groupsOfOneStationByNumbers() {
        StrokeSeek x = Check.read("s5 5p;h0 7;h0 7;h0 7;");
        for (int k = 0; k < 3; k++) {
            due("group " + k + " of one station", x.group(k, 0), 1 << k);
            due("its reading's group", x.reading(k, 3), k);
        }
        x.hears(0, 6);
        due("an earlier one is ahead", x.group(0, 0), 8);
        due("the first is behind it", x.group(1, 0), 1);
    }

    private static void intoTheFirstGroup() {
        // 0 and 1 of one station open two groups, 2 goes with both: it comes into the first
        StrokeSeek x = Check.read("s0 0p;s9 0p;h0 5;h0 6;h1 7;");
        due("the first that fits", x.group(0, 0), 1 + 4);
        due("the second stays as it is", x.group(1, 0), 2);
        // 2 does not go with 0, but with 1
        StrokeSeek y = Check.read("s0 0p;s9 0p;h0 5;h0 6;h1 15;");
        due("the first does not fit", y.group(0, 0), 1);
        due("the second does", y.group(1, 0), 2 + 4);
        due("no third", y.count(2), 2);
    }

    private static void withAllOfAGroup() {
        // 0 at 0, 0 (time 0); 1 at 10, 0 (5); 2 at 3, 0 (4): with 1 (7, 1) but not with 0 (3, 4)
        StrokeSeek x = Check.read("s0 0p;s10 0p;s3 0p;h0 0;h1 5;h2 4;");
        due("2 is ahead of 1 by time", x.group(0, 0), 1 + 2);
        due("2 goes alone", x.group(1, 0), 4);
        StrokeSeek y = Check.read("s0 0p;s10 0p;s3 0p;h0 0;h1 4;h2 5;");
        due("one of two is not all", y.group(0, 0), 1 + 2);
        due("so a new one", y.group(1, 0), 4);
        StrokeSeek z = Check.read("s0 0p;s10 0p;s3 0p;h0 0;h1 4;h2 3;");
        due("all of them", z.group(0, 0), 7);
    }

    private static void noReadingsNoGroups() {
        StrokeSeek x = Check.read("s0 0p;s1 1p;");
        due("groups of none", x.count(2), 0);
        due("sure groups of none", x.count(3), 0);
        due("group 0 of none", x.group(0, 0), StrokeSeek.BAD);
        due("place of none", x.place(0, 0), StrokeSeek.NO);
        due("odds of none", x.odds(0, 0, 0), StrokeSeek.BAD);
        due("verdict of none", x.verdict(1), StrokeSeek.BAD);
    }

    private static void atMostNineGroups() {
        StrokeSeek x = Check.read("s0 0p;h0 50;h0 45;h0 40;h0 35;h0 30;h0 25;h0 20;h0 15;h0 10;");
        due("nine groups", x.count(2), 9);
        for (int g = 0; g < 9; g++) {
            due("group " + g + " of nine", x.group(g, 0), 1 << 8 - g);
            due("its verdict", x.group(g, 2), OPEN);
            due("reading's group", x.reading(8 - g, 3), g);
        }
        due("group 9", x.group(9, 0), StrokeSeek.BAD);
        due("odds of group 8", x.odds(8, 0, 0), 0);
        due("odds of group 9", x.odds(9, 0, 0), StrokeSeek.BAD);
        due("place of group 9", x.place(9, 0), StrokeSeek.NO);
    }

    // "RANK: how many of these are independent (of what is left of the =)."

    private static void rankFrom0To3() {
        due("one reading", Check.read("s5 5p;h0 9;").group(0, 1), 0);
        due("two alike", Check.read("s5 5p;s5 5p;h0 9;h1 9;").group(0, 1), 0);
        due("two", Check.read("s5 5p;s7 5p;h0 9;h1 9;").group(0, 1), 1);
        due("three on a line", Check.read("s0 0p;s5 0p;s10 0p;h0 9;h1 9;h2 9;").group(0, 1), 1);
        due("three", Check.read("s0 0p;s5 0p;s0 5p;h0 9;h1 9;h2 9;").group(0, 1), 2);
        due("four of one time", Check.read("s0 0p;s5 0p;s0 5p;s9 9p;h0 9;h1 9;h2 9;h3 9;").group(0, 1), 2);
        due("four", Check.read("s0 0p;s5 0p;s0 5p;s9 9p;h0 9;h1 9;h2 9;h3 8;").group(0, 1), 3);
        due("six", Check.read(FIVE + "s22 5p;h0 5;h1 15;h2 12;h3 14;h4 10;h5 18;").group(0, 1), 3);
        // what is right of the = does not count: three of one line and time, against themselves
        StrokeSeek line = Check.read("s0 0p;s5 0p;s10 0p;h0 9;h1 9;h2 9;");
        due("against itself by rank 1", line.group(0, 2), AGAINST);
        // x alone is told, or y alone, or t alone
        due("x alone", Check.read("s0 5p;s9 5p;h0 9;h1 9;").group(0, 1), 1);
        due("y alone", Check.read("s5 0p;s5 9p;h0 9;h1 9;").group(0, 1), 1);
        due("y and t", Check.read("s5 0p;s5 9p;s5 20p;h0 9;h1 10;h2 17;").group(0, 1), 2);
        due("x and t", Check.read("s0 5p;s9 5p;s20 5p;h0 9;h1 10;h2 17;").group(0, 1), 2);
    }

    // "0 SURE: RANK is 3, there is one x, y, t for all, and for the first of them the square of x less X1 and
    // that of y less Y1 together are that of T1 less t, and t is no more than T1."

    private static void sureFromFourOn() {
        StrokeSeek x = Check.read(FIVE + "h1 15;h2 12;h3 14;h4 10;h0 5;");
        due("four are sure", x.verdict(15), SURE);
        due("five are sure", x.verdict(31), SURE);
        due("its group", x.group(0, 2), SURE);
        due("sure groups", x.count(3), 1);
        due("three are open", x.verdict(7), OPEN);
        x.strikes(4);
        due("four of a group", x.group(0, 2), SURE);
        x.strikes(0);
        due("three of a group", x.group(0, 2), OPEN);
        due("no sure groups", x.count(3), 0);
        // two strokes, at 5 and at 45, of the same four
        StrokeSeek y = Check.read("s10 10p;s16 18p;s10 3p;s1 10p;h0 5;h1 15;h2 12;h3 14;h0 45;h1 55;h2 52;h3 54;");
        due("two sure groups", y.count(3), 2);
        due("time of the first", y.place(0, 4), 5);
        due("time of the second", y.place(1, 4), 45);
    }

    private static void timeNoMoreThanTheFirst() {
        // station 0 stands where the stroke is, so its time is the stroke's
        StrokeSeek just = Check.read(FIVE + "h0 20;h1 30;h2 27;h3 29;");
        due("t is T1", just.group(0, 2), SURE);
        due("t", just.place(0, 4), 20);
        due("t's lower number", just.place(0, 5), 1);
        // all heard before the stroke at 40: 30, 33, 31, 35
        StrokeSeek before = Check.read(FIVE + "h1 30;h2 33;h3 31;h4 35;");
        due("one group before", before.group(0, 0), 15);
        due("rank before", before.group(0, 1), 3);
        due("t is above T1", before.group(0, 2), AGAINST);
        due("verdict of t above T1", before.verdict(15), AGAINST);
        due("no place", before.place(0, 4), StrokeSeek.NO);
        due("no sure group", before.count(3), 0);
        // just by one step: a station beside the stroke heard it a step before
        StrokeSeek step = Check.read("s10 11p;s16 18p;s10 3p;s1 10p;h0 39;h1 30;h2 33;h3 31;");
        due("t is one above T1", step.verdict(15), AGAINST);
        StrokeSeek behind = Check.read("s10 11p;s16 18p;s10 3p;s1 10p;h0 41;h1 50;h2 47;h3 49;");
        due("t is one below T1", behind.verdict(15), SURE);
    }

    // "2 AGAINST: no x, y, t is for all, or there is one, but the latter does not hold."

    private static void notAtItsTime() {
        // a square: x and y are 5, t is 11 / 2, which is not as far as any of them
        StrokeSeek x = Check.read("s0 0p;s10 0p;s0 10p;s10 10p;h0 5;h1 5;h2 5;h3 6;");
        due("rank", x.group(0, 1), 3);
        due("not at its time", x.group(0, 2), AGAINST);
        due("no place of it", x.place(0, 0), StrokeSeek.NO);
    }

    private static void noPlaceForAll() {
        // the first four are sure of a stroke at 10, 10, time 5, which the last should have told as 18
        StrokeSeek x = Check.read(FIVE + "s22 5p;h0 5;h1 15;h2 12;h3 14;h5 17;");
        due("one group", x.group(0, 0), 31);
        due("the first four", x.verdict(15), SURE);
        due("rank 3 and none for all", x.group(0, 2), AGAINST);
        StrokeSeek line = Check.read("s0 0p;s6 0p;s12 0p;s18 0p;h0 10;h1 8;h2 10;h3 14;");
        due("rank 2", line.group(0, 1), 2);
        due("rank 2 and none for all", line.group(0, 2), AGAINST);
        StrokeSeek one = Check.read("s4 4p;h0 10;h0 20;h0 40;");
        due("rank 1 and none for all", one.verdict(7), AGAINST);
    }

    // "Else 1 OPEN."

    private static void openBelowRank3() {
        due("of one", Check.read("s4 4p;h0 10;").verdict(1), OPEN);
        due("of two", Check.read("s4 4p;s9 9p;h0 10;h1 11;").verdict(3), OPEN);
        due("of one station twice", Check.read("s4 4p;h0 10;h0 20;").verdict(3), OPEN);
        due("of the same thrice", Check.read("s4 4p;h0 10;h0 10;h0 10;").verdict(7), OPEN);
        // a stroke at 6, 8, time 0 heard on a line: it may be on either side of it
        StrokeSeek line = Check.read("s0 0p;s6 0p;s12 0p;s21 0p;h0 10;h1 8;h2 10;h3 17;");
        due("of four on a line", line.group(0, 2), OPEN);
        due("rank of these", line.group(0, 1), 2);
        due("no place of these", line.place(0, 0), StrokeSeek.NO);
    }

    // "VERDICT of a set of READINGS (bits; 1 at least), whatever GROUPS they are of."

    private static void verdictWhateverGroups() {
        StrokeSeek x = Check.read(FIVE + "h0 5;h1 15;h2 12;h3 14;h0 45;h1 55;h2 52;h3 54;h4 10;");
        due("two groups", x.count(2), 2);
        due("of the first group", x.verdict(15), SURE);
        due("of the second group", x.verdict(15 << 4), SURE);
        due("of both", x.verdict(255), AGAINST);
        due("of some of both", x.verdict(1 + 2 + 4 + 128), AGAINST);
        due("of the last with the first three", x.verdict(256 + 2 + 4 + 8), SURE);
        due("of all nine", x.verdict(511), AGAINST);
        due("of the last alone", x.verdict(256), OPEN);
        // 0 and 1 heard a stroke at 10, 10, time 30 behind it, 2 and 3 before it: 40, 37 and 21, 25
        StrokeSeek mixed = Check.read(FIVE + "h1 40;h2 37;h3 21;h4 25;");
        due("some before and some behind are in two groups", mixed.count(2), 2);
        due("the first heard it behind", mixed.verdict(15), SURE);
        StrokeSeek turned = Check.read(FIVE + "h3 21;h4 25;h1 40;h2 37;");
        due("the first heard it before", turned.verdict(15), AGAINST);
    }

    // "HEARD: a READING comes behind."

    private static void heardComesBehind() {
        StrokeSeek x = Check.read(FIVE + "h1 30;");
        due("its number", x.hears(0, 7), 1);
        due("the next number", x.hears(0, 7), 2);
        due("the one ahead stays", x.reading(0, 0), 1);
        due("its station", x.reading(1, 0), 0);
        due("its told", x.reading(2, 1), 7);
        due("readings", x.count(1), 3);
        x.strikes(0);
        due("behind those that are left", x.hears(4, 8), 2);
        due("the last's station", x.reading(2, 0), 4);
    }

    // "STRUCK: one goes."

    private static void struckGoes() {
        for (int k = 0; k < 9; k++) {
            StrokeSeek x = Check.read("s0 0p;s1 1p;h0 20;h1 21;h0 22;h1 23;h0 24;h1 25;h0 26;h1 27;h0 28;");
            due("left without " + k, x.strikes(k), 8);
            for (int i = 0; i < 8; i++) {
                int was = i < k ? i : i + 1;
                due("told of " + i + " without " + k, x.reading(i, 1), 20 + was);
                due("station of " + i + " without " + k, x.reading(i, 0), was % 2);
            }
            due("no ninth without " + k, x.reading(8, 1), StrokeSeek.NO);
            due("strikes no ninth without " + k, x.strikes(8), StrokeSeek.BAD);
            due("back with " + k, x.undo(), 0);
            due("told of " + k + " again", x.reading(k, 1), 20 + k);
            due("the last again", x.reading(8, 1), 28);
        }
        StrokeSeek one = Check.read("s0 0p;h0 1;");
        due("the only one", one.strikes(0), 0);
        due("none is left", one.strikes(0), StrokeSeek.BAD);
    }

    // "SET: a CLOCK is another one."

    private static void setIsAnother() {
        for (int from = 0; from < 5; from++) {
            for (int to = 0; to < 5; to++) {
                StrokeSeek x = Check.read("s1 1p;s0 0" + "pledb".charAt(from) + ";s1 1b;h1 21;");
                int[] time = {21, 18, 24, 10, 39};
                due("sets " + from + " to " + to, x.sets(1, to), from == to ? StrokeSeek.STATE : from);
                due("clock " + from + " to " + to, x.station(1, 2), to);
                due("time " + from + " to " + to, x.reading(0, 2), time[to]);
                due("told " + from + " to " + to, x.reading(0, 1), 21);
                due("known " + from + " to " + to, x.count(5), from == to ? 0 : 1);
                due("the one ahead", x.station(0, 2), 0);
                due("the one behind", x.station(2, 2), 4);
            }
        }
        // the groups are as the clocks are now
        StrokeSeek y = Check.read("s0 0p;s3 4p;h0 10;h1 15;");
        due("together", y.count(2), 1);
        y.sets(1, 2);
        due("no more together", y.count(2), 2);
        y.undo();
        due("together again", y.count(2), 1);
    }

    // "UNDONE: the latest hears(), strikes(), sets() that was not refused (10 are known, older ones are lost)."

    private static void tenAreKnown() {
        for (int changes = 0; changes <= 23; changes++) {
            StrokeSeek x = Check.read("s0 0p;");
            for (int i = 1; i <= changes; i++) {
                x.sets(0, i % 5);
            }
            int known = Math.min(changes, 10);
            due("known of " + changes, x.count(5), known);
            for (int i = 1; i <= known; i++) {
                due("undo " + i + " of " + changes, x.undo(), known - i);
                due("clock behind undo " + i + " of " + changes, x.station(0, 2), (changes - i) % 5);
                due("known behind undo " + i + " of " + changes, x.count(5), known - i);
            }
            due("no more of " + changes, x.undo(), StrokeSeek.STATE);
            due("clock that is left of " + changes, x.station(0, 2), (changes - known) % 5);
        }
    }

    private static void tenAreKnownOfEachKind() {
        StrokeSeek x = Check.read("s0 0p;s1 1p;h0 60;h0 59;");
        x.strikes(0);
        for (int k = 1; k <= 8; k++) {
            x.hears(1, k);
        }
        x.sets(1, 4);
        due("ten are known", x.count(5), 10);
        x.strikes(8);
        due("still ten", x.count(5), 10);
        due("undo strikes", x.undo(), 9);
        due("the ninth again", x.reading(8, 1), 8);
        due("undo sets", x.undo(), 8);
        due("the clock again", x.station(1, 2), 0);
        for (int k = 8; k >= 1; k--) {
            due("undo hears " + k, x.undo(), k - 1);
            due("left without " + k, x.count(1), k);
        }
        due("the first strikes is lost", x.undo(), StrokeSeek.STATE);
        due("so it is not back", x.reading(0, 1), 59);
    }

    private static void knownGoesRound() {
        StrokeSeek x = Check.read("s0 0p;");
        for (int k = 0; k < 7; k++) {
            x.hears(0, k);
        }
        for (int k = 6; k >= 4; k--) {
            due("undo " + k, x.undo(), k);
        }
        for (int i = 1; i <= 9; i++) {
            x.sets(0, i % 5);
            due("known with " + i, x.count(5), Math.min(10, 4 + i));
        }
        for (int i = 8; i >= 0; i--) {
            due("undo to " + i, x.undo(), i + 1);
            due("clock at " + i, x.station(0, 2), i % 5);
            due("readings at " + i, x.count(1), 4);
        }
        due("undo the fourth", x.undo(), 0);
        due("three are left", x.count(1), 3);
        due("the third is lost", x.undo(), StrokeSeek.STATE);
        due("three are still left", x.count(1), 3);
    }

    private static void onlyChangesAreUndone() {
        StrokeSeek x = Check.read("s0 0p;h0 5;");
        x.hears(0, 6);
        x.type('x');
        x.clear();
        x.keep(0);
        x.type('y');
        x.group(0, 4);
        due("one is known", x.count(5), 1);
        due("undo", x.undo(), 0);
        due("the text is as it was", x.count(4), 1);
        due("an undo is not undone", x.undo(), StrokeSeek.STATE);
        due("the image is as it was", x.back(0), 2);
    }
}
