/** Section 3 of the document's terms, sentence by sentence: places, OUT, FOUR, DUE, CAN, ODDS, IMAGES. */
public final class FoundEdgesTest {
    private static final Check CHECK = new Check("FoundEdgesTest");
    private static final int NONE = StrokeSeek.NONE;
    /** Ways of whole numbers from 10, 10: none, 10, 7, 9, 13 and 5. */
    private static final String SIX = "s10 10p;s16 18p;s10 3p;s1 10p;s22 5p;s13 14p;";
    /** Ways of whole numbers from 10, 10: none, 10, 7, 9, 13 and 13; any four of them have rank 3. */
    private static final String WIDE = "s10 10p;s16 18p;s10 3p;s1 10p;s22 5p;s15 22p;";
    private static final String CLOCKS = "pledb";

    public static void main(String[] args) {
        placeInLeastTerms();
        placeOutsideTheField();
        placeOnlyWhereSure();
        outOfNone();
        outOfOne();
        outOfTwo();
        outOfMoreIsNone();
        outOfSeveralTheLeast();
        outTheFewestFirst();
        outOfAnotherGroup();
        fourOfFewerIsNone();
        fourWithoutRank3IsNone();
        fourByWhichTheWorstIsLeast();
        fourOfSeveralTheLeast();
        worstAtMost999999999();
        dueEverywhere();
        canOfOne();
        canTimesFrom0To60();
        canOfTwo();
        canInsideTheField();
        canOfNone();
        canByTimeNotByTold();
        oddsFrom0To10();
        oddsOfWhatIsLeft();
        oddsOfOpen();
        imagesKeepReadingsAndClocks();
        imagesApart();
        nothingUndoneBehindBack();
        readAnew();
        asThingsAreNow();
        eachAskedByItself();
        CHECK.close();
    }

    private static void due(String call, long got, long want) {
        CHECK.due(call, got, want);
    }

    private static void placeDue(String text, int... want) {
        StrokeSeek x = Check.read(text);
        due("verdict of " + text, x.group(0, 2), 0);
        for (int what = 0; what < 6; what++) {
            due("place " + what + " of " + text, x.place(0, what), want[what]);
        }
    }

    // "PLACE of a GROUP that is SURE: x, y, t as fractions, each in least terms."

    private static void placeInLeastTerms() {
        placeDue(SIX + "h0 5;h1 15;h2 12;h3 14;", 10, 1, 10, 1, 5, 1);
        placeDue("s5 14p;s6 18p;s11 16p;s0 0p;h0 3;h1 7;h2 9;h3 13;", 7, 2, 12, 1, 1, 2);
        // the same a step of LATE earlier: t is below 0, its lower number is not
        placeDue("s5 14l;s6 18l;s11 16l;s0 0l;h0 5;h1 9;h2 11;h3 15;", 7, 2, 12, 1, -1, 2);
        // 0 is 0 / 1
        placeDue("s0 0p;s3 4p;s0 7p;s12 5p;h0 0;h1 5;h2 7;h3 13;", 0, 1, 0, 1, 0, 1);
    }

    /** A stroke may be where no station could stand. */
    private static void placeOutsideTheField() {
        placeDue("s0 3p;s8 5p;s1 12p;s11 8p;h0 7;h1 15;h2 15;h3 19;", -4, 1, 0, 1, 2, 1);
        placeDue("s29 3p;s21 5p;s28 12p;s18 8p;h0 7;h1 15;h2 15;h3 19;", 33, 1, 0, 1, 2, 1);
        placeDue("s3 0p;s5 8p;s12 1p;s8 11p;h0 7;h1 15;h2 15;h3 19;", 0, 1, -4, 1, 2, 1);
        placeDue("s3 0l;s5 8l;s12 1l;s8 11l;h0 7;h1 15;h2 15;h3 19;", 0, 1, -4, 1, -1, 1);
        due("it can not be there", Check.read("s0 3p;s8 5p;s1 12p;s11 8p;h0 7;h1 15;h2 15;h3 19;").group(0, 6), 0);
    }

    private static void placeOnlyWhereSure() {
        StrokeSeek x = Check.read(SIX + "h0 5;h1 15;h2 12;h0 45;h1 55;h2 52;h3 54;");
        for (int what = 0; what < 6; what++) {
            due("place of an open group", x.place(0, what), StrokeSeek.NO);
        }
        due("place of the sure one", x.place(1, 4), 45);
        due("place what -1", x.place(1, -1), StrokeSeek.NO);
        due("place what 6", x.place(1, 6), StrokeSeek.NO);
        due("place of no group", x.place(2, 0), StrokeSeek.NO);
        due("place of group -1", x.place(-1, 0), StrokeSeek.NO);
    }

    // "OUT of a GROUP: the fewest READINGS of it (0, 1 or 2) without which all others are SURE; of several such
    // sets the one that is the least number (bits); NONE."

    private static void outDue(String text, int group, int want) {
        StrokeSeek x = Check.read(text);
        due("group of " + text, x.group(0, 0), group);
        due("out of " + text, x.group(0, 3), want);
        if (want >= 0) {
            due("the others of " + text, x.verdict(group - want), 0);
        }
    }

    private static void outOfNone() {
        outDue(SIX + "h0 5;h1 15;h2 12;h3 14;", 15, 0);
        outDue(SIX + "h0 5;h1 15;h2 12;h3 14;h4 18;h5 10;", 63, 0);
    }

    private static void outOfOne() {
        outDue(SIX + "h0 6;h1 15;h2 12;h3 14;h4 18;h5 10;", 63, 1);
        outDue(SIX + "h0 5;h1 15;h2 12;h3 14;h4 17;", 31, 16);
        outDue(SIX + "h4 17;h0 5;h1 15;h2 12;h3 14;", 31, 1);
    }

    private static void outOfTwo() {
        outDue(WIDE + "h0 5;h1 15;h2 12;h3 14;h4 18;h5 18;", 63, 0);
        outDue(WIDE + "h0 5;h1 15;h2 12;h3 14;h4 17;h5 17;", 63, 48);
        outDue(WIDE + "h5 17;h0 5;h1 15;h2 12;h3 14;h4 17;", 63, 33);
    }

    private static void outOfMoreIsNone() {
        outDue(WIDE + "h0 5;h1 15;h2 12;h3 13;h4 17;h5 17;", 63, NONE);
        // fewer than four others are never sure, and a group of which all were out has none
        outDue("s10 10p;h0 5;", 1, NONE);
        outDue("s10 10p;s16 18p;h0 5;h1 15;", 3, NONE);
        outDue("s10 10p;s16 18p;s10 3p;h0 5;h1 15;h2 12;", 7, NONE);
        outDue("s0 0p;s10 0p;s0 10p;s10 10p;h0 5;h1 5;h2 5;h3 6;", 15, NONE);
    }

    private static void outOfSeveralTheLeast() {
        // without 1 or without 3
        String ones = "s26 8p;s6 26p;s26 2p;s13 5p;s27 5p;h0 19;h1 45;h2 19;h3 31;h4 17;";
        outDue(ones, 31, 2);
        due("the other one", Check.read(ones).verdict(31 - 8), 0);
        // without 1 and 2, or without 3 and 5
        String twos = "s25 13p;s10 7p;s0 7p;s28 3p;s25 1p;s25 0p;h0 12;h1 23;h2 33;h3 11;h4 12;h5 13;";
        outDue(twos, 63, 6);
        due("the other two", Check.read(twos).verdict(63 - 40), 0);
    }

    private static void outTheFewestFirst() {
        // without 5 alone, but also without 0 and 4, which are a lesser number
        String text = "s14 24p;s26 6p;s14 0p;s2 6p;s9 1p;s14 13p;h0 28;h1 18;h2 6;h3 18;h4 10;h5 19;";
        outDue(text, 63, 32);
        due("the lesser number", Check.read(text).verdict(63 - 17), 0);
        // sure, and so without any one of them: none is fewest
        String sure = "s12 1p;s28 9p;s28 8p;s28 29p;s4 3p;h0 22;h1 6;h2 7;h3 18;h4 28;";
        outDue(sure, 31, 0);
        due("without one too", Check.read(sure).verdict(30), 0);
    }

    private static void outOfAnotherGroup() {
        // readings 0 and 1 are of the later group
        StrokeSeek x = Check.read(SIX + "h0 60;h2 60;h4 17;h0 5;h1 15;h2 12;h3 14;");
        due("the earlier group", x.group(0, 0), 31 << 2);
        due("its out", x.group(0, 3), 4);
        due("its four", x.group(0, 4), 23 << 2);
        due("the later group", x.group(1, 0), 3);
        due("its out", x.group(1, 3), NONE);
    }

    // "FOUR of a GROUP: of all fours of its READINGS with RANK 3 that by which the WORST is least, of several
    // the least number (bits); .. NONE (fewer than four, none has RANK 3)."

    private static void fourDue(String text, int group, int four, int worst) {
        StrokeSeek x = Check.read(text);
        due("group of " + text, x.group(0, 0), group);
        due("four of " + text, x.group(0, 4), four);
        due("worst of " + text, x.group(0, 5), worst);
    }

    private static void fourOfFewerIsNone() {
        fourDue("s10 10p;h0 5;", 1, NONE, NONE);
        fourDue("s10 10p;s16 18p;h0 5;h1 15;", 3, NONE, NONE);
        fourDue("s10 10p;s16 18p;s10 3p;h0 5;h1 15;h2 12;", 7, NONE, NONE);
        fourDue("s10 10p;s16 18p;s10 3p;s1 10p;h0 5;h1 15;h2 12;h3 14;", 15, 15, 0);
    }

    private static void fourWithoutRank3IsNone() {
        fourDue("s0 0p;s6 0p;s12 0p;s18 0p;h0 10;h1 8;h2 10;h3 14;", 15, NONE, NONE);
        fourDue("s0 0p;s5 0p;s0 5p;s9 9p;s7 2p;h0 9;h1 9;h2 9;h3 9;h4 9;", 31, NONE, NONE);
        // only those fours with the last have rank 3: x and y are 5, and 100 - 2 t is 39;
        // 50 less the square of 25.5 is -600.25
        fourDue("s0 0p;s10 0p;s0 10p;s10 10p;s5 5p;h0 5;h1 5;h2 5;h3 5;h4 6;", 31, 23, 600);
    }

    private static void fourByWhichTheWorstIsLeast() {
        // worst by 15: 1050, by 23: 68, by 27: 53, by 29: 194, by 30: 66
        fourDue("s26 2p;s17 10p;s13 2p;s5 2p;s23 29p;h0 15;h1 22;h2 22;h3 28;h4 39;", 31, 27, 53);
        // worst by 15: 50, by 23: 387, by 27: 78, by 29: 25, by 30: 506
        fourDue("s9 12p;s22 9p;s27 0p;s27 24p;s18 12p;h0 8;h1 6;h2 13;h3 16;h4 1;", 31, 29, 25);
        // by the four that are sure (30) it is 13 squared less 12 squared, 25; by another one less
        fourDue(SIX + "h4 17;h0 5;h1 15;h2 12;h3 14;", 31, 23, 14);
    }

    private static void fourOfSeveralTheLeast() {
        fourDue(SIX + "h0 5;h1 15;h2 12;h3 14;h4 18;h5 10;", 63, 15, 0);
        // 16 by 15, 23, 27, 29 and 30
        fourDue("s13 17p;s4 13p;s7 25p;s10 29p;s1 21p;s14 24p;h0 24;h1 29;h2 24;h3 27;h4 28;h5 22;", 63, 15, 16);
        // cut to whole numbers 9.99 by 15 is no worse than 9 by 30
        fourDue("s24 10p;s20 6p;s7 13p;s18 13p;s23 13p;h0 23;h1 26;h2 32;h3 21;h4 22;", 31, 15, 9);
    }

    // "WORST: .. cut to a whole number, 999999999 at most"

    private static void worstAtMost999999999() {
        fourDue("s2 27p;s8 19p;s26 26p;s28 5p;h0 32;h1 30;h2 33;h3 27;", 15, 15, 809741477);
        fourDue("s29 25p;s18 21p;s6 28p;s0 13p;h0 38;h1 37;h2 31;h3 36;", 15, 15, 999999999);
        // two stations in one place: two fours, both of the most
        fourDue("s29 25p;s18 21p;s6 28p;s0 13p;s29 25p;h0 38;h1 37;h2 31;h3 36;h4 38;", 31, 15, 999999999);
        // each way's square is 50, the time's 1 / 4: 49 and three fourths, cut
        fourDue("s0 0p;s10 0p;s0 10p;s10 10p;h0 5;h1 5;h2 5;h3 6;", 15, 15, 49);
    }

    // "DUE of a STATION, a stroke at x, y (0 .. 29), t (0 .. 60): the TIME at which it hears that, if it is a
    // whole number; what its CLOCK tells then (0 .. 60; LATE 3 more, EARLY 3 less, DOUBLE twice, BACK 60 less);
    // NONE."

    private static void dueEverywhere() {
        for (int clock = 0; clock < 5; clock++) {
            for (int a = 0; a < 30; a++) {
                for (int b = 0; b < 30; b++) {
                    dueAllTimes(clock, a, b);
                }
            }
        }
    }

    private static void dueAllTimes(int clock, int a, int b) {
        StrokeSeek x = Check.read("s11 2" + CLOCKS.charAt(clock) + ";");
        int square = (a - 11) * (a - 11) + (b - 2) * (b - 2);
        int way = (int) Math.sqrt(square);
        for (int t = -1; t <= 61; t++) {
            int time = t + way;
            int told = new int[] {time, time + 3, time - 3, time * 2, 60 - time}[clock];
            int wantTime = way * way == square ? time : NONE;
            int wantTold = way * way == square && told >= 0 && told <= 60 ? told : NONE;
            boolean fine = t >= 0 && t <= 60;
            String name = "due of clock " + clock + " at " + a + " " + b + " " + t;
            due(name + " time", x.due(0, a, b, t, 0), fine ? wantTime : StrokeSeek.BAD);
            due(name + " told", x.due(0, a, b, t, 1), fine ? wantTold : StrokeSeek.BAD);
        }
    }

    // "CAN: of all places x, y (0 .. 29) and t (0 .. 60) in whole numbers those by which each READING of a
    // GROUP is DUE just at its TIME: how many; the first (by x, y, t): 10000 x and 100 y and t; NONE."

    /** By going through all places, of readings at X, Y with a TIME each. */
    private static void canDue(String text, int[]... readings) {
        int many = 0;
        int first = NONE;
        for (int place = 0; place < 30 * 30 * 61; place++) {
            int a = place / 61 / 30;
            int b = place / 61 % 30;
            int t = place % 61;
            boolean all = true;
            for (int[] r : readings) {
                int way = r[2] - t;
                all &= way >= 0 && (a - r[0]) * (a - r[0]) + (b - r[1]) * (b - r[1]) == way * way;
            }
            if (all) {
                first = many == 0 ? 10000 * a + 100 * b + t : first;
                many++;
            }
        }
        StrokeSeek x = Check.read(text);
        due("can of " + text, x.group(0, 6), many);
        due("can's first of " + text, x.group(0, 7), first);
    }

    private static void canOfOne() {
        for (int told = 0; told <= 60; told++) {
            canDue("s15 14p;h0 " + told + ";", new int[] {15, 14, told});
            canDue("s0 0l;h0 " + told + ";", new int[] {0, 0, told - 3});
            canDue("s29 29e;h0 " + told + ";", new int[] {29, 29, told + 3});
            canDue("s29 0d;h0 " + told + ";", new int[] {29, 0, told / 2});
            canDue("s3 27b;h0 " + told + ";", new int[] {3, 27, 60 - told});
        }
    }

    /** Each of the two is due at its time, not one of them alone: 6 and 8 apart, all times that go together. */
    private static void canOfTwo() {
        for (int one = 0; one <= 14; one++) {
            for (int other = Math.max(0, one - 10); other <= one + 10; other++) {
                int[] left = {9, 3, one};
                int[] right = {15, 11, other};
                canDue("s9 3p;s15 11p;h0 " + one + ";h1 " + other + ";", left, right);
            }
        }
    }

    private static void canTimesFrom0To60() {
        // 0, 0 at 0 and 9, 0 at 9: from 0, 0 on, at 0; a step earlier it would be at -1
        due("t is 0", Check.read("s0 0p;s9 0p;h0 0;h1 9;").group(0, 7), 0);
        due("t is -1", Check.read("s0 0l;s9 0p;h0 2;h1 8;").group(0, 7), NONE);
        // heard at 63 by both: in the middle, 3 away, at 60
        StrokeSeek last = Check.read("s0 0e;s6 0e;h0 60;h1 60;");
        due("t is 60 at most", last.group(0, 7), 30060);
        due("and 58, 5 away", last.group(0, 6), 2);
        // 2 away it would be at 61, and no other place of x 2 is a whole way off
        StrokeSeek beyond = Check.read("s0 0e;s4 0e;h0 60;h1 60;");
        due("t is not 61", beyond.group(0, 6), 0);
        due("so there is no first", beyond.group(0, 7), NONE);
    }

    private static void canInsideTheField() {
        due("in the first corner", Check.read("s0 0p;h0 0;").group(0, 7), 0);
        due("in the last corner", Check.read("s29 29p;h0 0;").group(0, 7), 292900);
        due("one step from the last corner", Check.read("s29 29p;h0 1;").group(0, 7), 282900);
        due("ways into the field alone", Check.read("s29 29p;h0 1;").group(0, 6), 3);
        due("ways to all sides", Check.read("s9 9p;h0 1;").group(0, 6), 5);
        due("the first by x", Check.read("s9 9p;h0 1;").group(0, 7), 80900);
    }

    private static void canOfNone() {
        StrokeSeek x = Check.read("s7 9l;h0 2;");
        due("at -1 none", x.group(0, 6), 0);
        due("at -1 no first", x.group(0, 7), NONE);
        StrokeSeek half = Check.read("s5 14p;s6 18p;s11 16p;s0 0p;h0 3;h1 7;h2 9;h3 13;");
        due("sure, but not in whole numbers", half.group(0, 6), 0);
        due("and no first", half.group(0, 7), NONE);
    }

    private static void canByTimeNotByTold() {
        // a DOUBLE clock that told 1 has the time 0, though it would tell 0 then
        StrokeSeek x = Check.read("s7 9d;h0 1;");
        due("at 0", x.group(0, 7), 70900);
        due("it would tell", x.due(0, 7, 9, 0, 1), 0);
    }

    // "ODDS by x (0 .. 10) of a GROUP: each READING of it is lost by x of 10, for itself: that what is left is
    // SURE"

    private static void oddsDue(StrokeSeek x, int tenths, long up, long down) {
        long divisor = java.math.BigInteger.valueOf(up).gcd(java.math.BigInteger.valueOf(down)).longValue();
        due("odds by " + tenths + ", upper", x.odds(0, tenths, 0), up / divisor);
        due("odds by " + tenths + ", lower", x.odds(0, tenths, 1), down / divisor);
    }

    private static long power(long base, int exponent) {
        return exponent == 0 ? 1 : base * power(base, exponent - 1);
    }

    private static void oddsFrom0To10() {
        for (int lost = 0; lost <= 10; lost++) {
            oddsDue(Check.read(SIX + "h0 5;h1 15;h2 12;h3 14;"), lost, power(10 - lost, 4), 10000);
        }
        StrokeSeek x = Check.read(SIX + "h0 5;h1 15;h2 12;h3 14;");
        for (int what = 0; what <= 1; what++) {
            due("odds by -1", x.odds(0, -1, what), StrokeSeek.BAD);
            due("odds by 11", x.odds(0, 11, what), StrokeSeek.BAD);
        }
        due("none is lost, upper", x.odds(0, 0, 0), 1);
        due("none is lost, lower", x.odds(0, 0, 1), 1);
        due("all are lost, upper", x.odds(0, 10, 0), 0);
        due("all are lost, lower", x.odds(0, 10, 1), 1);
    }

    private static void oddsOfWhatIsLeft() {
        // sure, and so without any one of five
        String five = "s12 1p;s28 9p;s28 8p;s28 29p;s4 3p;h0 22;h1 6;h2 7;h3 18;h4 28;";
        // sure without the last alone: 17 should be 18
        String off = SIX + "h0 5;h1 15;h2 12;h3 14;h4 17;";
        // sure as all six, without any one, and without those two of which the rest has rank 3
        String six = SIX + "h0 5;h1 15;h2 12;h3 14;h4 18;h5 10;";
        int fours = 0;
        int fives = 0;
        for (int set = 0; set < 64; set++) {
            boolean sure = set != 0 && Check.read(six).verdict(set) == 0;
            fours += sure && Integer.bitCount(set) == 4 ? 1 : 0;
            fives += sure && Integer.bitCount(set) == 5 ? 1 : 0;
        }
        due("some fours of six have no rank 3", fours > 0 && fours < 15 ? 1 : 0, 1);
        for (int lost = 0; lost <= 10; lost++) {
            long heard = 10 - lost;
            oddsDue(Check.read(five), lost, power(heard, 5) + 5 * power(heard, 4) * lost, 100000);
            oddsDue(Check.read(off), lost, power(heard, 4) * lost, 100000);
            oddsDue(Check.read(six), lost, power(heard, 6) + fives * power(heard, 5) * lost
                    + fours * power(heard, 4) * lost * lost, 1000000);
        }
    }

    private static void oddsOfOpen() {
        for (int lost = 0; lost <= 10; lost++) {
            oddsDue(Check.read("s10 10p;s16 18p;s10 3p;h0 5;h1 15;h2 12;"), lost, 0, 1);
            oddsDue(Check.read("s10 10p;h0 5;"), lost, 0, 1);
        }
    }

    // "IMAGES 0, 1 keep READINGS, CLOCKS; nothing else"

    private static void imagesKeepReadingsAndClocks() {
        StrokeSeek x = Check.read("s1 2p;s3 4l;h0 5;h1 6;h0 7;");
        x.type('s');
        due("keep", x.keep(0), 3);
        x.strikes(1);
        x.hears(1, 60);
        x.hears(0, 61 - 1);
        x.sets(0, 4);
        x.sets(1, 2);
        x.type('9');
        due("back", x.back(0), 3);
        int[] station = {0, 1, 0};
        int[] told = {5, 6, 7};
        for (int k = 0; k < 3; k++) {
            due("station of " + k, x.reading(k, 0), station[k]);
            due("told of " + k, x.reading(k, 1), told[k]);
        }
        due("no fourth", x.reading(3, 0), StrokeSeek.NO);
        due("the first clock", x.station(0, 2), 0);
        due("the second clock", x.station(1, 2), 1);
        due("the text is not kept", x.count(4), 2);
        due("nor cleared", x.clear(), 2);
        due("stations stay", x.count(0), 2);
        StrokeSeek most = Check.read("s0 0p;h0 1;h0 2;h0 3;h0 4;h0 5;h0 6;h0 7;h0 8;h0 9;");
        due("keep nine", most.keep(1), 9);
        most.strikes(0);
        due("back to nine", most.back(1), 9);
        due("full again", most.hears(0, 1), StrokeSeek.FULL);
        StrokeSeek none = Check.read("s0 0p;");
        due("keep none", none.keep(1), 0);
        none.hears(0, 1);
        due("back to none", none.back(1), 0);
        due("none left", none.count(1), 0);
    }

    private static void imagesApart() {
        StrokeSeek x = Check.read("s1 2p;h0 5;");
        due("keep 0", x.keep(0), 1);
        due("the other was not kept", x.back(1), StrokeSeek.STATE);
        x.hears(0, 6);
        due("keep 1", x.keep(1), 2);
        x.hears(0, 7);
        due("back to 0", x.back(0), 1);
        due("back to 1", x.back(1), 2);
        due("its second", x.reading(1, 1), 6);
        due("once more", x.back(1), 2);
        x.strikes(0);
        due("an image is not changed by strikes", x.back(1), 2);
        due("its first", x.reading(0, 1), 5);
        x.sets(0, 3);
        due("keep over 0", x.keep(0), 2);
        x.sets(0, 1);
        due("back to the later 0", x.back(0), 2);
        due("its clock", x.station(0, 2), 3);
        due("1 has its own", x.back(1), 2);
        due("its own clock", x.station(0, 2), 0);
    }

    // "nothing can be UNDONE behind back()"

    private static void nothingUndoneBehindBack() {
        StrokeSeek x = Check.read("s1 2p;h0 5;");
        x.hears(0, 6);
        x.hears(0, 7);
        due("keep leaves what is known", x.keep(0), 3);
        due("two are known", x.count(5), 2);
        due("undo behind keep", x.undo(), 1);
        due("back", x.back(0), 3);
        due("none is known", x.count(5), 0);
        due("nothing is undone", x.undo(), StrokeSeek.STATE);
        due("three stay", x.count(1), 3);
        x.sets(0, 2);
        due("a later change is known", x.count(5), 1);
        due("and undone", x.undo(), 0);
        due("to the image's clock", x.station(0, 2), 0);
        due("but no further", x.undo(), StrokeSeek.STATE);
        for (int i = 1; i <= 10; i++) {
            x.sets(0, i % 5);
        }
        due("back from ten", x.back(0), 3);
        due("of ten none is known", x.undo(), StrokeSeek.STATE);
    }

    // "(Read anew: as told, nothing can be UNDONE, IMAGES are gone.)"

    private static void readAnew() {
        StrokeSeek x = Check.read("s1 2l;s3 4d;h0 9;h1 8;");
        x.hears(0, 5);
        x.sets(0, 4);
        x.keep(0);
        x.keep(1);
        Check.tell(x, "s7 8b;s9 10e;s11 12p;h2 3;");
        due("items", x.field(), 4);
        due("stations", x.count(0), 3);
        due("readings", x.count(1), 1);
        due("the first clock as told", x.station(0, 2), 4);
        due("the first x as told", x.station(0, 0), 7);
        due("the last y as told", x.station(2, 1), 12);
        due("the reading as told", x.reading(0, 0), 2);
        due("none known", x.count(5), 0);
        due("nothing undone", x.undo(), StrokeSeek.STATE);
        due("image 0 is gone", x.back(0), StrokeSeek.STATE);
        due("image 1 is gone", x.back(1), StrokeSeek.STATE);
        due("the text is empty", x.count(4), 0);
        due("an image is kept anew", x.keep(1), 1);
        due("and taken", x.back(1), 1);
        due("the other one is still gone", x.back(0), StrokeSeek.STATE);
    }

    // "(As things are NOW; nothing is changed.)"

    private static void asThingsAreNow() {
        StrokeSeek x = Check.read(SIX + "h0 5;h1 15;h2 12;h3 14;h4 18;");
        nowDue(x, 0, 0, 15, 1, 1);
        x.strikes(0);
        x.hears(0, 6);
        // 4 is off now
        nowDue(x, 2, 16, 15, 0, 0);
        x.undo();
        x.undo();
        nowDue(x, 0, 0, 15, 1, 1);
        x.keep(0);
        // by an EARLY clock the third is 3 later, and can not be of the same stroke
        x.sets(2, 2);
        due("two groups now", x.count(2), 2);
        due("without the third", x.group(0, 0), 27);
        x.back(0);
        nowDue(x, 0, 0, 15, 1, 1);
    }

    private static void nowDue(StrokeSeek x, int verdict, int out, int four, int can, int odds) {
        due("verdict now", x.group(0, 2), verdict);
        due("out now", x.group(0, 3), out);
        due("four now", x.group(0, 4), four);
        due("can now", x.group(0, 6), can);
        due("odds now", x.odds(0, 0, 0), odds);
        due("sure groups now", x.count(3), verdict == 0 ? 1 : 0);
        due("place now", x.place(0, 0), verdict == 0 ? 10 : StrokeSeek.NO);
    }

    /** No answer needs another one to have been asked ahead of it. */
    private static void eachAskedByItself() {
        String text = SIX + "h4 17;h0 5;h1 15;h2 12;h3 14;h5 60;";
        int[] want = {31, 3, 2, 1, 23, 14, 0, NONE};
        int[] single = {32, 0, 1, NONE, NONE, NONE};
        for (int what = 0; what <= 7; what++) {
            due("group alone " + what, Check.read(text).group(0, what), want[what]);
            StrokeSeek x = Check.read(text);
            x.group(1, what);
            due("group behind the other " + what, x.group(0, what), want[what]);
            if (what < single.length) {
                due("the other alone " + what, Check.read(text).group(1, what), single[what]);
            }
        }
        for (int k = 0; k < 6; k++) {
            due("group of reading " + k + " alone", Check.read(text).reading(k, 3), k < 5 ? 0 : 1);
        }
        StrokeSeek y = Check.read(text);
        y.count(2);
        y.hears(3, 59);
        due("group of one just heard", y.reading(6, 3), 1);
        y.strikes(0);
        due("group of one moved up", y.reading(4, 3), 1);
        y.sets(5, 3);
        due("group behind sets", y.reading(4, 3), 1);
        due("groups alone", Check.read(text).count(2), 2);
        due("sure groups alone", Check.read(text).count(3), 0);
        due("verdict alone", Check.read(text).verdict(30), 0);
        due("odds alone", Check.read(text).odds(0, 5, 1), 32);
        due("place alone", Check.read(SIX + "h0 5;h1 15;h2 12;h3 14;").place(0, 2), 10);
    }
}
