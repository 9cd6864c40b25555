/** "What it is" and section 1 of the document's terms, sentence by sentence, at the bounds that they name. */
public final class TextEdgesTest {
    private static final Check CHECK = new Check("TextEdgesTest");
    private static final int CALLS = 512;
    private static final String CLOCKS = "pledb";

    public static void main(String[] args) {
        usedFor512Calls();
        undoneFor512Calls();
        objectsApart();
        atMostSixStations();
        xFrom0To29();
        yFrom0To29();
        clockLetters();
        atMostNineReadings();
        stationToldAhead();
        toldFrom0To60();
        timeOfEachClock();
        atMost110Letters();
        blanksBetweenTokens();
        onlyLetter32IsBlank();
        everyLetterAtEveryPlace();
        wrongNumbers();
        firstFaultOfSeveral();
        endsTooEarly();
        emptyText();
        CHECK.close();
    }

    private static void due(String call, long got, long want) {
        CHECK.due(call, got, want);
    }

    private static int fieldOf(String text) {
        StrokeSeek x = new StrokeSeek();
        Check.tell(x, text);
        return x.field();
    }

    private static void faultDue(String text, int place) {
        due("fault of '" + text + "'", fieldOf(text), -10 - place);
    }

    // "An object is used for at most 512 calls after it has been made"

    /** Two stations, a reading, and the first station's clock set anew by each call until one is left. */
    private static StrokeSeek oneCallLeft() {
        String text = "s1 2p;s4 6l;h0 9;";
        StrokeSeek x = Check.read(text);
        for (int i = 1; i < CALLS - text.length() - 1; i++) {
            x.sets(0, i % 5);
        }
        return x;
    }

    private static void usedFor512Calls() {
        // 493 times set: the clock is 493 % 5, DOUBLE
        due("512th station", oneCallLeft().station(0, 2), 3);
        due("512th reading", oneCallLeft().reading(0, 2), 4);
        due("512th type", oneCallLeft().type('s'), 1);
        due("512th clear", oneCallLeft().clear(), 0);
        due("512th field", oneCallLeft().field(), 0);
        due("512th hears", oneCallLeft().hears(1, 60), 1);
        due("512th strikes", oneCallLeft().strikes(0), 0);
        due("512th sets", oneCallLeft().sets(0, 4), 3);
        due("512th sets as it is", oneCallLeft().sets(0, 3), StrokeSeek.STATE);
        due("512th undo", oneCallLeft().undo(), 9);
        due("512th group", oneCallLeft().group(0, 0), 1);
        due("512th place", oneCallLeft().place(0, 0), StrokeSeek.NO);
        due("512th verdict", oneCallLeft().verdict(1), 1);
        due("512th due", oneCallLeft().due(0, 4, 6, 7, 1), 24);
        due("512th odds", oneCallLeft().odds(0, 5, 1), 1);
        due("512th keep", oneCallLeft().keep(1), 1);
        due("512th back", oneCallLeft().back(1), StrokeSeek.STATE);
        due("512th count", oneCallLeft().count(5), 10);
    }

    /** Heard, struck and undone by turns, so that what is known goes round and round. */
    private static void undoneFor512Calls() {
        StrokeSeek x = Check.read("s1 2p;");
        int calls = 7;
        int known = 0;
        while (calls + 4 <= CALLS) {
            due("heard at call " + calls, x.hears(0, calls % 61), 0);
            due("struck at call " + calls, x.strikes(0), 0);
            known = Math.min(10, known + 2) - 1;
            due("undone at call " + calls, x.undo(), known);
            due("told at call " + calls, x.reading(0, 1), calls % 61);
            calls += 4;
            if (calls + 1 <= CALLS) {
                x.strikes(0);
                known = Math.min(10, known + 1);
                calls++;
            }
        }
    }

    private static void objectsApart() {
        StrokeSeek x = Check.read("s1 2p;h0 3;");
        StrokeSeek y = Check.read("s4 5l;s6 7e;h1 8;h0 9;");
        x.keep(0);
        x.type('s');
        x.hears(0, 4);
        due("the other's x", y.station(0, 0), 4);
        due("the other's told", y.reading(0, 1), 8);
        due("the other's images", y.back(0), StrokeSeek.STATE);
        due("the other's letters", y.count(4), 0);
        due("the other's undo", y.undo(), StrokeSeek.STATE);
        due("the first's x", x.station(0, 0), 1);
        due("the first's readings", x.count(1), 2);
    }

    // "STATIONS 0 .. (6 at most)", "a seventh s"

    private static void atMostSixStations() {
        String six = "s1 10p;s2 11l;s3 12e;s4 13d;s5 14b;s6 15p;";
        StrokeSeek x = Check.read(six);
        due("six stations", x.count(0), 6);
        for (int s = 0; s < 6; s++) {
            due("x of " + s, x.station(s, 0), s + 1);
            due("y of " + s, x.station(s, 1), s + 10);
            due("clock of " + s, x.station(s, 2), s % 5);
        }
        due("there is no seventh", x.station(6, 0), StrokeSeek.BAD);
        due("the sixth hears", x.hears(5, 33), 0);
        due("the seventh does not", x.hears(6, 33), StrokeSeek.BAD);
        faultDue(six + "s7 16p;", six.length());
        faultDue(six + "  s7 16p;", six.length() + 2);
        faultDue(six + "h5 1;s", six.length() + 5);
        due("readings behind six", fieldOf(six + "h5 1;h0 2;"), 8);
    }

    // "each at X, Y (0 .. 29)", "a NUMBER beyond what it may be"

    private static void xFrom0To29() {
        for (int n = 0; n <= 130; n++) {
            String text = "s" + n + " 7p;";
            if (n > 29) {
                faultDue(text, 1);
            } else {
                due("x " + n, Check.read(text).station(0, 0), n);
            }
        }
    }

    private static void yFrom0To29() {
        for (int n = 0; n <= 130; n++) {
            String text = "s7 " + n + "p;";
            if (n > 29) {
                faultDue(text, 3);
            } else {
                due("y " + n, Check.read(text).station(0, 1), n);
            }
        }
    }

    // "with a CLOCK: p PLAIN (0), l LATE (1), e EARLY (2), d DOUBLE (3), b BACK (4)"

    private static void clockLetters() {
        for (char letter = 'a'; letter <= 'z'; letter++) {
            String text = "s3 4" + letter + ";";
            int clock = CLOCKS.indexOf(letter);
            if (clock < 0) {
                faultDue(text, 4);
            } else {
                due("clock " + letter, Check.read(text).station(0, 2), clock);
            }
        }
        faultDue("s3 4;", 4);
        // no number stands for a letter, not even that letter's own
        for (int n = 0; n <= 130; n++) {
            faultDue("s3 4 " + n + ";", 5);
            faultDue(n + " 3 4p;", 0);
        }
        faultDue("s3 4pp;", 5);
        faultDue("sp 3 4;", 1);
    }

    // "READINGS 0 .. (9 at most)", "a tenth h"

    private static void atMostNineReadings() {
        StringBuilder nine = new StringBuilder("s1 1p;s2 2l;");
        for (int k = 0; k < 9; k++) {
            nine.append("h").append(k % 2).append(" ").append(k + 20).append(";");
        }
        StrokeSeek x = Check.read(nine.toString());
        due("nine readings", x.count(1), 9);
        for (int k = 0; k < 9; k++) {
            due("station of reading " + k, x.reading(k, 0), k % 2);
            due("told of reading " + k, x.reading(k, 1), k + 20);
        }
        due("there is no tenth", x.reading(9, 1), StrokeSeek.NO);
        due("no tenth is heard", x.hears(0, 1), StrokeSeek.FULL);
        due("one is struck", x.strikes(8), 8);
        due("then one is heard", x.hears(0, 1), 8);
        due("but no more", x.hears(0, 1), StrokeSeek.FULL);
        faultDue(nine + "h0 1;", nine.length());
        faultDue(nine + "h", nine.length());
        faultDue(nine + " h", nine.length() + 1);
        due("a station behind nine", fieldOf(nine + "s3 3p;"), 12);
    }

    // "h S T (a READING of a STATION told ahead)"

    private static void stationToldAhead() {
        faultDue("h0 1;s1 1p;", 1);
        faultDue("h0 1;", 1);
        for (int n = 0; n <= 130; n++) {
            String text = "s1 1p;s2 2p;h" + n + " 5;s3 3p;";
            if (n > 1) {
                faultDue(text, 13);
            } else {
                due("reading of " + n, Check.read(text).reading(0, 0), n);
            }
        }
        due("told ahead by then", fieldOf("s1 1p;h0 1;s2 2p;h1 1;"), 4);
    }

    // "what its CLOCK TOLD (0 .. 60)"

    private static void toldFrom0To60() {
        for (int n = 0; n <= 130; n++) {
            String text = "s1 1b;h0 " + n + ";";
            if (n > 60) {
                faultDue(text, 9);
            } else {
                due("told by the text " + n, Check.read(text).reading(0, 1), n);
            }
        }
        for (int n = -3; n <= 130; n++) {
            StrokeSeek x = Check.read("s1 1b;");
            boolean fine = n >= 0 && n <= 60;
            due("hears " + n, x.hears(0, n), fine ? 0 : StrokeSeek.BAD);
            due("told to hears " + n, x.reading(0, 1), fine ? n : StrokeSeek.NO);
            due("readings behind hears " + n, x.count(1), fine ? 1 : 0);
        }
    }

    // "TIME of a READING: PLAIN: as TOLD; LATE: 3 less; EARLY: 3 more; DOUBLE: half of it, cut; BACK: 60 less
    // it."

    private static void timeOfEachClock() {
        for (int told = 0; told <= 60; told++) {
            StrokeSeek x = Check.read("s1 1p;s1 1l;s1 1e;s1 1d;s1 1b;");
            for (int s = 0; s < 5; s++) {
                x.hears(s, told);
            }
            due("plain " + told, x.reading(0, 2), told);
            due("late " + told, x.reading(1, 2), told - 3);
            due("early " + told, x.reading(2, 2), told + 3);
            due("double " + told, x.reading(3, 2), (told - told % 2) / 2);
            due("back " + told, x.reading(4, 2), 60 - told);
        }
    }

    // "They are a text (110 letters at most), told letter by letter"

    private static void atMost110Letters() {
        StringBuilder text = new StringBuilder("s29 29p;s28 28l;s27 27e;s26 26d;s25 25b;s24 24p;");
        for (int k = 0; k < 9; k++) {
            text.append("h").append(k % 6).append(" ").append(k + 50).append(";");
        }
        while (text.length() < 109) {
            text.append(' ');
        }
        StrokeSeek x = new StrokeSeek();
        for (int i = 0; i < 109; i++) {
            due("letter " + i, x.type(text.charAt(i)), i + 1);
        }
        due("letter 109", x.type(' '), 110);
        due("letter 110", x.type(' '), StrokeSeek.FULL);
        due("letters", x.count(4), 110);
        due("a full text is read", x.field(), 15);
        due("the last told", x.reading(8, 1), 58);
        due("room again", x.type('s'), 1);
        // its last letter counts: without it the text would end too early
        String ends = "s1 1p;" + " ".repeat(99) + "h0 7;";
        due("110 letters", ends.length(), 110);
        due("the 110th letter ends an item", fieldOf(ends), 2);
        // what is told when full is no part of it
        due("the 111th letter does not count", fieldOf(ends + "x"), 2);
        faultDue(" " + ends, 110);
        faultDue("s1 1p;" + " ".repeat(103) + "x", 109);
        faultDue("s1 1p;" + "9".repeat(104), 6);
        faultDue("s" + "1".repeat(109), 1);
        faultDue("s" + "0".repeat(109), 1);
        faultDue("s" + " ".repeat(109), 110);
    }

    // "blanks (32) between TOKENS"

    private static void blanksBetweenTokens() {
        due("as few as can be", fieldOf("s1 2p;h0 3;"), 2);
        due("between all", fieldOf("s 1 2 p ; h 0 3 ; "), 2);
        due("many", fieldOf("   s   1   2   p   ;   h   0   3   ;   "), 2);
        due("blanks alone", fieldOf(" "), 0);
        StrokeSeek x = Check.read(" s 12 3 l ; h 0 45 ; ");
        due("x among blanks", x.station(0, 0), 12);
        due("y among blanks", x.station(0, 1), 3);
        due("told among blanks", x.reading(0, 1), 45);
        // a blank parts a number in two
        faultDue("s1 2 3p;", 5);
        faultDue("s123p;", 1);
        faultDue("s12p;", 3);
        faultDue("s1 2p;h05;", 7);
        faultDue("s1 2p;h0p;", 8);
        faultDue("s1 2p;hp 5;", 7);
        faultDue("s1 2p;h0 4 5;", 11);
    }

    private static void onlyLetter32IsBlank() {
        for (int letter : new int[] {0, 9, 10, 11, 12, 13, 31, 33, 95, 127, 133, 160, 255}) {
            faultDue("s1 2p" + (char) letter + ";", 5);
            faultDue("" + (char) letter, 0);
        }
    }

    // "FAULT: the place of the first letter of the first TOKEN that can't stand there", "of any other letter ..
    // that TOKEN's"

    private static void everyLetterAtEveryPlace() {
        lettersDue("", "sh ");
        lettersDue("s1 2p;", "sh ");
        lettersDue("s", "0123456789 ");
        lettersDue("s1 ", "0123456789 ");
        lettersDue("s1 2", "0123456789pledb ");
        lettersDue("s1 2 ", "pledb ");
        lettersDue("s1 2p", "; ");
        lettersDue("s1 2p;h", "0 ");
        lettersDue("s1 2p;s1 2p;h", "01 ");
        lettersDue("s1 2p;h0 ", "0123456789 ");
        lettersDue("s1 2p;h0 5", "0123456789; ");
        lettersDue("s1 2p;h0 5 ", "; ");
        lettersDue("s1 2p;h0 5;", "sh ");
    }

    private static void lettersDue(String ahead, String fine) {
        boolean between = ahead.isEmpty() || ahead.endsWith(";");
        for (int letter = 0; letter <= 255; letter++) {
            String text = ahead + (char) letter;
            int items = text.length() - text.replace(";", "").length();
            boolean ends = letter == ' ' && between || letter == ';';
            if (fine.indexOf(letter) < 0) {
                faultDue(text, ahead.length());
            } else if (ends) {
                due("field of '" + text + "'", fieldOf(text), items);
            } else {
                faultDue(text, text.length());
            }
        }
    }

    // "a NUMBER above 99 or with a 0 ahead of others, that TOKEN's"

    private static void wrongNumbers() {
        String[] wrong = {"100", "101", "129", "999", "1000", "00", "01", "029", "000", "007", "0100", "65536",
            "2147483648", "4294967296", "4294967297", "9223372036854775808", "18446744073709551617"};
        for (String number : wrong) {
            faultDue("s " + number + " 2p;", 2);
            faultDue("s1  " + number + "p;", 4);
            faultDue("s1 2p;h " + number + " 5;", 8);
            faultDue("s1 2p;h0  " + number + ";", 10);
            // where no number can stand it is the same place
            faultDue(" " + number, 1);
            faultDue("s1 2p " + number + ";", 6);
        }
        due("a single 0 is fine", fieldOf("s0 0p;h0 0;"), 2);
        due("10 and 20 are fine", fieldOf("s10 20p;h0 30;"), 2);
        faultDue("s-1 2p;", 1);
        faultDue("s+1 2p;", 1);
        faultDue("s1.5 2p;", 2);
    }

    // "the first TOKEN that can't stand there"

    private static void firstFaultOfSeveral() {
        faultDue("s30 30p;", 1);
        faultDue("s1 30q;", 3);
        faultDue("s1 2q!", 4);
        faultDue("s1 2!q", 4);
        faultDue("s1 2p!!", 5);
        faultDue("s1 2p;x;s30 1p;", 6);
        faultDue("s1 2p;h0 61;h0 99;", 9);
        faultDue("s1 2p;h1 61;", 7);
        faultDue("s1 2p;h0 61", 9);
        faultDue("s30", 1);
        faultDue("s1 2p;;;", 6);
    }

    // "the text's length, if it ends too early"

    private static void endsTooEarly() {
        String text = "s 12 3 l ; h 0 45 ; s4 5b;h1 6;";
        for (int length = 0; length <= text.length(); length++) {
            String part = text.substring(0, length);
            String last = part.strip();
            if (last.isEmpty() || last.endsWith(";")) {
                due("field of '" + part + "'", fieldOf(part), (int) part.chars().filter(c -> c == ';').count());
            } else {
                faultDue(part, length);
                faultDue(part + "   ", length + 3);
            }
        }
    }

    private static void emptyText() {
        StrokeSeek x = Check.read("s1 2p;h0 3;");
        due("an empty text", x.field(), 0);
        due("tells no stations", x.count(0), 0);
        due("tells no readings", x.count(1), 0);
        due("and no groups", x.count(2), 0);
        due("clear of an empty text", x.clear(), 0);
    }
}
