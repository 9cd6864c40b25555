/**
 * Locates strokes from what stations with clocks of several kinds told of them.
 * Every row is made in the constructor and used again: no later call makes an object.
 */
public final class StrokeSeek {
    public static final int BAD = -1, STATE = -2, FULL = -3, NONE = -9;
    public static final int NO = -1000000000;

    private static final int MOST_STATIONS = 6;
    private static final int MOST_READINGS = 9;
    private static final int MOST_LETTERS = 110;
    private static final int MOST_LETTER = 255;
    private static final int MOST_PLACE = 29;
    private static final int MOST_TIME = 60;
    private static final int MOST_UNDONE = 10;
    private static final int MOST_WORST = 999999999;
    private static final int MOST_ROOT = 41; // the field's diagonal is shorter than 42
    private static final int SETS = 1 << MOST_READINGS;
    private static final int IMAGES = 2;
    private static final int TENTHS = 10;

    private static final int PLAIN = 0;
    private static final int LATE = 1;
    private static final int EARLY = 2;
    private static final int DOUBLE = 3;
    private static final int CLOCK_BACK = 4;
    private static final int SHIFT = 3;

    private static final int SURE = 0;
    private static final int OPEN = 1;
    private static final int AGAINST = 2;

    private static final int NO_FAULT = -1;

    private final Text text = new Text();
    private final Parser parser = new Parser();
    private final Site site = new Site();
    private final Log log = new Log();
    private final Past past = new Past();
    private final Log[] images = new Log[IMAGES];
    private final boolean[] kept = new boolean[IMAGES];
    private final Points points = new Points();
    private final Groups groups = new Groups();
    private final Solver solver = new Solver(points);
    private final Finder finder = new Finder(points, solver);

    public StrokeSeek() {
        for (int i = 0; i < IMAGES; i++) {
            images[i] = new Log();
        }
    }

    // ---- what is heard

    public int type(int letter) {
        if (!within(letter, MOST_LETTER)) {
            return BAD;
        }
        return text.append(letter) ? text.size : FULL;
    }

    public int clear() {
        int had = text.size;
        text.size = 0;
        return had;
    }

    public int field() {
        int fault = parser.parse(text);
        if (fault != NO_FAULT) {
            return -10 - fault;
        }
        site.copy(parser.site);
        log.copy(parser.log);
        past.size = 0;
        for (int i = 0; i < IMAGES; i++) {
            kept[i] = false;
        }
        text.size = 0;
        return parser.items;
    }

    public int station(int s, int what) {
        if (!hasStation(s) || !within(what, 2)) {
            return BAD;
        }
        switch (what) {
            case 0:
                return site.x[s];
            case 1:
                return site.y[s];
            default:
                return log.clock[s];
        }
    }

    public int reading(int k, int what) {
        if (!hasReading(k) || !within(what, 3)) {
            return NO;
        }
        switch (what) {
            case 0:
                return log.by[k];
            case 1:
                return log.told[k];
            case 2:
                return timeOf(log.clock[log.by[k]], log.told[k]);
            default:
                regroup();
                return groups.of[k];
        }
    }

    public int hears(int station, int told) {
        if (!hasStation(station) || !within(told, MOST_TIME)) {
            return BAD;
        }
        if (log.size >= MOST_READINGS) {
            return FULL;
        }
        past.push(log);
        log.append(station, told);
        return log.size - 1;
    }

    public int strikes(int k) {
        if (!hasReading(k)) {
            return BAD;
        }
        past.push(log);
        log.remove(k);
        return log.size;
    }

    public int sets(int station, int clock) {
        if (!hasStation(station) || !within(clock, CLOCK_BACK)) {
            return BAD;
        }
        int was = log.clock[station];
        if (was == clock) {
            return STATE;
        }
        past.push(log);
        log.clock[station] = clock;
        return was;
    }

    public int undo() {
        if (past.size <= 0) {
            return STATE;
        }
        past.pop(log);
        return past.size;
    }

    // ---- groups

    public int group(int g, int what) {
        regroup();
        if (!within(g, groups.size - 1) || !within(what, 7)) {
            return BAD;
        }
        int set = groups.sets[g];
        switch (what) {
            case 0:
                return set;
            case 1:
                solver.solve(set);
                return solver.rank;
            case 2:
                return solver.judge(set);
            case 3:
                return finder.leastOut(set);
            case 4:
                finder.seekFour(set);
                return finder.four;
            case 5:
                finder.seekFour(set);
                return finder.worst;
            case 6:
                finder.seekPlaces(set);
                return finder.places;
            default:
                finder.seekPlaces(set);
                return finder.firstPlace;
        }
    }

    public int place(int g, int what) {
        regroup();
        if (!within(g, groups.size - 1) || !within(what, 5)) {
            return NO;
        }
        if (solver.judge(groups.sets[g]) != SURE) {
            return NO;
        }
        switch (what) {
            case 0:
                return upper(solver.x, solver.lower);
            case 1:
                return lower(solver.x, solver.lower);
            case 2:
                return upper(solver.y, solver.lower);
            case 3:
                return lower(solver.y, solver.lower);
            case 4:
                return upper(solver.t, solver.lower);
            default:
                return lower(solver.t, solver.lower);
        }
    }

    public int verdict(int set) {
        if (set < 1 || set >= (1 << log.size)) {
            return BAD;
        }
        points.take(site, log);
        return solver.judge(set);
    }

    public int due(int station, int x, int y, int t, int what) {
        if (!hasStation(station) || !within(x, MOST_PLACE) || !within(y, MOST_PLACE)) {
            return BAD;
        }
        if (!within(t, MOST_TIME) || !within(what, 1)) {
            return BAD;
        }
        int way = wholeWay(x - site.x[station], y - site.y[station]);
        if (way < 0) {
            return NONE;
        }
        if (what == 0) {
            return t + way;
        }
        int told = toldAt(log.clock[station], t + way);
        return within(told, MOST_TIME) ? told : NONE;
    }

    public int odds(int g, int x, int what) {
        regroup();
        if (!within(g, groups.size - 1) || !within(x, TENTHS) || !within(what, 1)) {
            return BAD;
        }
        int set = groups.sets[g];
        long all = power(TENTHS, Integer.bitCount(set));
        long sure = finder.sureCases(set, x);
        return what == 0 ? upper(sure, all) : lower(sure, all);
    }

    // ---- images

    public int keep(int image) {
        if (!within(image, IMAGES - 1)) {
            return BAD;
        }
        images[image].copy(log);
        kept[image] = true;
        return log.size;
    }

    public int back(int image) {
        if (!within(image, IMAGES - 1)) {
            return BAD;
        }
        if (!kept[image]) {
            return STATE;
        }
        log.copy(images[image]);
        past.size = 0;
        return log.size;
    }

    public int count(int what) {
        switch (what) {
            case 0:
                return site.size;
            case 1:
                return log.size;
            case 2:
                regroup();
                return groups.size;
            case 3:
                return sureGroups();
            case 4:
                return text.size;
            case 5:
                return past.size;
            default:
                return BAD;
        }
    }

    private void regroup() {
        points.take(site, log);
        groups.make(points);
    }

    private int sureGroups() {
        regroup();
        int sure = 0;
        for (int g = 0; g < groups.size; g++) {
            if (solver.judge(groups.sets[g]) == SURE) {
                sure++;
            }
        }
        return sure;
    }

    private boolean hasStation(int s) {
        return within(s, site.size - 1);
    }

    private boolean hasReading(int k) {
        return within(k, log.size - 1);
    }

    private static boolean within(int number, int most) {
        return number >= 0 && number <= most;
    }

    private static boolean holds(int set, int k) {
        return (set >> k & 1) != 0;
    }

    private static int timeOf(int clock, int told) {
        switch (clock) {
            case LATE:
                return told - SHIFT;
            case EARLY:
                return told + SHIFT;
            case DOUBLE:
                return told / 2;
            case CLOCK_BACK:
                return MOST_TIME - told;
            default:
                return told;
        }
    }

    private static int toldAt(int clock, int time) {
        switch (clock) {
            case LATE:
                return time + SHIFT;
            case EARLY:
                return time - SHIFT;
            case DOUBLE:
                return 2 * time;
            case CLOCK_BACK:
                return MOST_TIME - time;
            default:
                return time;
        }
    }

    /** How far it is from where the parts are that far apart, or -1 where that is no whole number. */
    private static int wholeWay(int apartX, int apartY) {
        int square = apartX * apartX + apartY * apartY;
        for (int root = 0; root <= MOST_ROOT; root++) {
            if (root * root >= square) {
                return root * root == square ? root : -1;
            }
        }
        return -1;
    }

    private static long power(int base, int exponent) {
        long result = 1;
        for (int i = 0; i < exponent; i++) {
            result *= base;
        }
        return result;
    }

    private static long commonDivisor(long a, long b) {
        long high = Math.abs(a);
        long low = Math.abs(b);
        // Euclid's steps for two longs are fewer than 100
        for (int i = 0; i < 100 && low != 0; i++) {
            long rest = high % low;
            high = low;
            low = rest;
        }
        return high;
    }

    private static int upper(long up, long down) {
        long divisor = commonDivisor(up, down);
        return divisor == 0 ? 0 : (int) (up / divisor);
    }

    private static int lower(long up, long down) {
        long divisor = commonDivisor(up, down);
        return divisor == 0 ? 1 : (int) (down / divisor);
    }

    /** The text, told letter by letter. */
    private static final class Text {
        final int[] letters = new int[MOST_LETTERS];
        int size;

        boolean append(int letter) {
            if (size >= MOST_LETTERS) {
                return false;
            }
            letters[size] = letter;
            size++;
            return true;
        }
    }

    /** Where the stations are. */
    private static final class Site {
        final int[] x = new int[MOST_STATIONS];
        final int[] y = new int[MOST_STATIONS];
        int size;

        void copy(Site from) {
            System.arraycopy(from.x, 0, x, 0, MOST_STATIONS);
            System.arraycopy(from.y, 0, y, 0, MOST_STATIONS);
            size = from.size;
        }

        void append(int newX, int newY) {
            if (size < MOST_STATIONS) {
                x[size] = newX;
                y[size] = newY;
                size++;
            }
        }
    }

    /** What an image keeps and an undo brings back: readings and clocks. */
    private static final class Log {
        final int[] by = new int[MOST_READINGS];
        final int[] told = new int[MOST_READINGS];
        final int[] clock = new int[MOST_STATIONS];
        int size;

        void copy(Log from) {
            System.arraycopy(from.by, 0, by, 0, MOST_READINGS);
            System.arraycopy(from.told, 0, told, 0, MOST_READINGS);
            System.arraycopy(from.clock, 0, clock, 0, MOST_STATIONS);
            size = from.size;
        }

        void append(int station, int newTold) {
            if (size < MOST_READINGS) {
                by[size] = station;
                told[size] = newTold;
                size++;
            }
        }

        void remove(int k) {
            for (int i = k; i < size - 1; i++) {
                by[i] = by[i + 1];
                told[i] = told[i + 1];
            }
            size--;
        }
    }

    /** The readings as points in place and time, taken anew by each call that looks at them. */
    private static final class Points {
        final int[] by = new int[MOST_READINGS];
        final int[] x = new int[MOST_READINGS];
        final int[] y = new int[MOST_READINGS];
        final int[] t = new int[MOST_READINGS];
        int size;

        void take(Site site, Log log) {
            size = log.size;
            for (int k = 0; k < size; k++) {
                int s = log.by[k];
                by[k] = s;
                x[k] = site.x[s];
                y[k] = site.y[s];
                t[k] = timeOf(log.clock[s], log.told[k]);
            }
        }
    }

    /** What was before the latest changes, in a ring, so that the oldest is lost by itself. */
    private static final class Past {
        private final Log[] ring = new Log[MOST_UNDONE];
        private int next;
        int size;

        Past() {
            for (int i = 0; i < MOST_UNDONE; i++) {
                ring[i] = new Log();
            }
        }

        void push(Log log) {
            ring[next].copy(log);
            next = (next + 1) % MOST_UNDONE;
            size = Math.min(size + 1, MOST_UNDONE);
        }

        void pop(Log into) {
            next = (next + MOST_UNDONE - 1) % MOST_UNDONE;
            into.copy(ring[next]);
            size--;
        }
    }

    /** Reads a text into a site and a log of its own, so that a fault leaves the others as they are. */
    private static final class Parser {
        private static final int END = 0;
        private static final int LETTER = 1;
        private static final int NUMBER = 2;
        private static final int SEMICOLON = 3;
        private static final int WRONG = 4;

        final Site site = new Site();
        final Log log = new Log();
        int items;
        private int at;
        private int start;
        private int kind;
        private int value;

        /** The fault's place, or NO_FAULT. */
        int parse(Text text) {
            site.size = 0;
            log.size = 0;
            items = 0;
            at = 0;
            // an item has a letter at least, so there are no more items than letters
            for (int i = 0; i <= MOST_LETTERS; i++) {
                advance(text);
                if (kind == END) {
                    return NO_FAULT;
                }
                boolean station = kind == LETTER && value == 's';
                boolean reading = kind == LETTER && value == 'h';
                if (!(station && takeStation(text)) && !(reading && takeReading(text))) {
                    return start;
                }
                items++;
            }
            return start;
        }

        private boolean takeStation(Text text) {
            if (site.size >= MOST_STATIONS || !takeNumber(text, MOST_PLACE)) {
                return false;
            }
            int x = value;
            if (!takeNumber(text, MOST_PLACE)) {
                return false;
            }
            int y = value;
            advance(text);
            int clock = kind == LETTER ? clockOf(value) : -1;
            if (clock < 0 || !takeSemicolon(text)) {
                return false;
            }
            log.clock[site.size] = clock;
            site.append(x, y);
            return true;
        }

        private boolean takeReading(Text text) {
            if (log.size >= MOST_READINGS || !takeNumber(text, site.size - 1)) {
                return false;
            }
            int station = value;
            if (!takeNumber(text, MOST_TIME)) {
                return false;
            }
            int told = value;
            if (!takeSemicolon(text)) {
                return false;
            }
            log.append(station, told);
            return true;
        }

        private boolean takeNumber(Text text, int most) {
            advance(text);
            return kind == NUMBER && value <= most;
        }

        private boolean takeSemicolon(Text text) {
            advance(text);
            return kind == SEMICOLON;
        }

        private static int clockOf(int letter) {
            switch (letter) {
                case 'p':
                    return PLAIN;
                case 'l':
                    return LATE;
                case 'e':
                    return EARLY;
                case 'd':
                    return DOUBLE;
                case 'b':
                    return CLOCK_BACK;
                default:
                    return -1;
            }
        }

        /** Goes to the next token; the end's place is the text's length. */
        private void advance(Text text) {
            while (at < text.size && text.letters[at] == ' ') {
                at++;
            }
            start = at;
            if (at >= text.size) {
                kind = END;
                return;
            }
            value = text.letters[at];
            if (isDigit(value)) {
                advanceOverNumber(text);
                return;
            }
            at++;
            if (value >= 'a' && value <= 'z') {
                kind = LETTER;
            } else {
                kind = value == ';' ? SEMICOLON : WRONG;
            }
        }

        private void advanceOverNumber(Text text) {
            boolean zeroAhead = text.letters[start] == '0';
            value = 0;
            while (at < text.size && isDigit(text.letters[at])) {
                // held at 100, since any number above 99 is wrong alike
                value = Math.min(100, 10 * value + text.letters[at] - '0');
                at++;
            }
            boolean wrong = value > 99 || zeroAhead && at - start > 1;
            kind = wrong ? WRONG : NUMBER;
        }

        private static boolean isDigit(int letter) {
            return letter >= '0' && letter <= '9';
        }
    }

    /** Puts readings into groups that can be of one stroke. */
    private static final class Groups {
        final int[] sets = new int[MOST_READINGS];
        final int[] of = new int[MOST_READINGS];
        int size;
        private final int[] order = new int[MOST_READINGS];

        void make(Points points) {
            sort(points);
            size = 0;
            for (int i = 0; i < points.size; i++) {
                int k = order[i];
                int g = firstFitting(points, k);
                if (g == size) {
                    sets[g] = 0;
                    size++;
                }
                sets[g] |= 1 << k;
                of[k] = g;
            }
        }

        private void sort(Points points) {
            for (int k = 0; k < points.size; k++) {
                int i = k;
                while (i > 0 && isBefore(points, k, order[i - 1])) {
                    order[i] = order[i - 1];
                    i--;
                }
                order[i] = k;
            }
        }

        /** Never of two that are alike in both: the insertion then leaves them by their numbers. */
        private static boolean isBefore(Points points, int a, int b) {
            int apart = points.t[a] - points.t[b];
            return apart < 0 || apart == 0 && points.by[a] < points.by[b];
        }

        private int firstFitting(Points points, int k) {
            for (int g = 0; g < size; g++) {
                if (fits(points, g, k)) {
                    return g;
                }
            }
            return size;
        }

        private boolean fits(Points points, int g, int k) {
            for (int j = 0; j < points.size; j++) {
                if (holds(sets[g], j) && !goTogether(points, j, k)) {
                    return false;
                }
            }
            return true;
        }

        private static boolean goTogether(Points points, int a, int b) {
            if (points.by[a] == points.by[b]) {
                return false;
            }
            int apart = points.t[a] - points.t[b];
            int apartX = points.x[a] - points.x[b];
            int apartY = points.y[a] - points.y[b];
            return apart * apart <= apartX * apartX + apartY * apartY;
        }
    }

    /**
     * Solves the equations of a set of readings in whole numbers. All that arises is a minor of the
     * equations' numbers (Bareiss), so products of two of them stay far within a long.
     */
    private static final class Solver {
        private static final int UNKNOWNS = 3;

        private final Points points;
        private final long[][] rows = new long[MOST_READINGS][UNKNOWNS + 1];
        private int size;
        int rank;
        // where rank is 3: the stroke is at x / lower, y / lower, t / lower, and lower is above 0
        long x;
        long y;
        long t;
        long lower;

        Solver(Points points) {
            this.points = points;
        }

        int judge(int set) {
            solve(set);
            if (!agree()) {
                return AGAINST;
            }
            if (rank < UNKNOWNS) {
                return OPEN;
            }
            int first = firstOf(set);
            boolean ahead = t <= points.t[first] * lower;
            return ahead && miss(first) == 0 ? SURE : AGAINST;
        }

        void solve(int set) {
            load(set);
            eliminate();
            if (rank == UNKNOWNS) {
                long sign = rows[2][2] < 0 ? -1 : 1;
                x = sign * rows[0][UNKNOWNS];
                y = sign * rows[1][UNKNOWNS];
                t = sign * rows[2][UNKNOWNS];
                lower = sign * rows[2][2];
            }
        }

        /** How much, times lower squared, the way's square is above that of the time it took. */
        long miss(int k) {
            long apartX = x - points.x[k] * lower;
            long apartY = y - points.y[k] * lower;
            long took = points.t[k] * lower - t;
            return apartX * apartX + apartY * apartY - took * took;
        }

        private void load(int set) {
            int first = firstOf(set);
            size = 0;
            for (int k = first + 1; k < points.size; k++) {
                if (holds(set, k)) {
                    loadEquation(rows[size], first, k);
                    size++;
                }
            }
        }

        private int firstOf(int set) {
            for (int k = 0; k < points.size; k++) {
                if (holds(set, k)) {
                    return k;
                }
            }
            return points.size;
        }

        private void loadEquation(long[] row, int a, int b) {
            row[0] = 2 * (points.x[b] - points.x[a]);
            row[1] = 2 * (points.y[b] - points.y[a]);
            row[2] = -2 * (points.t[b] - points.t[a]);
            row[3] = squares(b) - squares(a);
        }

        private int squares(int k) {
            return points.x[k] * points.x[k] + points.y[k] * points.y[k] - points.t[k] * points.t[k];
        }

        /** Behind it each of the first rows has one unknown alone, all with the same number. */
        private void eliminate() {
            rank = 0;
            long last = 1;
            for (int column = 0; column < UNKNOWNS; column++) {
                int pivot = pivotOf(column);
                if (pivot >= 0) {
                    swap(rank, pivot);
                    for (int r = 0; r < size; r++) {
                        if (r != rank) {
                            reduce(rows[r], rows[rank], column, last);
                        }
                    }
                    last = rows[rank][column];
                    rank++;
                }
            }
        }

        private int pivotOf(int column) {
            for (int r = rank; r < size; r++) {
                if (rows[r][column] != 0) {
                    return r;
                }
            }
            return -1;
        }

        private void swap(int a, int b) {
            for (int j = 0; j <= UNKNOWNS; j++) {
                long was = rows[a][j];
                rows[a][j] = rows[b][j];
                rows[b][j] = was;
            }
        }

        /** The division by the pivot ahead leaves no rest. */
        private static void reduce(long[] row, long[] by, int column, long last) {
            if (last == 0) {
                return;
            }
            long own = row[column];
            long lead = by[column];
            for (int j = 0; j <= UNKNOWNS; j++) {
                row[j] = (lead * row[j] - own * by[j]) / last;
            }
        }

        private boolean agree() {
            for (int r = rank; r < size; r++) {
                if (rows[r][UNKNOWNS] != 0) {
                    return false;
                }
            }
            return true;
        }
    }

    /** Looks through sets of a group's readings, and through places. */
    private static final class Finder {
        private static final int MOST_OUT = 2;
        private static final int FEWEST_SURE = 4; // fewer than four readings have no rank 3

        private final Points points;
        private final Solver solver;
        int four;
        int worst;
        int places;
        int firstPlace;

        Finder(Points points, Solver solver) {
            this.points = points;
            this.solver = solver;
        }

        int leastOut(int group) {
            for (int many = 0; many <= MOST_OUT; many++) {
                for (int set = 0; set < SETS; set++) {
                    if (isPart(set, group, many) && solver.judge(group & ~set) == SURE) {
                        return set;
                    }
                }
            }
            return NONE;
        }

        private static boolean isPart(int set, int group, int many) {
            return (set & ~group) == 0 && Integer.bitCount(set) == many;
        }

        void seekFour(int group) {
            four = NONE;
            worst = NONE;
            for (int set = 0; set < SETS; set++) {
                if (isPart(set, group, FEWEST_SURE)) {
                    solver.solve(set);
                    if (solver.rank == Solver.UNKNOWNS) {
                        offerFour(set, worstOf(group));
                    }
                }
            }
        }

        private void offerFour(int set, int itsWorst) {
            if (four == NONE || itsWorst < worst) {
                four = set;
                worst = itsWorst;
            }
        }

        private int worstOf(int group) {
            long most = 0;
            for (int k = 0; k < points.size; k++) {
                if (holds(group, k)) {
                    most = Math.max(most, Math.abs(solver.miss(k)));
                }
            }
            long square = solver.lower * solver.lower;
            return square == 0 ? 0 : (int) Math.min(most / square, MOST_WORST);
        }

        void seekPlaces(int group) {
            places = 0;
            firstPlace = NONE;
            for (int x = 0; x <= MOST_PLACE; x++) {
                for (int y = 0; y <= MOST_PLACE; y++) {
                    int t = strokeTime(group, x, y);
                    if (within(t, MOST_TIME)) {
                        if (places == 0) {
                            firstPlace = 10000 * x + 100 * y + t;
                        }
                        places++;
                    }
                }
            }
        }

        /** The one time by which a stroke there is due at each reading's time, else -1. */
        private int strokeTime(int group, int x, int y) {
            int t = -1;
            for (int k = 0; k < points.size; k++) {
                if (holds(group, k)) {
                    int way = wholeWay(x - points.x[k], y - points.y[k]);
                    int its = points.t[k] - way;
                    if (way < 0 || its < 0 || t >= 0 && its != t) {
                        return -1;
                    }
                    t = its;
                }
            }
            return t;
        }

        /** Of the cases in which readings are lost by tenths, those where the rest is sure. */
        long sureCases(int group, int tenths) {
            int size = Integer.bitCount(group);
            long cases = 0;
            for (int set = 0; set < SETS; set++) {
                int left = Integer.bitCount(set);
                if (left >= FEWEST_SURE && (set & ~group) == 0 && solver.judge(set) == SURE) {
                    cases += power(TENTHS - tenths, left) * power(tenths, size - left);
                }
            }
            return cases;
        }
    }
}
