import java.math.BigInteger;
import java.util.ArrayList;
import java.util.Arrays;
import java.util.List;

/** What the document says, in plain lists and fractions: a second program, written apart from the class. */
final class Model {
    private static final String CLOCKS = "pledb";
    static final int[] MET = new int[3];

    String text = "";
    List<Integer> xs = new ArrayList<>();
    List<Integer> ys = new ArrayList<>();
    List<Integer> clocks = new ArrayList<>();
    List<Integer> by = new ArrayList<>();
    List<Integer> told = new ArrayList<>();
    final List<List<List<Integer>>> past = new ArrayList<>();
    final List<List<List<Integer>>> images = new ArrayList<>(Arrays.asList(null, null));
    Part[] solution;
    int rank;

    int type(int letter) {
        if (letter < 0 || letter > 255) {
            return -1;
        }
        if (text.length() == 110) {
            return -3;
        }
        text += (char) letter;
        return text.length();
    }

    int clear() {
        int had = text.length();
        text = "";
        return had;
    }

    int field() {
        List<Integer> nx = new ArrayList<>();
        List<Integer> ny = new ArrayList<>();
        List<Integer> nc = new ArrayList<>();
        List<Integer> nb = new ArrayList<>();
        List<Integer> nt = new ArrayList<>();
        List<String> tokens = new ArrayList<>();
        List<Integer> places = new ArrayList<>();
        for (int i = 0; i < text.length(); ) {
            int end = i + 1;
            while (Character.isDigit(text.charAt(i)) && end < text.length() && Character.isDigit(text.charAt(end))) {
                end++;
            }
            if (text.charAt(i) != ' ') {
                tokens.add(text.substring(i, end));
                places.add(i);
            }
            i = end;
        }
        String shape = "";
        List<Integer> now = new ArrayList<>();
        int items = 0;
        for (int i = 0; i < tokens.size(); i++) {
            String token = tokens.get(i);
            boolean number = token.matches("0|[1-9][0-9]?");
            int value = number ? Integer.parseInt(token) : -1;
            boolean fine = switch (shape) {
                case "" -> token.equals("s") && nx.size() < 6 || token.equals("h") && nb.size() < 9;
                case "s", "sn" -> number && value <= 29;
                case "snn" -> token.matches("[pledb]");
                case "h" -> number && value < nx.size();
                case "hn" -> number && value <= 60;
                default -> token.equals(";");
            };
            if (!fine) {
                return -10 - places.get(i);
            }
            if (number) {
                now.add(value);
            }
            if (token.equals(";")) {
                if (shape.startsWith("s")) {
                    nx.add(now.get(0));
                    ny.add(now.get(1));
                    nc.add(CLOCKS.indexOf(shape.charAt(3)));
                } else {
                    nb.add(now.get(0));
                    nt.add(now.get(1));
                }
                items++;
                now.clear();
                shape = "";
            } else {
                shape += number ? "n" : token;
            }
        }
        if (!shape.isEmpty()) {
            return -10 - text.length();
        }
        xs = nx;
        ys = ny;
        clocks = nc;
        by = nb;
        told = nt;
        past.clear();
        images.set(0, null);
        images.set(1, null);
        text = "";
        return items;
    }

    static int sq(int a) {
        return a * a;
    }

    static int root(int square) {
        int r = (int) Math.round(Math.sqrt(square));
        return r * r == square ? r : -1;
    }

    static int told(int clock, int time) {
        return new int[] {time, time + 3, time - 3, 2 * time, 60 - time}[clock];
    }

    int time(int k) {
        int v = told.get(k);
        return new int[] {v, v - 3, v + 3, v / 2, 60 - v}[clocks.get(by.get(k))];
    }

    List<List<Integer>> snapshot() {
        return List.of(new ArrayList<>(by), new ArrayList<>(told), new ArrayList<>(clocks));
    }

    void restore(List<List<Integer>> shot) {
        by = new ArrayList<>(shot.get(0));
        told = new ArrayList<>(shot.get(1));
        clocks = new ArrayList<>(shot.get(2));
    }

    void remember() {
        past.add(snapshot());
        if (past.size() > 10) {
            past.remove(0);
        }
    }

    boolean isStation(int s) {
        return s >= 0 && s < xs.size();
    }

    int station(int s, int what) {
        if (!isStation(s) || what < 0 || what > 2) {
            return -1;
        }
        return List.of(xs, ys, clocks).get(what).get(s);
    }

    int reading(int k, int what) {
        if (k < 0 || k >= by.size() || what < 0 || what > 3) {
            return -1000000000;
        }
        int group = 0;
        for (int g = 0; g < groups().size(); g++) {
            group = groups().get(g).contains(k) ? g : group;
        }
        return new int[] {by.get(k), told.get(k), time(k), group}[what];
    }

    int hears(int s, int v) {
        if (!isStation(s) || v < 0 || v > 60) {
            return -1;
        }
        if (by.size() == 9) {
            return -3;
        }
        remember();
        by.add(s);
        told.add(v);
        return by.size() - 1;
    }

    int strikes(int k) {
        if (k < 0 || k >= by.size()) {
            return -1;
        }
        remember();
        by.remove(k);
        told.remove(k);
        return by.size();
    }

    int sets(int s, int clock) {
        if (!isStation(s) || clock < 0 || clock > 4) {
            return -1;
        }
        if (clocks.get(s) == clock) {
            return -2;
        }
        remember();
        return clocks.set(s, clock);
    }

    int undo() {
        if (past.isEmpty()) {
            return -2;
        }
        restore(past.remove(past.size() - 1));
        return past.size();
    }

    int keep(int image) {
        if (image < 0 || image > 1) {
            return -1;
        }
        images.set(image, snapshot());
        return by.size();
    }

    int back(int image) {
        if (image < 0 || image > 1) {
            return -1;
        }
        if (images.get(image) == null) {
            return -2;
        }
        restore(images.get(image));
        past.clear();
        return by.size();
    }

    List<List<Integer>> groups() {
        List<Integer> order = new ArrayList<>();
        for (int k = 0; k < by.size(); k++) {
            order.add(k);
        }
        order.sort((a, b) -> time(a) != time(b) ? time(a) - time(b)
                : by.get(a).equals(by.get(b)) ? a - b : by.get(a) - by.get(b));
        List<List<Integer>> groups = new ArrayList<>();
        for (int k : order) {
            List<Integer> home = null;
            for (List<Integer> group : groups) {
                if (home == null && group.stream().allMatch(j -> together(j, k))) {
                    home = group;
                }
            }
            if (home == null) {
                home = new ArrayList<>();
                groups.add(home);
            }
            home.add(k);
        }
        return groups;
    }

    boolean together(int a, int b) {
        int s = by.get(a);
        int r = by.get(b);
        return s != r && sq(time(a) - time(b)) <= sq(xs.get(s) - xs.get(r)) + sq(ys.get(s) - ys.get(r));
    }

    static List<Integer> members(int set) {
        List<Integer> list = new ArrayList<>();
        for (int k = 0; k < 9; k++) {
            if ((set & 1 << k) != 0) {
                list.add(k);
            }
        }
        return list;
    }

    static int bits(List<Integer> members) {
        return members.stream().mapToInt(k -> 1 << k).sum();
    }

    /** Solves by fractions: rank and, where that is 3, the solution of the first independent ones; is it for all? */
    boolean solve(int set) {
        List<Integer> list = members(set);
        List<Part[]> reduced = new ArrayList<>();
        rank = 0;
        solution = null;
        boolean agree = true;
        for (int i = 1; i < list.size(); i++) {
            Part[] row = equation(list.get(0), list.get(i));
            for (Part[] r : reduced) {
                subtract(row, r, lead(r));
            }
            int lead = lead(row);
            if (lead == 3) {
                agree &= row[3].sign() == 0;
            } else {
                Part by = row[lead];
                for (int j = 0; j < 4; j++) {
                    row[j] = row[j].over(by);
                }
                for (Part[] r : reduced) {
                    subtract(r, row, lead);
                }
                reduced.add(row);
                rank++;
            }
        }
        if (rank == 3) {
            solution = new Part[3];
            for (Part[] r : reduced) {
                solution[lead(r)] = r[3];
            }
        }
        return agree;
    }

    static int lead(Part[] row) {
        for (int j = 0; j < 3; j++) {
            if (row[j].sign() != 0) {
                return j;
            }
        }
        return 3;
    }

    static void subtract(Part[] row, Part[] by, int column) {
        Part factor = row[column];
        for (int j = 0; j < 4; j++) {
            row[j] = row[j].minus(factor.times(by[j]));
        }
    }

    Part[] equation(int a, int b) {
        int x1 = xs.get(by.get(a));
        int y1 = ys.get(by.get(a));
        int t1 = time(a);
        int x2 = xs.get(by.get(b));
        int y2 = ys.get(by.get(b));
        int t2 = time(b);
        return new Part[] {Part.of(2 * (x2 - x1)), Part.of(2 * (y2 - y1)), Part.of(-2 * (t2 - t1)),
            Part.of(x2 * x2 + y2 * y2 - t2 * t2 - (x1 * x1 + y1 * y1 - t1 * t1))};
    }

    Part miss(int k) {
        Part dx = solution[0].minus(Part.of(xs.get(by.get(k))));
        Part dy = solution[1].minus(Part.of(ys.get(by.get(k))));
        Part dt = Part.of(time(k)).minus(solution[2]);
        return dx.times(dx).plus(dy.times(dy)).minus(dt.times(dt));
    }

    int judge(int set) {
        boolean agree = solve(set);
        int first = members(set).get(0);
        int answer = !agree ? 2 : rank < 3 ? 1
                : miss(first).sign() == 0 && Part.of(time(first)).minus(solution[2]).sign() >= 0 ? 0 : 2;
        MET[answer]++;
        return answer;
    }

    int verdict(int set) {
        return set < 1 || set >= 1 << by.size() ? -1 : judge(set);
    }

    int group(int g, int what) {
        List<List<Integer>> groups = groups();
        if (g < 0 || g >= groups.size() || what < 0 || what > 7) {
            return -1;
        }
        int set = bits(groups.get(g));
        solve(set);
        return switch (what) {
            case 0 -> set;
            case 1 -> rank;
            case 2 -> judge(set);
            case 3 -> out(set);
            case 4, 5 -> four(set)[what - 4];
            default -> can(set)[what - 6];
        };
    }

    int out(int set) {
        int best = -9;
        for (int less = 0; less < 512; less++) {
            boolean part = (less & ~set) == 0 && less != set && Integer.bitCount(less) <= 2;
            boolean fewer = best == -9 || Integer.bitCount(less) < Integer.bitCount(best);
            if (part && fewer && judge(set - less) == 0) {
                best = less;
            }
        }
        return best;
    }

    int[] four(int set) {
        int[] best = {-9, -9};
        for (int some = 511; some > 0; some--) {
            if ((some & ~set) != 0 || Integer.bitCount(some) != 4) {
                continue;
            }
            solve(some);
            if (rank < 3) {
                continue;
            }
            long worst = 0;
            for (int k : members(set)) {
                Part m = miss(k);
                BigInteger cut = m.up.abs().divide(m.down).min(BigInteger.valueOf(999999999));
                worst = Math.max(worst, cut.longValue());
            }
            if (best[0] == -9 || worst <= best[1]) {
                best = new int[] {some, (int) worst};
            }
        }
        return best;
    }

    int[] can(int set) {
        int[] answer = {0, -9};
        List<Integer> list = members(set);
        for (int x = 29; x >= 0; x--) {
            for (int y = 29; y >= 0; y--) {
                int near = by.get(list.get(0));
                if (root(sq(x - xs.get(near)) + sq(y - ys.get(near))) < 0) {
                    continue;
                }
                for (int t = 60; t >= 0; t--) {
                    boolean all = true;
                    for (int k : list) {
                        all &= due(by.get(k), x, y, t, 0) == time(k) && time(k) >= 0;
                    }
                    if (all) {
                        answer = new int[] {answer[0] + 1, 10000 * x + 100 * y + t};
                    }
                }
            }
        }
        return answer;
    }

    int due(int s, int x, int y, int t, int what) {
        if (!isStation(s) || x < 0 || x > 29 || y < 0 || y > 29 || t < 0 || t > 60 || what < 0 || what > 1) {
            return -1;
        }
        int way = root(sq(x - xs.get(s)) + sq(y - ys.get(s)));
        if (way < 0) {
            return -9;
        }
        int tells = told(clocks.get(s), t + way);
        return what == 0 ? t + way : tells < 0 || tells > 60 ? -9 : tells;
    }

    int place(int g, int what) {
        List<List<Integer>> groups = groups();
        if (g < 0 || g >= groups.size() || what < 0 || what > 5 || judge(bits(groups.get(g))) != 0) {
            return -1000000000;
        }
        Part part = solution[what / 2];
        return (what % 2 == 0 ? part.up : part.down).intValueExact();
    }

    int odds(int g, int x, int what) {
        List<List<Integer>> groups = groups();
        if (g < 0 || g >= groups.size() || x < 0 || x > 10 || what < 0 || what > 1) {
            return -1;
        }
        Part sum = sureOdds(groups.get(g), 0, 0, x);
        return (what == 0 ? sum.up : sum.down).intValueExact();
    }

    Part sureOdds(List<Integer> group, int i, int left, int x) {
        if (i == group.size()) {
            return Part.of(left != 0 && judge(left) == 0 ? 1 : 0);
        }
        Part lost = Part.of(x).over(Part.of(10)).times(sureOdds(group, i + 1, left, x));
        Part heard = Part.of(10 - x).over(Part.of(10)).times(sureOdds(group, i + 1, left | 1 << group.get(i), x));
        return lost.plus(heard);
    }

    int count(int what) {
        if (what < 0 || what > 5) {
            return -1;
        }
        int sure = 0;
        for (List<Integer> group : groups()) {
            sure += judge(bits(group)) == 0 ? 1 : 0;
        }
        return new int[] {xs.size(), by.size(), groups().size(), sure, text.length(), past.size()}[what];
    }

    /** A fraction of whole numbers of any size. */
    record Part(BigInteger up, BigInteger down) {
        static Part of(long n) {
            return new Part(BigInteger.valueOf(n), BigInteger.ONE);
        }

        static Part of(BigInteger up, BigInteger down) {
            BigInteger d = up.gcd(down);
            d = down.signum() < 0 ? d.negate() : d;
            return new Part(up.divide(d), down.divide(d));
        }

        Part plus(Part o) {
            return of(up.multiply(o.down).add(o.up.multiply(down)), down.multiply(o.down));
        }

        Part minus(Part o) {
            return plus(new Part(o.up.negate(), o.down));
        }

        Part times(Part o) {
            return of(up.multiply(o.up), down.multiply(o.down));
        }

        Part over(Part o) {
            return of(up.multiply(o.down), down.multiply(o.up));
        }

        int sign() {
            return up.signum();
        }
    }
}
