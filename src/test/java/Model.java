import java.math.BigInteger;
import java.util.ArrayList;
import java.util.Collections;
import java.util.List;
import java.util.TreeMap;

/** The document once more, as plainly as the Java library lets it be told; RandomRunsTest compares with it. */
final class Model {
    /** A fraction in lowest terms. */
    record Part(BigInteger upper, BigInteger lower) implements Comparable<Part> {
        static Part of(long upper, long lower) {
            return of(BigInteger.valueOf(upper), BigInteger.valueOf(lower));
        }

        static Part of(BigInteger upper, BigInteger lower) {
            BigInteger by = upper.gcd(lower);
            if (lower.signum() < 0) {
                by = by.negate();
            }
            return new Part(upper.divide(by), lower.divide(by));
        }

        static Part of(long v) {
            return of(v, 1);
        }

        Part plus(Part p) {
            return of(upper.multiply(p.lower).add(p.upper.multiply(lower)), lower.multiply(p.lower));
        }

        Part less(Part p) {
            return plus(of(p.upper.negate(), p.lower));
        }

        Part times(Part p) {
            return of(upper.multiply(p.upper), lower.multiply(p.lower));
        }

        Part by(Part p) {
            return of(upper.multiply(p.lower), lower.multiply(p.upper));
        }

        Part size() {
            return new Part(upper.abs(), lower);
        }

        long cut() {
            return upper.divide(lower).longValueExact();
        }

        public int compareTo(Part p) {
            return upper.multiply(p.lower).compareTo(p.upper.multiply(lower));
        }
    }

    record Sort(int leaves, int right, int lasts) { }

    record Paper(int layer, int from, int to) { }

    record Twice(int one, int other, int many) { }

    /** The place of the sign that can't stand there. */
    static final class Wrong extends Exception {
        private static final long serialVersionUID = 1;
        final int place;

        Wrong(int place) {
            this.place = place;
        }
    }

    final List<Sort> sorts = new ArrayList<>();
    final List<int[]> gone = new ArrayList<>();
    final List<Integer> streets = new ArrayList<>();
    final List<Integer> toldFrom = new ArrayList<>();
    final List<String> lacks = new ArrayList<>();
    TreeMap<String, Integer> numbers = new TreeMap<>();
    int r = 1;
    String text = "";
    final String[] laws = new String[6];
    final List<String> stories = new ArrayList<>();
    final List<Twice> twices = new ArrayList<>();
    final List<Paper> papers = new ArrayList<>();
    final List<TreeMap<String, Integer>> keptNumbers = new ArrayList<>(Collections.nCopies(3, null));
    final int[] keptR = new int[3];
    List<Long> row = new ArrayList<>();

    // ---- helps

    private static boolean in(int v, int a, int b) {
        return a <= v && v <= b;
    }

    private boolean noSort(int s) {
        return s < 0 || s >= sorts.size();
    }

    private boolean noStreet(int s) {
        return s < 0 || s >= streets.size();
    }

    private boolean noCell(int c) {
        return c < 0 || c >= 12 * streets.size();
    }

    private static String key(int kind, int cell, int sort) {
        return kind + "," + cell + "," + sort;
    }

    private Integer n(int kind, int cell, int sort) {
        return numbers.get(key(kind, cell, sort));
    }

    private boolean isLack(int sort, int week) {
        return lacks.contains(sort + "," + week);
    }

    private List<Integer> cells(int sort, int... kinds) {
        List<Integer> cells = new ArrayList<>();
        for (int c = 0; c < 12 * streets.size(); c++) {
            boolean all = true;
            for (int kind : kinds) {
                all &= n(kind, c, sort) != null;
            }
            if (all) {
                cells.add(c);
            }
        }
        return cells;
    }

    private void say(Object... numbersOfRow) {
        row = new ArrayList<>();
        for (Object o : numbersOfRow) {
            if (o instanceof Part p) {
                row.add(p.upper.longValueExact());
                row.add(p.lower.longValueExact());
            } else {
                row.add(((Number) o).longValue());
            }
        }
    }

    // ---- what there is

    int sort(int leaves, int right, int lasts) {
        if (!in(leaves, 1, 100) || !in(right, -5, 5) || !in(lasts, 1, 100) || sorts.size() == 8) {
            return -1;
        }
        sorts.add(new Sort(leaves, right, lasts));
        gone.add(new int[3]);
        return sorts.size() - 1;
    }

    boolean goes(int sort, int sink, int back, int corner) {
        if (noSort(sort) || !in(sink, 0, 100) || !in(back, 0, 100) || !in(corner, 0, 100)
            || sink + back + corner > 100) {
            return false;
        }
        gone.set(sort, new int[] {sink, back, corner});
        return true;
    }

    int street(int houses) {
        if (!in(houses, 1, 100) || streets.size() == 8) {
            return -1;
        }
        streets.add(houses);
        toldFrom.add(-1);
        return streets.size() - 1;
    }

    boolean lack(int sort, int week, boolean is) {
        if (noSort(sort) || !in(week, 0, 11)) {
            return false;
        }
        lacks.remove(sort + "," + week);
        if (is) {
            lacks.add(sort + "," + week);
        }
        return true;
    }

    int put(int kind, int cell, int sort, int v) {
        if (!in(kind, 0, 5) || noCell(cell) || noSort(sort) || !in(v, -1, 999)) {
            return -2;
        }
        Integer was = v == -1 ? numbers.remove(key(kind, cell, sort)) : numbers.put(key(kind, cell, sort), v);
        return was == null ? -1 : was;
    }

    int get(int kind, int cell, int sort) {
        if (!in(kind, 0, 5) || noCell(cell) || noSort(sort)) {
            return -2;
        }
        Integer is = n(kind, cell, sort);
        return is == null ? -1 : is;
    }

    int sheet(int sort, int kind, int n, int f, int step) {
        if (noSort(sort) || !in(kind, 0, 3) || n > 96) {
            return -1;
        }
        int all = 12 * streets.size();
        if (kind == 3) {
            for (int c = 0; c < all; c++) {
                numbers.remove(key(0, c, sort));
            }
            return all;
        }
        if (n < 0) {
            return -2;
        }
        int c = 0;
        for (int v = f; c < n && c < all; v += step, c++) {
            int is = kind == 0 ? (byte) v : kind == 1 ? (short) v : v;
            put(0, c, sort, is < 0 ? -1 : is > 999 ? 999 : is);
        }
        return c;
    }

    int sign(int v) {
        if (text.length() + 4 > 60) {
            return -1;
        }
        for (int i = 3; i >= 0; i--) {
            text += (char) (v >> 8 * i & 255);
        }
        return text.length();
    }

    boolean end(int n) {
        if (n < 0 || n > text.length()) {
            return false;
        }
        text = text.substring(0, n);
        return true;
    }

    int law(int i) {
        String is = text;
        text = "";
        if (!in(i, 0, 5)) {
            return -100;
        }
        String head = is.length() > 40 ? is.substring(0, 40) : is;
        int before = r;
        try {
            Expression e = new Expression(head, i, 0, 0, 0);
            e.either(0);
            e.mustEnd();
        } catch (Wrong w) {
            return -1 - w.place;
        } finally {
            // Reading it draws, too.
            r = before;
        }
        if (is.length() > 40) {
            return -41;
        }
        laws[i] = is;
        return 0;
    }

    /** Reads an expression and says what it comes to, all in one go. */
    private final class Expression {
        private final String signs;
        private final int law;
        private final int street;
        private final int week;
        private final int sort;
        private int bought;
        private int eaten;
        private int at;

        Expression(String signs, int law, int street, int week, int sort) {
            this.signs = signs;
            this.law = law;
            this.street = street;
            this.week = week;
            this.sort = sort;
        }

        private char next() {
            return at < signs.length() ? signs.charAt(at) : 0;
        }

        private boolean took(String any) {
            if (at < signs.length() && any.indexOf(signs.charAt(at)) >= 0) {
                at++;
                return true;
            }
            return false;
        }

        void mustEnd() throws Wrong {
            if (at < signs.length()) {
                throw new Wrong(at);
            }
        }

        int either(int depth) throws Wrong {
            int v = both(depth);
            while (took("|")) {
                int w = both(depth);
                v = (v != 0) | (w != 0) ? 1 : 0;
            }
            return v;
        }

        private int both(int depth) throws Wrong {
            int v = two(depth);
            while (took("&")) {
                int w = two(depth);
                v = (v != 0) & (w != 0) ? 1 : 0;
            }
            return v;
        }

        private int two(int depth) throws Wrong {
            int v = terms(depth);
            char c = next();
            if (!took("<>=")) {
                return v;
            }
            int w = terms(depth);
            return (c == '<' ? v < w : c == '>' ? v > w : v == w) ? 1 : 0;
        }

        private int terms(int depth) throws Wrong {
            int v = factors(depth);
            for (char c = next(); took("+-"); c = next()) {
                int w = factors(depth);
                v = c == '+' ? v + w : v - w;
            }
            return v;
        }

        private int factors(int depth) throws Wrong {
            int v = ahead(depth);
            for (char c = next(); took("*/"); c = next()) {
                int w = ahead(depth);
                v = c == '*' ? v * w : w == 0 ? 0 : v / w;
            }
            return v;
        }

        private int ahead(int depth) throws Wrong {
            if (took("!")) {
                return ahead(depth) == 0 ? 1 : 0;
            }
            return took("-") ? -ahead(depth) : bare(depth);
        }

        private int bare(int depth) throws Wrong {
            if (in(next(), '0', '9')) {
                int from = at;
                while (at < from + 3 && took("0123456789")) { }
                return Integer.parseInt(signs.substring(from, at));
            }
            char c = next();
            if (c == '(' && depth < 5) {
                at++;
                int v = either(depth + 1);
                if (!took(")")) {
                    throw new Wrong(at);
                }
                return v;
            }
            if (!took("htwkrlqz" + (law > 0 ? "b" : "") + (law > 1 ? "e" : ""))) {
                throw new Wrong(at);
            }
            return thing(c);
        }

        private int thing(char c) {
            Sort s = sort < sorts.size() ? sorts.get(sort) : new Sort(1, 1, 1);
            switch (c) {
                case 'h': return street < streets.size() ? streets.get(street) : 0;
                case 't': return street;
                case 'w': return week;
                case 'k': return sort;
                case 'r': return s.right();
                case 'l': return s.leaves();
                case 'q': return isLack(sort, week) ? 1 : 0;
                case 'b': return bought;
                case 'e': return eaten;
                default:
                    r = (int) (r * 1103515245L + 12345L);
                    return (int) (Integer.toUnsignedLong(r) / 65536 % 10);
            }
        }
    }

    private int come(int law, int without, int[] at, int bought, int eaten) {
        if (laws[law] == null) {
            return without;
        }
        Expression e = new Expression(laws[law], law, at[0], at[1], at[2]);
        e.bought = bought;
        e.eaten = eaten;
        try {
            return e.either(0);
        } catch (Wrong w) {
            throw new IllegalStateException(w);
        }
    }

    int live(int street, int week) {
        if (noStreet(street) || !in(week, 0, 11)) {
            return -1;
        }
        int all = 0;
        int cell = 12 * street + week;
        for (int sort = 0; sort < sorts.size(); sort++) {
            int[] at = {street, week, sort};
            int b = Math.max(0, Math.min(999, come(0, 0, at, 0, 0)));
            int e = Math.max(0, Math.min(b, come(1, b, at, b, 0)));
            int thrown = e * sorts.get(sort).leaves() / 100 + (b - e);
            int[] g = gone.get(sort);
            int left = thrown - thrown * g[0] / 100 - thrown * g[1] / 100 - thrown * g[2] / 100;
            all += left;
            bag(cell, sort, left);
            if (thrown * g[2] / 100 > 0) {
                bag(12 * ((street + 1) % streets.size()) + week, sort, thrown * g[2] / 100);
            }
            put(1, cell, sort, b);
            for (int way = 0; way < 4; way++) {
                put(2 + way, cell, sort, Math.max(0, Math.min(999, come(2 + way, e, at, b, e))));
            }
        }
        return all;
    }

    private void bag(int cell, int sort, int more) {
        put(0, cell, sort, Math.min(999, Math.max(0, get(0, cell, sort)) + more));
    }

    int seed(int v) {
        int was = r;
        r = v;
        return was;
    }

    // ---- sums

    int sum(int kind, int sort, int streetBits, int weekBits) {
        if (!in(kind, 0, 5) || noSort(sort) || !in(streetBits, 1, 255) || !in(weekBits, 1, 4095)) {
            return -1;
        }
        int sum = 0;
        int many = 0;
        for (int c : cells(sort, kind)) {
            if ((streetBits & 1 << c / 12) != 0 && (weekBits & 1 << c % 12) != 0) {
                sum += n(kind, c, sort);
                many++;
            }
        }
        say(many);
        return sum;
    }

    private Part least(int sort, int cell, int waste) {
        Part pieces = Part.of(n(0, cell, sort));
        Part never = pieces.times(Part.of(waste, 100));
        return pieces.less(never).times(Part.of(100, sorts.get(sort).leaves()));
    }

    /** Null: all goes. */
    private Part most(int sort, int cell) {
        int[] g = gone.get(sort);
        int left = 100 - g[0] - g[1] - g[2];
        if (left == 0) {
            return null;
        }
        Part eaten = Part.of(n(0, cell, sort)).times(Part.of(100, sorts.get(sort).leaves()));
        return eaten.by(Part.of(left)).times(Part.of(100));
    }

    int bounds(int sort, int cell, int waste) {
        if (noSort(sort) || noCell(cell) || !in(waste, 0, 100)) {
            return -1;
        }
        if (n(0, cell, sort) == null) {
            return -2;
        }
        if (most(sort, cell) == null) {
            say(least(sort, cell, waste));
            return -3;
        }
        say(least(sort, cell, waste), most(sort, cell));
        return 0;
    }

    int line(int sort, int way, int waste) {
        if (noSort(sort) || !in(way, 0, 3) || !in(waste, 0, 100)) {
            return -1;
        }
        Part least = Part.of(0);
        Part most = Part.of(0);
        Part said = Part.of(0);
        List<Integer> cells = cells(sort, 0, 2 + way);
        if (cells.isEmpty()) {
            return -2;
        }
        for (int c : cells) {
            least = least.plus(least(sort, c, waste));
            said = said.plus(Part.of(n(2 + way, c, sort)));
            Part m = most(sort, c);
            most = m == null ? null : most.plus(m);
        }
        say(least, said.cut());
        return least.compareTo(said) > 0 ? 1 : most != null && most.compareTo(said) < 0 ? 2 : 0;
    }

    // ---- answers

    private List<Integer> offs(int sort, int way) {
        List<Integer> offs = new ArrayList<>();
        for (int c : cells(sort, 1, 2 + way)) {
            offs.add(n(2 + way, c, sort) - n(1, c, sort));
        }
        return offs;
    }

    private static Part mean(List<Integer> numbers) {
        Part sum = Part.of(0);
        for (int v : numbers) {
            sum = sum.plus(Part.of(v));
        }
        return numbers.isEmpty() ? null : sum.by(Part.of(numbers.size()));
    }

    int off(int sort, int way) {
        if (noSort(sort) || !in(way, 0, 3)) {
            return -1;
        }
        List<Integer> offs = offs(sort, way);
        if (!offs.isEmpty()) {
            say(mean(offs), Collections.min(offs), Collections.max(offs));
        }
        return offs.size();
    }

    int nearest(int sort) {
        if (noSort(sort)) {
            return -1;
        }
        int best = -2;
        for (int way = 3; way >= 0; way--) {
            Part mean = mean(offs(sort, way));
            if (mean != null && (best < 0 || mean.size().compareTo(mean(offs(sort, best)).size()) <= 0)) {
                best = way;
            }
        }
        if (best >= 0) {
            List<Integer> offs = offs(sort, best);
            say(offs.stream().filter(o -> o > 0).count(), offs.stream().filter(o -> o < 0).count());
        }
        return best;
    }

    int worst(int way, int what) {
        if (!in(way, 0, 3) || !in(what, 0, 1)) {
            return -1;
        }
        int best = -2;
        Part bestMean = null;
        for (int sort = 0; sort < sorts.size(); sort++) {
            Part mean = mean(offs(sort, way));
            if (mean == null) {
                continue;
            }
            boolean worse = bestMean == null
                || (what == 0 ? mean.compareTo(bestMean) > 0 : mean.compareTo(bestMean) < 0);
            if (worse) {
                best = sort;
                bestMean = mean;
            }
        }
        if (best >= 0) {
            say(bestMean);
        }
        return best;
    }

    int right(int way) {
        if (!in(way, 0, 3)) {
            return -1;
        }
        int[] many = new int[3];
        for (int a = 0; a < sorts.size(); a++) {
            for (int b = 0; b < sorts.size(); b++) {
                Part one = mean(offs(a, way));
                Part other = mean(offs(b, way));
                if (one == null || other == null) {
                    continue;
                }
                int rights = Integer.compare(sorts.get(a).right(), sorts.get(b).right());
                int means = one.compareTo(other);
                if (rights > 0 && means != 0) {
                    many[means > 0 ? 0 : 1]++;
                } else if (a < b && (rights == 0 || means == 0)) {
                    many[2]++;
                }
            }
        }
        say(many[1], many[2]);
        return many[0];
    }

    private Part s(List<Integer> cells, int sort, int x, int y) {
        long both = 0;
        long xs = 0;
        long ys = 0;
        for (int c : cells) {
            both += (long) n(x, c, sort) * n(y, c, sort);
            xs += n(x, c, sort);
            ys += n(y, c, sort);
        }
        return Part.of(cells.size() * both - xs * ys);
    }

    int three(int sort, int way) {
        if (noSort(sort) || !in(way, 0, 3)) {
            return -1;
        }
        int[] k = {0, 1, 2 + way};
        List<Integer> cells = cells(sort, k);
        if (cells.size() < 2) {
            return -2;
        }
        List<Object> three = new ArrayList<>();
        for (int i = 0; i < 3; i++) {
            int x = k[i];
            int y = k[(i + 1) % 3];
            int z = k[(i + 2) % 3];
            Part lower = s(cells, sort, y, z).times(s(cells, sort, x, x));
            if (lower.compareTo(Part.of(0)) == 0) {
                return -2;
            }
            three.add(s(cells, sort, x, y).times(s(cells, sort, x, z)).by(lower).times(Part.of(1000)).cut());
        }
        say(three.toArray());
        return cells.size();
    }

    int slope(int sort, int way) {
        if (noSort(sort) || !in(way, 0, 3)) {
            return -1;
        }
        List<Integer> cells = cells(sort, 0, 1, 2 + way);
        if (cells.size() < 2 || s(cells, sort, 0, 1).compareTo(Part.of(0)) == 0) {
            return -2;
        }
        say(s(cells, sort, 0, 2 + way).by(s(cells, sort, 0, 1)));
        return 0;
    }

    int others(int sort, int way) {
        if (noSort(sort) || !in(way, 0, 2)) {
            return -1;
        }
        int[] many = new int[3];
        for (int c : cells(sort, 1, 2 + way, 5)) {
            int shop = n(1, c, sort);
            int own = Math.abs(n(2 + way, c, sort) - shop);
            int theirs = Math.abs(n(5, c, sort) - shop);
            int half = Math.abs((n(2 + way, c, sort) + n(5, c, sort)) / 2 - shop);
            many[0] += theirs < own ? 1 : 0;
            many[1] += own < theirs ? 1 : 0;
            many[2] += half < own && half < theirs ? 1 : 0;
        }
        say(many[1], many[2]);
        return many[0];
    }

    int worth(int sort, int way) {
        if (noSort(sort) || !in(way, 0, 2)) {
            return -1;
        }
        if (cells(sort, 1, 2 + way, 5).isEmpty()) {
            return -2;
        }
        TreeMap<Long, Integer> shares = new TreeMap<>();
        for (int p = 0; p <= 100; p++) {
            long sum = 0;
            for (int c : cells(sort, 1, 2 + way, 5)) {
                long off = p * n(5, c, sort) + (100 - p) * n(2 + way, c, sort) - 100 * n(1, c, sort);
                sum += off * off;
            }
            shares.putIfAbsent(sum, p);
        }
        say(shares.firstKey());
        return shares.firstEntry().getValue();
    }

    // ---- lack

    /** In LACK and in others; null: -2. */
    private Part[] wastes(int sort) {
        long[] over = new long[2];
        long[] shops = new long[2];
        for (int c : cells(sort, 0, 1)) {
            int i = isLack(sort, c % 12) ? 0 : 1;
            over[i] += n(0, c, sort) - n(1, c, sort) * sorts.get(sort).leaves() / 100;
            shops[i] += n(1, c, sort);
        }
        return shops[0] == 0 || shops[1] == 0 ? null
            : new Part[] {Part.of(over[0], shops[0]), Part.of(over[1], shops[1])};
    }

    int waste(int sort) {
        if (noSort(sort)) {
            return -1;
        }
        Part[] w = wastes(sort);
        if (w == null) {
            return -2;
        }
        say(w[0], w[1]);
        return w[0].compareTo(w[1]) > 0 ? 1 : w[0].compareTo(w[1]) < 0 ? 2 : 0;
    }

    int story() {
        String is = text;
        text = "";
        if (stories.size() == 6) {
            return -100;
        }
        for (int p = 0; p < is.length(); p++) {
            String may = p % 4 == 1 ? "<>=" : p % 4 == 3 ? ";" : "WwBbEeNnSs";
            if (p == 40 || may.indexOf(is.charAt(p)) < 0) {
                return -1 - p;
            }
        }
        if (!is.isEmpty() && is.length() % 4 != 3) {
            return -1 - is.length();
        }
        stories.add(is);
        return stories.size() - 1;
    }

    private Part claimed(int sort, char sign) {
        if (sign == 'W' || sign == 'w') {
            Part[] w = wastes(sort);
            return w == null ? null : w[sign == 'W' ? 0 : 1];
        }
        char big = Character.toUpperCase(sign);
        int kind = big == 'B' ? 1 : big == 'E' ? 0 : big == 'N' ? 5 : 2;
        List<Integer> told = new ArrayList<>();
        for (int c : cells(sort, kind)) {
            if (isLack(sort, c % 12) == (sign == big)) {
                told.add(n(kind, c, sort));
            }
        }
        return mean(told);
    }

    private int failing(int sort, String story) {
        int many = 0;
        for (String claim : story.isEmpty() ? new String[0] : story.split(";")) {
            Part a = claimed(sort, claim.charAt(0));
            Part b = claimed(sort, claim.charAt(2));
            char c = claim.charAt(1);
            boolean is = a != null && b != null
                && (c == '<' ? a.compareTo(b) < 0 : c == '>' ? a.compareTo(b) > 0 : a.compareTo(b) == 0);
            many += is ? 0 : 1;
        }
        return many;
    }

    private int holding(int sort) {
        int bits = 0;
        for (int i = 0; i < stories.size(); i++) {
            bits += failing(sort, stories.get(i)) == 0 ? 1 << i : 0;
        }
        return bits;
    }

    int holds(int sort) {
        if (noSort(sort)) {
            return -1;
        }
        List<Object> many = new ArrayList<>();
        for (String story : stories) {
            many.add(failing(sort, story));
        }
        say(many.toArray());
        return holding(sort);
    }

    int parts() {
        for (int many = 1; many <= 6; many++) {
            for (int sort = 0; sort < sorts.size(); sort++) {
                if (Integer.bitCount(holding(sort)) == many) {
                    say(holding(sort));
                    return sort;
                }
            }
        }
        return -2;
    }

    // ---- sorters

    private int pieces() {
        return twices.stream().mapToInt(Twice::many).sum();
    }

    /** -1: any. */
    private int taken(int one, int other) {
        return twices.stream().filter(t -> (one == -1 || t.one == one) && (other == -1 || t.other == other))
            .mapToInt(Twice::many).sum();
    }

    int twice(int one, int other, int many) {
        if (noSort(one) || noSort(other) || !in(many, 1, 99) || pieces() + many > 9999) {
            return -1;
        }
        twices.add(new Twice(one, other, many));
        return pieces();
    }

    int alike() {
        long n = pieces();
        long alike = 0;
        long chance = 0;
        for (int s = 0; s < sorts.size(); s++) {
            alike += taken(s, s);
            chance += (long) taken(s, -1) * taken(-1, s);
        }
        if (n == 0 || n * n == chance) {
            return -2;
        }
        say(Part.of(n * alike - chance, n * n - chance));
        return (int) alike;
    }

    int mixed() {
        int most = 0;
        for (int a = 0; a < sorts.size(); a++) {
            for (int b = a + 1; b < sorts.size(); b++) {
                if (taken(a, b) + taken(b, a) > most) {
                    most = taken(a, b) + taken(b, a);
                    say(a, b);
                }
            }
        }
        return most;
    }

    /** Null: it throws. */
    Integer leans(int sort) {
        return noSort(sort) ? null : Integer.valueOf(taken(sort, -1) - taken(-1, sort));
    }

    int truly(int sort, int cell) {
        if (noSort(sort) || noCell(cell)) {
            return -1;
        }
        if (n(0, cell, sort) == null || taken(sort, -1) == 0) {
            return -2;
        }
        List<Object> truly = new ArrayList<>();
        int sum = 0;
        for (int s = 0; s < sorts.size(); s++) {
            int is = n(0, cell, sort) * taken(sort, s) / taken(sort, -1);
            truly.add(is);
            sum += is;
        }
        say(truly.toArray());
        return sum;
    }

    // ---- what is moved, feasts

    int moved(int sort, int week) {
        if (noSort(sort) || !in(week, 0, 11)) {
            return -1;
        }
        int[] all = new int[4];
        for (int c : cells(sort, 0, 1)) {
            if (c % 12 != week) {
                continue;
            }
            int came = n(0, c, sort) - n(1, c, sort);
            int went = n(1, c, sort) * sorts.get(sort).leaves() / 100 - n(0, c, sort);
            if (came > 0) {
                all[0] += came;
                all[2] |= 1 << c / 12;
            }
            if (went > 0) {
                all[1] += went;
                all[3] |= 1 << c / 12;
            }
        }
        say(all[1], all[2], all[3]);
        return all[0];
    }

    int feasts(int street) {
        if (noStreet(street)) {
            return -1;
        }
        TreeMap<Integer, Integer> byWeek = new TreeMap<>();
        for (int week = 0; week < 12; week++) {
            for (int sort = 0; sort < sorts.size(); sort++) {
                if (n(0, 12 * street + week, sort) != null) {
                    byWeek.merge(week, n(0, 12 * street + week, sort), Integer::sum);
                }
            }
        }
        List<Integer> sorted = new ArrayList<>(byWeek.values());
        Collections.sort(sorted);
        int bits = 0;
        for (int week : byWeek.keySet()) {
            bits += byWeek.get(week) > 2 * sorted.get((sorted.size() + 1) / 2 - 1) ? 1 << week : 0;
        }
        return bits;
    }

    int need(int kind, int sort, int off, int power) {
        return least(kind, sort, off, power, true);
    }

    int weeks(int kind, int sort, int off, int power) {
        return least(kind, sort, off, power, false);
    }

    private int least(int kind, int sort, int off, int power, boolean byStreet) {
        if (!in(kind, 0, 5) || noSort(sort) || !in(off, 0, 999) || !in(power, 1, 100)) {
            return -1;
        }
        TreeMap<Integer, List<Integer>> groups = new TreeMap<>();
        for (int c : cells(sort, kind)) {
            groups.computeIfAbsent(byStreet ? c / 12 : c % 12, g -> new ArrayList<>()).add(n(kind, c, sort));
        }
        if (groups.isEmpty()) {
            return -2;
        }
        List<Part> means = new ArrayList<>();
        for (List<Integer> g : groups.values()) {
            means.add(mean(g));
        }
        Part all = Part.of(0);
        for (Part p : means) {
            all = all.plus(p);
        }
        all = all.by(Part.of(means.size()));
        for (int k = 1;; k++) {
            int[] ways = new int[2];
            choose(means, 0, k, Part.of(0), k, all, off, ways);
            if (ways[0] * 100 >= power * ways[1]) {
                say(ways[0], ways[1]);
                return k;
            }
        }
    }

    private static void choose(List<Part> means, int from, int more, Part sum, int k, Part all, int off, int[] ways) {
        if (more == 0) {
            ways[1]++;
            ways[0] += sum.by(Part.of(k)).less(all).size().compareTo(Part.of(off)) <= 0 ? 1 : 0;
            return;
        }
        for (int i = from; i + more <= means.size(); i++) {
            choose(means, i + 1, more - 1, sum.plus(means.get(i)), k, all, off, ways);
        }
    }

    // ---- a mound

    int paper(int layer, int from, int to) {
        if (!in(layer, 0, 9) || !in(from, 1900, to) || !in(to, from, 2100) || papers.size() == 12) {
            return -1;
        }
        papers.add(new Paper(layer, from, to));
        return papers.size();
    }

    /** Whether there is a YEAR for each LAYER, with this YEAR of this LAYER; each gets as late a one as it can. */
    private static boolean together(List<Paper> papers, int layer, int year) {
        int above = 2100;
        for (int l = 0; l < 10; l++) {
            int last = l == layer ? Math.min(above, year) : above;
            int first = l == layer ? year : 1900;
            for (Paper p : papers) {
                if (p.layer == l) {
                    last = Math.min(last, p.to);
                    first = Math.max(first, p.from);
                }
            }
            if (first > last) {
                return false;
            }
            above = last;
        }
        return true;
    }

    /** Empty: they do not go together. */
    private List<Integer> yearsOf(int layer) {
        List<Integer> years = new ArrayList<>();
        for (int y = 1900; y <= 2100; y++) {
            if (together(papers, layer, y)) {
                years.add(y);
            }
        }
        return years;
    }

    int year(int layer) {
        if (!in(layer, 0, 9)) {
            return -1;
        }
        List<Integer> years = yearsOf(layer);
        if (years.isEmpty()) {
            return -2;
        }
        say(years.get(0), years.get(years.size() - 1));
        return years.size();
    }

    int stray() {
        for (int many = 0;; many++) {
            for (int out = 0; out < 1 << papers.size(); out++) {
                if (Integer.bitCount(out) != many) {
                    continue;
                }
                List<Paper> in = new ArrayList<>();
                for (int i = 0; i < papers.size(); i++) {
                    if ((out & 1 << i) == 0) {
                        in.add(papers.get(i));
                    }
                }
                if (together(in, -1, 0)) {
                    say(out);
                    return many;
                }
            }
        }
    }

    int was(int layer, int sort, int pieces, int now) {
        if (!in(layer, 0, 9) || noSort(sort) || !in(pieces, 0, 9999) || !in(now, 1900, 2100)) {
            return -1;
        }
        List<Integer> years = yearsOf(layer);
        if (years.isEmpty()) {
            return -2;
        }
        say(once(sort, pieces, now - years.get(years.size() - 1)), once(sort, pieces, now - years.get(0)));
        return 0;
    }

    private long once(int sort, int pieces, int years) {
        Part is = Part.of(pieces);
        for (int ten = 10; ten <= Math.min(years, 40); ten += 10) {
            is = is.times(Part.of(100)).by(Part.of(sorts.get(sort).lasts()));
        }
        return is.cut();
    }

    // ---- being told

    boolean told(int street, int week) {
        if (noStreet(street) || !in(week, -1, 11)) {
            return false;
        }
        toldFrom.set(street, week);
        return true;
    }

    int does(int kind, int sort, int w) {
        if (!in(kind, 0, 5) || noSort(sort) || !in(w, 1, 11)) {
            return -1;
        }
        List<List<Integer>> four = List.of(new ArrayList<>(), new ArrayList<>(), new ArrayList<>(), new ArrayList<>());
        for (int c : cells(sort, kind)) {
            int from = toldFrom.get(c / 12);
            if (from <= w) {
                four.get((from == -1 ? 2 : 0) + (c % 12 >= w ? 0 : 1)).add(n(kind, c, sort));
            }
        }
        if (four.stream().anyMatch(List::isEmpty)) {
            return -2;
        }
        Part is = mean(four.get(0)).less(mean(four.get(1))).less(mean(four.get(2)).less(mean(four.get(3))));
        say(is);
        int sign = is.compareTo(Part.of(0));
        return sign > 0 ? 1 : sign < 0 ? 2 : 0;
    }

    // ---- kept

    boolean keep(int i) {
        if (!in(i, 0, 2)) {
            return false;
        }
        keptNumbers.set(i, new TreeMap<>(numbers));
        keptR[i] = r;
        return true;
    }

    boolean again(int i) {
        if (!in(i, 0, 2) || keptNumbers.get(i) == null) {
            return false;
        }
        numbers = new TreeMap<>(keptNumbers.get(i));
        r = keptR[i];
        return true;
    }

    int count(int what) {
        int bits = 0;
        for (int i = 0; i < 6; i++) {
            bits += laws[i] == null ? 0 : 1 << i;
        }
        int[] counts = {sorts.size(), streets.size(), bits, stories.size(), pieces(), papers.size(),
            numbers.size(), row.size(), text.length()};
        return in(what, 0, 8) ? counts[what] : -1;
    }
}
