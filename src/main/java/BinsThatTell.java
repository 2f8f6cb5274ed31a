import java.util.Arrays;
import java.util.NoSuchElementException;

/** Bins that tell. What each call promises stands in DOC.md; each class below keeps one part of it. */
public final class BinsThatTell {
    public static final int NONE = -1;

    private static final int NOT_HAD = -2;
    private static final int ALL_GOES = -3;
    private static final int NO_ROOM = -100;
    private static final int MOST = 8;
    private static final int WEEKS = 12;
    private static final int CELLS = MOST * WEEKS;
    private static final int KINDS = 6;
    private static final int WAYS = 4;
    private static final int BAG = 0;
    private static final int SHOP = 1;
    private static final int SAID = 2;
    private static final int NEIGHBOURS = 3;
    private static final int GREATEST = 999;
    private static final int FIRST_YEAR = 1900;
    private static final int LAST_YEAR = 2100;

    private final Row theRow = new Row();
    private final Text theText = new Text();
    private final Numbers numbers = new Numbers();
    private final Laws laws = new Laws(numbers);
    private final Town town = new Town(numbers, laws);
    private final Answers answers = new Answers(town, numbers, theRow);
    private final Stories stories = new Stories(town, numbers, theRow);
    private final Sorters sorters = new Sorters(town, numbers, theRow);
    private final Samples samples = new Samples(town, numbers, theRow);
    private final Mound mound = new Mound(town, theRow);

    public BinsThatTell() {
    }

    // ---- what there is

    public int sort(int leaves, int right, int lasts) {
        return town.addSort(leaves, right, lasts);
    }

    public boolean goes(int sort, int sink, int back, int corner) {
        return town.setGone(sort, sink, back, corner);
    }

    public int street(int houses) {
        return town.addStreet(houses);
    }

    public boolean lack(int sort, int week, boolean is) {
        return town.setLack(sort, week, is);
    }

    public int put(int kind, int cell, int sort, int v) {
        if (!town.hasNumber(kind, cell, sort) || !between(v, NONE, GREATEST)) {
            return NOT_HAD;
        }
        int before = numbers.of(kind, cell, sort);
        numbers.change(kind, cell, sort, v);
        return before;
    }

    public int get(int kind, int cell, int sort) {
        return town.hasNumber(kind, cell, sort) ? numbers.of(kind, cell, sort) : NOT_HAD;
    }

    public int sheet(int sort, int kind, int n, int f, int step) {
        return town.readSheet(sort, kind, n, f, step);
    }

    public int sign(int v) {
        return theText.append(v);
    }

    public boolean end(int n) {
        return theText.cut(n);
    }

    public int law(int i) {
        int answer = laws.isLaw(i) ? laws.enact(i, theText) : NO_ROOM;
        theText.cut(0);
        return answer;
    }

    public int live(int street, int week) {
        return town.liveWeek(street, week);
    }

    public int seed(int v) {
        return numbers.reseed(v);
    }

    // ---- sums

    public int sum(int kind, int sort, int streets, int weeks) {
        return answers.total(kind, sort, streets, weeks);
    }

    public int bounds(int sort, int cell, int waste) {
        return answers.eatenInCell(sort, cell, waste);
    }

    public int line(int sort, int way, int waste) {
        return answers.surely(sort, way, waste);
    }

    // ---- answers

    public int off(int sort, int way) {
        return answers.offBy(sort, way);
    }

    public int nearest(int sort) {
        return answers.nearestWay(sort);
    }

    public int worst(int way, int what) {
        return answers.worstSort(way, what);
    }

    public int right(int way) {
        return answers.pairsByRight(way);
    }

    public int three(int sort, int way) {
        return answers.threeApart(sort, way);
    }

    public int slope(int sort, int way) {
        return answers.saidByShop(sort, way);
    }

    public int others(int sort, int way) {
        return answers.nearerNeighbours(sort, way);
    }

    public int worth(int sort, int way) {
        return answers.bestShare(sort, way);
    }

    // ---- lack

    public int waste(int sort) {
        return stories.wasteInLack(sort);
    }

    public int story() {
        int answer = stories.isFull() ? NO_ROOM : stories.listen(theText);
        theText.cut(0);
        return answer;
    }

    public int holds(int sort) {
        return stories.standing(sort);
    }

    public int parts() {
        return stories.partingSort();
    }

    // ---- sorters

    public int twice(int one, int other, int many) {
        return sorters.add(one, other, many);
    }

    public int alike() {
        return sorters.agreed();
    }

    public int mixed() {
        return sorters.mostMixed();
    }

    public int leans(int sort) throws NoSuchElementException {
        if (!town.hasSort(sort)) {
            throw new NoSuchElementException();
        }
        return sorters.oftener(sort);
    }

    public int truly(int sort, int cell) {
        return sorters.spread(sort, cell);
    }

    // ---- what is moved, feasts

    public int moved(int sort, int week) {
        return samples.cameAndWent(sort, week);
    }

    public int feasts(int street) {
        return samples.feastWeeks(street);
    }

    public int need(int kind, int sort, int off, int power) {
        return samples.fewest(kind, sort, off, power, false);
    }

    public int weeks(int kind, int sort, int off, int power) {
        return samples.fewest(kind, sort, off, power, true);
    }

    // ---- a mound

    public int paper(int layer, int from, int to) {
        return mound.addPaper(layer, from, to);
    }

    public int year(int layer) {
        return mound.yearsOf(layer);
    }

    public int stray() {
        return mound.fewestOut();
    }

    public int was(int layer, int sort, int pieces, int now) {
        return mound.thrownOnce(layer, sort, pieces, now);
    }

    // ---- being told

    public boolean told(int street, int week) {
        return town.setTold(street, week);
    }

    public int does(int kind, int sort, int w) {
        return samples.effect(kind, sort, w);
    }

    // ---- kept

    public boolean keep(int i) {
        return numbers.store(i);
    }

    public boolean again(int i) {
        return numbers.restore(i);
    }

    public int count(int what) {
        switch (what) {
            case 0: return town.sortCount();
            case 1: return town.streetCount();
            case 2: return laws.bits();
            case 3: return stories.size();
            case 4: return sorters.size();
            case 5: return mound.size();
            case 6: return numbers.size();
            case 7: return theRow.size();
            case 8: return theText.size();
            default: return NONE;
        }
    }

    public long row(int i) throws NoSuchElementException {
        if (!theRow.has(i)) {
            throw new NoSuchElementException();
        }
        return theRow.at(i);
    }

    // ---- helps

    private static boolean between(int v, int least, int most) {
        return v >= least && v <= most;
    }

    private static int within(int v, int least, int most) {
        return v < least ? least : v > most ? most : v;
    }

    private static boolean hasBit(int bits, int i) {
        return (bits >> i & 1) == 1;
    }

    private static boolean isKind(int kind) {
        return between(kind, 0, KINDS - 1);
    }

    private static boolean isWay(int way) {
        return between(way, 0, WAYS - 1);
    }

    private static boolean isWeek(int week) {
        return between(week, 0, WEEKS - 1);
    }

    /** Compares two fractions with lower numbers above 0. */
    private static int compareFractions(long upper, long lower, long otherUpper, long otherLower) {
        return Long.compare(upper * otherLower, otherUpper * lower);
    }

    /** The greatest number that divides both (0 of 0 and 0). */
    private static long commonDivisor(long one, long other) {
        long a = Math.abs(one);
        long b = Math.abs(other);
        // Two longs take at most 92 steps, so the counter never ends this early.
        for (int step = 0; step < 100 && b != 0; step++) {
            long rest = a % b;
            a = b;
            b = rest;
        }
        return a;
    }

    /** THE ROW: the numbers told last. */
    private static final class Row {
        private final long[] numbers = new long[MOST];
        private int size;

        Row clear() {
            size = 0;
            return this;
        }

        Row add(long number) {
            if (size < numbers.length) {
                numbers[size] = number;
                size++;
            }
            return this;
        }

        Row addFraction(long upper, long lower) {
            long divisor = commonDivisor(upper, lower);
            if (divisor == 0) {
                return this;
            }
            long signed = lower < 0 ? -divisor : divisor;
            return add(upper / signed).add(lower / signed);
        }

        boolean has(int i) {
            return i >= 0 && i < size;
        }

        long at(int i) {
            return has(i) ? numbers[i] : 0;
        }

        int size() {
            return size;
        }
    }

    /** THE TEXT: signs told four at a time. */
    private static final class Text {
        private static final int ROOM = 60;

        private final int[] signs = new int[ROOM];
        private int size;

        int append(int four) {
            if (size > ROOM - 4) {
                return NONE;
            }
            for (int shift = 24; shift >= 0; shift -= 8) {
                signs[size] = four >>> shift & 255;
                size++;
            }
            return size;
        }

        boolean cut(int n) {
            if (n < 0 || n > size) {
                return false;
            }
            size = n;
            return true;
        }

        int at(int p) {
            return p >= 0 && p < size ? signs[p] : NONE;
        }

        int size() {
            return size;
        }
    }

    /** NUMBERS by KIND, CELL and SORT, and R; with what is kept of them. */
    private static final class Numbers {
        private static final int ALL = KINDS * CELLS * MOST;
        private static final int KEPT = 3;

        private final int[] now = new int[ALL];
        private final int[][] kept = new int[KEPT][ALL];
        private final int[] keptR = new int[KEPT];
        private final boolean[] isKept = new boolean[KEPT];
        private int r = 1;

        Numbers() {
            for (int place = 0; place < ALL; place++) {
                now[place] = NONE;
            }
        }

        private static int placeOf(int kind, int cell, int sort) {
            boolean inside = kind >= 0 && kind < KINDS && cell >= 0 && cell < CELLS && sort >= 0 && sort < MOST;
            return inside ? (kind * CELLS + cell) * MOST + sort : NONE;
        }

        /** NONE: not told. */
        int of(int kind, int cell, int sort) {
            int place = placeOf(kind, cell, sort);
            return place >= 0 && place < now.length ? now[place] : NONE;
        }

        boolean has(int kind, int cell, int sort) {
            return of(kind, cell, sort) >= 0;
        }

        void change(int kind, int cell, int sort, int v) {
            int place = placeOf(kind, cell, sort);
            if (place >= 0 && place < now.length) {
                now[place] = v;
            }
        }

        void addToBag(int cell, int sort, int pieces) {
            int before = Math.max(0, of(BAG, cell, sort));
            change(BAG, cell, sort, Math.min(GREATEST, before + pieces));
        }

        int draw(int n) {
            r = r * 1103515245 + 12345;
            return n > 0 ? (r >>> 16) % n : 0;
        }

        int reseed(int v) {
            int before = r;
            r = v;
            return before;
        }

        boolean store(int i) {
            if (i < 0 || i >= KEPT) {
                return false;
            }
            System.arraycopy(now, 0, kept[i], 0, ALL);
            keptR[i] = r;
            isKept[i] = true;
            return true;
        }

        boolean restore(int i) {
            if (i < 0 || i >= KEPT || !isKept[i]) {
                return false;
            }
            System.arraycopy(kept[i], 0, now, 0, ALL);
            r = keptR[i];
            return true;
        }

        int size() {
            int many = 0;
            for (int place = 0; place < ALL; place++) {
                if (now[place] >= 0) {
                    many++;
                }
            }
            return many;
        }
    }

    /** Six texts of at most forty signs, all of one form, which is asked sign by sign. */
    private abstract static class Book {
        private static final int TEXTS = 6;
        private static final int LONGEST = 40;

        private final int[] signs = new int[TEXTS * LONGEST];
        private final int[] sizes = new int[TEXTS];

        /** A new text is asked about. */
        abstract void begin();

        /** Whether this sign can stand behind those taken so far; after false nothing more is asked. */
        abstract boolean takes(int sign);

        /** Whether the signs taken so far can be all. */
        abstract boolean couldEnd();

        /** Whether there can be a text of this number. */
        boolean isText(int i) {
            return i >= 0 && i < TEXTS;
        }

        /** Keeps the text under this number: 0, or -1 less the place at which it is wrong. */
        int write(int i, Text text) {
            int wrong = wrongPlace(text);
            if (wrong >= 0) {
                return -1 - wrong;
            }
            if (isText(i)) {
                for (int p = 0; p < text.size() && p < LONGEST; p++) {
                    signs[i * LONGEST + p] = text.at(p);
                }
                sizes[i] = text.size();
            }
            return 0;
        }

        private int wrongPlace(Text text) {
            begin();
            for (int p = 0; p < text.size() && p < LONGEST; p++) {
                if (!takes(text.at(p))) {
                    return p;
                }
            }
            if (text.size() > LONGEST) {
                return LONGEST;
            }
            return couldEnd() ? NONE : text.size();
        }

        int sizeOf(int i) {
            return isText(i) ? sizes[i] : 0;
        }

        int signAt(int i, int p) {
            boolean inside = i >= 0 && i < TEXTS && p >= 0 && p < sizes[i];
            return inside ? signs[i * LONGEST + p] : NONE;
        }
    }

    /** LAWS: their form, and what they come to. */
    private static final class Laws extends Book {
        private static final int BUYS = 0;
        private static final int EATS = 1;
        private static final int LAWS = 6;
        private static final int DEEPEST = 5;
        private static final int MOST_DIGITS = 3;

        private final Numbers numbers;
        private final int[] known = new int[26];
        // The law that is written, or reckoned.
        private int which;
        // Of what is written: whether a thing must come, how many ( are open, digits of the number
        // that ends here, and by how many ( are open (bits) whether a comparison stands there.
        private boolean awaits;
        private int open;
        private int digits;
        private int compared;
        // Of what is reckoned: the sign that is next, and how many there are.
        private int at;
        private int till;

        Laws(Numbers numbers) {
            this.numbers = numbers;
        }

        boolean isLaw(int i) {
            return isText(i);
        }

        int enact(int i, Text text) {
            which = i;
            return write(i, text);
        }

        int bits() {
            int bits = 0;
            for (int i = 0; i < LAWS; i++) {
                if (sizeOf(i) > 0) {
                    bits |= 1 << i;
                }
            }
            return bits;
        }

        void begin() {
            awaits = true;
            open = 0;
            digits = 0;
            compared = 0;
        }

        boolean takes(int sign) {
            return awaits ? takesAhead(sign) : takesBehind(sign);
        }

        boolean couldEnd() {
            return !awaits && open == 0;
        }

        private boolean takesAhead(int sign) {
            if (sign == '!' || sign == '-') {
                return true;
            }
            if (sign == '(') {
                open++;
                compared &= ~(1 << open);
                return open <= DEEPEST;
            }
            digits = isDigit(sign) ? 1 : 0;
            awaits = false;
            return digits == 1 || isThing(sign);
        }

        private boolean takesBehind(int sign) {
            if (isDigit(sign)) {
                digits++;
                return digits > 1 && digits <= MOST_DIGITS;
            }
            digits = 0;
            if (sign == ')') {
                open--;
                return open >= 0;
            }
            awaits = true;
            if (isComparison(sign)) {
                boolean first = !hasBit(compared, open);
                compared |= 1 << open;
                return first;
            }
            if (sign == '|' || sign == '&') {
                compared &= ~(1 << open);
                return true;
            }
            return sign == '+' || sign == '-' || sign == '*' || sign == '/';
        }

        private boolean isThing(int sign) {
            switch (sign) {
                case 'h': case 't': case 'w': case 'k': case 'r': case 'l': case 'q': case 'z':
                    return true;
                case 'b':
                    return which > BUYS;
                case 'e':
                    return which > EATS;
                default:
                    return false;
            }
        }

        private static boolean isDigit(int sign) {
            return sign >= '0' && sign <= '9';
        }

        private static boolean isComparison(int sign) {
            return sign == '<' || sign == '>' || sign == '=';
        }

        /** What a sign of a thing stands for from now on. */
        void let(char sign, int value) {
            int i = sign - 'a';
            if (i >= 0 && i < known.length) {
                known[i] = value;
            }
        }

        /** What a law comes to; without it the other number. */
        int reckon(int law, int without) {
            which = law;
            at = 0;
            till = sizeOf(law);
            return till == 0 ? without : either(0);
        }

        private int here() {
            return signAt(which, at);
        }

        private int either(int depth) {
            int left = both(depth);
            while (at < till && here() == '|') {
                at++;
                int right = both(depth);
                left = left != 0 || right != 0 ? 1 : 0;
            }
            return left;
        }

        private int both(int depth) {
            int left = comparison(depth);
            while (at < till && here() == '&') {
                at++;
                int right = comparison(depth);
                left = left != 0 && right != 0 ? 1 : 0;
            }
            return left;
        }

        private int comparison(int depth) {
            int left = added(depth);
            int sign = here();
            if (!isComparison(sign)) {
                return left;
            }
            at++;
            int right = added(depth);
            boolean is = sign == '<' ? left < right : sign == '>' ? left > right : left == right;
            return is ? 1 : 0;
        }

        private int added(int depth) {
            int left = multiplied(depth);
            while (at < till && (here() == '+' || here() == '-')) {
                boolean plus = here() == '+';
                at++;
                int right = multiplied(depth);
                left = plus ? left + right : left - right;
            }
            return left;
        }

        private int multiplied(int depth) {
            int left = thing(depth);
            while (at < till && (here() == '*' || here() == '/')) {
                boolean times = here() == '*';
                at++;
                int right = thing(depth);
                left = times ? left * right : right == 0 ? 0 : left / right;
            }
            return left;
        }

        private int thing(int depth) {
            int from = at;
            while (at < till && (here() == '!' || here() == '-')) {
                at++;
            }
            int bare = at;
            int value = bareThing(depth);
            // The sign that stands nearest to the thing comes first.
            for (int p = bare - 1; p >= from; p--) {
                value = signAt(which, p) == '-' ? -value : value == 0 ? 1 : 0;
            }
            return value;
        }

        private int bareThing(int depth) {
            int sign = here();
            if (isDigit(sign)) {
                int number = 0;
                while (at < till && isDigit(here())) {
                    number = number * 10 + here() - '0';
                    at++;
                }
                return number;
            }
            at++;
            if (sign == '(' && depth < DEEPEST) {
                int value = either(depth + 1);
                at++;
                return value;
            }
            int i = sign - 'a';
            return sign == 'z' ? numbers.draw(10) : i >= 0 && i < known.length ? known[i] : 0;
        }
    }

    /** SORTS and STREETS, and how a STREET LIVES a WEEK. */
    private static final class Town {
        private static final int MISSING = 3;

        private final Numbers numbers;
        private final Laws laws;
        private final int[] leaves = new int[MOST];
        private final int[] rights = new int[MOST];
        private final int[] lasts = new int[MOST];
        private final int[] sinks = new int[MOST];
        private final int[] backs = new int[MOST];
        private final int[] corners = new int[MOST];
        private final int[] lackWeeks = new int[MOST];
        private final int[] houses = new int[MOST];
        private final int[] toldFrom = new int[MOST];
        private int sorts;
        private int streets;

        Town(Numbers numbers, Laws laws) {
            this.numbers = numbers;
            this.laws = laws;
        }

        int addSort(int leavesOfHundred, int right, int lastsOfHundred) {
            boolean fits = between(leavesOfHundred, 1, 100) && between(right, -5, 5) && between(lastsOfHundred, 1, 100);
            if (!fits || sorts >= MOST) {
                return NONE;
            }
            leaves[sorts] = leavesOfHundred;
            rights[sorts] = right;
            lasts[sorts] = lastsOfHundred;
            sorts++;
            return sorts - 1;
        }

        boolean setGone(int sort, int sink, int back, int corner) {
            boolean fits = between(sink, 0, 100) && between(back, 0, 100) && between(corner, 0, 100);
            if (!hasSort(sort) || !fits || sink + back + corner > 100) {
                return false;
            }
            sinks[sort] = sink;
            backs[sort] = back;
            corners[sort] = corner;
            return true;
        }

        int addStreet(int housesInIt) {
            if (!between(housesInIt, 1, 100) || streets >= MOST) {
                return NONE;
            }
            houses[streets] = housesInIt;
            toldFrom[streets] = NONE;
            streets++;
            return streets - 1;
        }

        boolean setLack(int sort, int week, boolean is) {
            if (!hasSort(sort) || !isWeek(week)) {
                return false;
            }
            int bit = 1 << week;
            lackWeeks[sort] = is ? lackWeeks[sort] | bit : lackWeeks[sort] & ~bit;
            return true;
        }

        boolean setTold(int street, int week) {
            if (!hasStreet(street) || week != NONE && !isWeek(week)) {
                return false;
            }
            toldFrom[street] = week;
            return true;
        }

        int sortCount() {
            return sorts;
        }

        int streetCount() {
            return streets;
        }

        int cellCount() {
            return WEEKS * streets;
        }

        boolean hasSort(int sort) {
            return sort >= 0 && sort < sorts;
        }

        boolean hasStreet(int street) {
            return street >= 0 && street < streets;
        }

        boolean hasCell(int cell) {
            return cell >= 0 && cell < cellCount();
        }

        boolean hasNumber(int kind, int cell, int sort) {
            return isKind(kind) && hasCell(cell) && hasSort(sort);
        }

        /** 1 at least, so that it can divide. */
        int leavesOf(int sort) {
            return hasSort(sort) ? leaves[sort] : 1;
        }

        int rightOf(int sort) {
            return hasSort(sort) ? rights[sort] : 0;
        }

        /** 1 at least, so that it can divide. */
        int lastsOf(int sort) {
            return hasSort(sort) ? lasts[sort] : 1;
        }

        /** What of a hundred PIECES is left to the own BAG. */
        int staysOf(int sort) {
            return hasSort(sort) ? 100 - sinks[sort] - backs[sort] - corners[sort] : 100;
        }

        boolean isLack(int sort, int week) {
            return hasSort(sort) && isWeek(week) && hasBit(lackWeeks[sort], week);
        }

        /** NONE: never. */
        int toldFromOf(int street) {
            return hasStreet(street) ? toldFrom[street] : NONE;
        }

        int readSheet(int sort, int kind, int n, int f, int step) {
            if (!hasSort(sort) || !between(kind, 0, MISSING) || n > CELLS) {
                return NONE;
            }
            if (kind != MISSING && n < 0) {
                return NOT_HAD;
            }
            int till = kind == MISSING || n > cellCount() ? cellCount() : n;
            for (int cell = 0; cell < till; cell++) {
                int entry = kind == MISSING ? NONE : entryOf(kind, f + cell * step);
                numbers.change(BAG, cell, sort, within(entry, NONE, GREATEST));
            }
            return till;
        }

        private static int entryOf(int kind, int v) {
            return kind == 0 ? (byte) v : kind == 1 ? (short) v : v;
        }

        int liveWeek(int street, int week) {
            if (!hasStreet(street) || !isWeek(week)) {
                return NONE;
            }
            laws.let('h', houses[street]);
            laws.let('t', street);
            laws.let('w', week);
            int left = 0;
            for (int sort = 0; sort < sorts; sort++) {
                left += liveSort(street, week, sort);
            }
            return left;
        }

        private int liveSort(int street, int week, int sort) {
            laws.let('k', sort);
            laws.let('r', rightOf(sort));
            laws.let('l', leavesOf(sort));
            laws.let('q', isLack(sort, week) ? 1 : 0);
            int bought = within(laws.reckon(Laws.BUYS, 0), 0, GREATEST);
            laws.let('b', bought);
            int eaten = within(laws.reckon(Laws.EATS, bought), 0, bought);
            laws.let('e', eaten);
            int thrown = eaten * leavesOf(sort) / 100 + bought - eaten;
            int cell = WEEKS * street + week;
            numbers.change(SHOP, cell, sort, bought);
            for (int way = 0; way < WAYS; way++) {
                int said = laws.reckon(SAID + way, eaten);
                numbers.change(SAID + way, cell, sort, within(said, 0, GREATEST));
            }
            return throwAway(street, week, sort, thrown);
        }

        /** How many PIECES are left to the own BAG. */
        private int throwAway(int street, int week, int sort, int thrown) {
            if (!hasSort(sort)) {
                return 0;
            }
            int toCorner = thrown * corners[sort] / 100;
            int left = thrown - thrown * sinks[sort] / 100 - thrown * backs[sort] / 100 - toCorner;
            numbers.addToBag(WEEKS * street + week, sort, left);
            if (toCorner > 0) {
                int next = hasStreet(street + 1) ? street + 1 : 0;
                numbers.addToBag(WEEKS * next + week, sort, toCorner);
            }
            return left;
        }
    }

    /** Sums, and how far answers are off. */
    private static final class Answers {
        private static final int PARTS = 3;
        private static final int THOUSAND = 1000;

        private final Town town;
        private final Numbers numbers;
        private final Row row;
        // Of the SORT and WAY measured last: SAID less SHOP.
        private int cells;
        private int sum;
        private int least;
        private int greatest;
        private int tooMuch;
        private int tooLittle;
        // Of the SORT and WAY gathered last: BAG, SHOP, SAID, and each times each.
        private int gathered;
        private final long[] sums = new long[PARTS];
        private final long[] products = new long[PARTS * PARTS];

        Answers(Town town, Numbers numbers, Row row) {
            this.town = town;
            this.numbers = numbers;
            this.row = row;
        }

        int total(int kind, int sort, int streets, int weeks) {
            boolean bits = between(streets, 1, 255) && between(weeks, 1, 4095);
            if (!isKind(kind) || !town.hasSort(sort) || !bits) {
                return NONE;
            }
            int total = 0;
            int many = 0;
            for (int cell = 0; cell < town.cellCount(); cell++) {
                boolean asked = hasBit(streets, cell / WEEKS) && hasBit(weeks, cell % WEEKS);
                if (asked && numbers.has(kind, cell, sort)) {
                    total += numbers.of(kind, cell, sort);
                    many++;
                }
            }
            row.clear().add(many);
            return total;
        }

        int eatenInCell(int sort, int cell, int waste) {
            if (!town.hasSort(sort) || !town.hasCell(cell) || !between(waste, 0, 100)) {
                return NONE;
            }
            if (!numbers.has(BAG, cell, sort)) {
                return NOT_HAD;
            }
            long pieces = numbers.of(BAG, cell, sort);
            int leaves = town.leavesOf(sort);
            int stays = town.staysOf(sort);
            row.clear().addFraction(pieces * (100 - waste), leaves);
            if (stays == 0) {
                return ALL_GOES;
            }
            row.addFraction(pieces * 100 * 100, (long) leaves * stays);
            return 0;
        }

        int surely(int sort, int way, int waste) {
            if (!town.hasSort(sort) || !isWay(way) || !between(waste, 0, 100)) {
                return NONE;
            }
            long pieces = 0;
            long said = 0;
            boolean any = false;
            for (int cell = 0; cell < town.cellCount(); cell++) {
                if (numbers.has(BAG, cell, sort) && numbers.has(SAID + way, cell, sort)) {
                    pieces += numbers.of(BAG, cell, sort);
                    said += numbers.of(SAID + way, cell, sort);
                    any = true;
                }
            }
            if (!any) {
                return NOT_HAD;
            }
            // All CELLS have the same lower numbers, so the bounds of the sums are the sums of the bounds.
            long leaves = town.leavesOf(sort);
            long stays = town.staysOf(sort);
            row.clear().addFraction(pieces * (100 - waste), leaves).add(said);
            if (pieces * (100 - waste) > said * leaves) {
                return 1;
            }
            return stays > 0 && pieces * 100 * 100 < said * leaves * stays ? 2 : 0;
        }

        private void measure(int sort, int way) {
            cells = 0;
            sum = 0;
            least = 0;
            greatest = 0;
            tooMuch = 0;
            tooLittle = 0;
            for (int cell = 0; cell < town.cellCount(); cell++) {
                if (numbers.has(SHOP, cell, sort) && numbers.has(SAID + way, cell, sort)) {
                    measureOne(numbers.of(SAID + way, cell, sort) - numbers.of(SHOP, cell, sort));
                }
            }
        }

        private void measureOne(int off) {
            least = cells == 0 || off < least ? off : least;
            greatest = cells == 0 || off > greatest ? off : greatest;
            tooMuch += off > 0 ? 1 : 0;
            tooLittle += off < 0 ? 1 : 0;
            sum += off;
            cells++;
        }

        int offBy(int sort, int way) {
            if (!town.hasSort(sort) || !isWay(way)) {
                return NONE;
            }
            measure(sort, way);
            if (cells > 0) {
                row.clear().addFraction(sum, cells).add(least).add(greatest);
            }
            return cells;
        }

        int nearestWay(int sort) {
            if (!town.hasSort(sort)) {
                return NONE;
            }
            int best = NOT_HAD;
            long bestSum = 0;
            long bestCells = 1;
            for (int way = 0; way < WAYS; way++) {
                measure(sort, way);
                long size = Math.abs(sum);
                if (cells > 0 && (best < 0 || compareFractions(size, cells, bestSum, bestCells) < 0)) {
                    best = way;
                    bestSum = size;
                    bestCells = cells;
                }
            }
            if (best >= 0) {
                measure(sort, best);
                row.clear().add(tooMuch).add(tooLittle);
            }
            return best;
        }

        int worstSort(int way, int what) {
            if (!isWay(way) || !between(what, 0, 1)) {
                return NONE;
            }
            int wanted = what == 0 ? 1 : -1;
            int worst = NOT_HAD;
            long worstSum = 0;
            long worstCells = 1;
            for (int sort = 0; sort < town.sortCount(); sort++) {
                measure(sort, way);
                if (cells > 0 && (worst < 0 || compareFractions(sum, cells, worstSum, worstCells) * wanted > 0)) {
                    worst = sort;
                    worstSum = sum;
                    worstCells = cells;
                }
            }
            if (worst >= 0) {
                row.clear().addFraction(worstSum, worstCells);
            }
            return worst;
        }

        int pairsByRight(int way) {
            if (!isWay(way)) {
                return NONE;
            }
            int greater = 0;
            int lesser = 0;
            int neither = 0;
            for (int one = 0; one < town.sortCount(); one++) {
                for (int other = one + 1; other < town.sortCount(); other++) {
                    int goes = goesWithRight(one, other, way);
                    greater += goes == 1 ? 1 : 0;
                    lesser += goes == -1 ? 1 : 0;
                    neither += goes == 0 ? 1 : 0;
                }
            }
            row.clear().add(lesser).add(neither);
            return greater;
        }

        /** 1, -1, 0, or NOT_HAD if one of both has no CELLS. */
        private int goesWithRight(int one, int other, int way) {
            measure(one, way);
            long oneSum = sum;
            long oneCells = cells;
            measure(other, way);
            if (oneCells == 0 || cells == 0) {
                return NOT_HAD;
            }
            int byRight = Integer.compare(town.rightOf(one), town.rightOf(other));
            int both = byRight * compareFractions(oneSum, oneCells, sum, cells);
            return both > 0 ? 1 : both < 0 ? -1 : 0;
        }

        /** Gathers CELLS in which BAG, SHOP and SAID by this WAY are told. */
        private void gather(int sort, int way) {
            gathered = 0;
            Arrays.fill(sums, 0);
            Arrays.fill(products, 0);
            for (int cell = 0; cell < town.cellCount(); cell++) {
                if (isWhole(sort, way, cell)) {
                    gatherOne(sort, way, cell);
                }
            }
        }

        private boolean isWhole(int sort, int way, int cell) {
            return numbers.has(BAG, cell, sort) && numbers.has(SHOP, cell, sort) && numbers.has(SAID + way, cell, sort);
        }

        private void gatherOne(int sort, int way, int cell) {
            gathered++;
            for (int x = 0; x < PARTS; x++) {
                long value = numbers.of(kindOf(x, way), cell, sort);
                sums[x] += value;
                for (int y = 0; y < PARTS; y++) {
                    products[x * PARTS + y] += value * numbers.of(kindOf(y, way), cell, sort);
                }
            }
        }

        private static int kindOf(int part, int way) {
            return part == SAID ? SAID + way : part;
        }

        /** S(x, y) of DOC.md: below 2.4 times 10 to 9 in size, so that two of them multiply in a long. */
        private long spread(int x, int y) {
            boolean inside = between(x, 0, PARTS - 1) && between(y, 0, PARTS - 1);
            return inside ? gathered * products[x * PARTS + y] - sums[x] * sums[y] : 0;
        }

        int threeApart(int sort, int way) {
            if (!town.hasSort(sort) || !isWay(way)) {
                return NONE;
            }
            gather(sort, way);
            if (gathered < 2 || lowerOf(BAG) == 0 || lowerOf(SHOP) == 0 || lowerOf(SAID) == 0) {
                return NOT_HAD;
            }
            row.clear();
            for (int x = 0; x < PARTS; x++) {
                long upper = spread(x, (x + 1) % PARTS) * spread(x, (x + 2) % PARTS);
                row.add(thousandths(upper, lowerOf(x)));
            }
            return gathered;
        }

        private long lowerOf(int x) {
            return spread((x + 1) % PARTS, (x + 2) % PARTS) * spread(x, x);
        }

        /** A thousand times upper by lower, cut to 0; the product itself would not fit a long. */
        private static long thousandths(long upper, long lower) {
            long by = Math.abs(lower);
            if (by == 0) {
                return 0;
            }
            long rest = Math.abs(upper) % by;
            long whole = Math.abs(upper) / by;
            long part = 0;
            long partRest = 0;
            // Rest times a thousand by its bits: doubled, and one rest more where a bit is; a sum that
            // reaches the divisor goes over at once, so that nothing is ever as large as two divisors.
            for (int bit = 9; bit >= 0; bit--) {
                boolean over = partRest >= by - partRest;
                partRest = over ? partRest - (by - partRest) : partRest + partRest;
                part = part + part + (over ? 1 : 0);
                if (hasBit(THOUSAND, bit)) {
                    over = partRest >= by - rest;
                    partRest = over ? partRest - (by - rest) : partRest + rest;
                    part += over ? 1 : 0;
                }
            }
            long size = whole * THOUSAND + part;
            return (upper < 0) == (lower < 0) ? size : -size;
        }

        int saidByShop(int sort, int way) {
            if (!town.hasSort(sort) || !isWay(way)) {
                return NONE;
            }
            gather(sort, way);
            if (gathered < 2 || spread(BAG, SHOP) == 0) {
                return NOT_HAD;
            }
            row.clear().addFraction(spread(BAG, SAID), spread(BAG, SHOP));
            return 0;
        }

        /** Whether SHOP, this WAY and that of neighbours are told in a CELL. */
        private boolean hasNeighbours(int sort, int way, int cell) {
            return numbers.has(SHOP, cell, sort) && numbers.has(SAID + way, cell, sort)
                && numbers.has(SAID + NEIGHBOURS, cell, sort);
        }

        int nearerNeighbours(int sort, int way) {
            if (!town.hasSort(sort) || !between(way, 0, NEIGHBOURS - 1)) {
                return NONE;
            }
            int nearer = 0;
            int farther = 0;
            int half = 0;
            for (int cell = 0; cell < town.cellCount(); cell++) {
                if (hasNeighbours(sort, way, cell)) {
                    int sold = numbers.of(SHOP, cell, sort);
                    int own = numbers.of(SAID + way, cell, sort);
                    int neighbours = numbers.of(SAID + NEIGHBOURS, cell, sort);
                    int byOwn = Math.abs(own - sold);
                    int byNeighbours = Math.abs(neighbours - sold);
                    nearer += byNeighbours < byOwn ? 1 : 0;
                    farther += byOwn < byNeighbours ? 1 : 0;
                    half += Math.abs((own + neighbours) / 2 - sold) < Math.min(byOwn, byNeighbours) ? 1 : 0;
                }
            }
            row.clear().add(farther).add(half);
            return nearer;
        }

        int bestShare(int sort, int way) {
            if (!town.hasSort(sort) || !between(way, 0, NEIGHBOURS - 1)) {
                return NONE;
            }
            boolean any = false;
            long more = 0;
            long both = 0;
            long without = 0;
            // What is squared is the share times what neighbours say more, and a hundred times what the
            // other WAY is off: by these three sums the square of each share is had at once.
            for (int cell = 0; cell < town.cellCount(); cell++) {
                if (hasNeighbours(sort, way, cell)) {
                    long own = numbers.of(SAID + way, cell, sort);
                    long neighbours = numbers.of(SAID + NEIGHBOURS, cell, sort) - own;
                    long off = 100 * (own - numbers.of(SHOP, cell, sort));
                    more += neighbours * neighbours;
                    both += neighbours * off;
                    without += off * off;
                    any = true;
                }
            }
            return any ? leastShare(more, both, without) : NOT_HAD;
        }

        private int leastShare(long more, long both, long without) {
            int best = 0;
            long bestSquares = without;
            for (int share = 1; share <= 100; share++) {
                long squares = more * share * share + 2 * both * share + without;
                if (squares < bestSquares) {
                    best = share;
                    bestSquares = squares;
                }
            }
            row.clear().add(bestSquares);
            return best;
        }
    }

    /** WASTE in a LACK, and STORIES of it. */
    private static final class Stories extends Book {
        private static final int STORIES = 6;
        private static final int CLAIM = 4;
        // Signs by what they stand for: first in LACK, then (one more) in other WEEKS.
        private static final String SIGNS = "WwBbEeNnSs";
        private static final int WASTED = 0;
        private static final int SOLD = 2;
        private static final int BINNED = 4;
        private static final int BY_NEIGHBOURS = 6;
        private static final int BY_HOUSES = 8;
        private static final int THINGS = 10;

        private final Town town;
        private final Numbers numbers;
        private final Row row;
        private int stories;
        // How many signs of the STORY that is written were taken.
        private int taken;
        // Of the SORT judged last: what each of SIGNS is (a lower number 0: it can't be had), and of
        // each STORY how many CLAIMS do not hold.
        private final long[] uppers = new long[THINGS];
        private final long[] lowers = new long[THINGS];
        private final int[] failing = new int[STORIES];

        Stories(Town town, Numbers numbers, Row row) {
            this.town = town;
            this.numbers = numbers;
            this.row = row;
        }

        int size() {
            return stories;
        }

        boolean isFull() {
            return stories >= STORIES;
        }

        int listen(Text text) {
            int answer = write(stories, text);
            if (answer < 0) {
                return answer;
            }
            stories++;
            return stories - 1;
        }

        void begin() {
            taken = 0;
        }

        boolean takes(int sign) {
            int place = taken % CLAIM;
            taken++;
            if (place == 1) {
                return sign == '<' || sign == '>' || sign == '=';
            }
            return place == 3 ? sign == ';' : thingOf(sign) >= 0;
        }

        boolean couldEnd() {
            return taken == 0 || taken % CLAIM == 3;
        }

        /** NONE: no SIGN. */
        private static int thingOf(int sign) {
            return sign >= 0 && sign <= 255 ? SIGNS.indexOf((char) sign) : NONE;
        }

        int wasteInLack(int sort) {
            if (!town.hasSort(sort)) {
                return NONE;
            }
            measureWaste(sort);
            if (lowers[WASTED] == 0) {
                return NOT_HAD;
            }
            row.clear().addFraction(uppers[WASTED], lowers[WASTED]).addFraction(uppers[WASTED + 1], lowers[WASTED + 1]);
            int compared = compareThings(WASTED, WASTED + 1);
            return compared > 0 ? 1 : compared < 0 ? 2 : 0;
        }

        private void measureWaste(int sort) {
            clearThings(WASTED);
            for (int cell = 0; cell < town.cellCount(); cell++) {
                if (numbers.has(BAG, cell, sort) && numbers.has(SHOP, cell, sort)) {
                    int sold = numbers.of(SHOP, cell, sort);
                    int wasted = numbers.of(BAG, cell, sort) - sold * town.leavesOf(sort) / 100;
                    addTo(town.isLack(sort, cell % WEEKS) ? WASTED : WASTED + 1, wasted, sold);
                }
            }
            // Without one of both there is neither.
            if (lowers[WASTED] == 0 || lowers[WASTED + 1] == 0) {
                clearThings(WASTED);
            }
        }

        private void measureMeans(int sort, int kind, int thing) {
            clearThings(thing);
            for (int cell = 0; cell < town.cellCount(); cell++) {
                if (numbers.has(kind, cell, sort)) {
                    addTo(town.isLack(sort, cell % WEEKS) ? thing : thing + 1, numbers.of(kind, cell, sort), 1);
                }
            }
        }

        /** This thing and the one behind it come to nothing. */
        private void clearThings(int thing) {
            for (int i = thing; i < thing + 2; i++) {
                if (i >= 0 && i < THINGS) {
                    uppers[i] = 0;
                    lowers[i] = 0;
                }
            }
        }

        private void addTo(int thing, int upper, int lower) {
            if (thing >= 0 && thing < THINGS) {
                uppers[thing] += upper;
                lowers[thing] += lower;
            }
        }

        private boolean isHad(int thing) {
            return thing >= 0 && thing < THINGS && lowers[thing] > 0;
        }

        private int compareThings(int one, int other) {
            boolean had = isHad(one) && isHad(other);
            return had ? compareFractions(uppers[one], lowers[one], uppers[other], lowers[other]) : 0;
        }

        /** STORIES that hold for a SORT, as bits. */
        private int judge(int sort) {
            measureWaste(sort);
            measureMeans(sort, SHOP, SOLD);
            measureMeans(sort, BAG, BINNED);
            measureMeans(sort, SAID + NEIGHBOURS, BY_NEIGHBOURS);
            measureMeans(sort, SAID, BY_HOUSES);
            int bits = 0;
            for (int i = 0; i < stories && i < STORIES; i++) {
                failing[i] = failingOf(i);
                if (failing[i] == 0) {
                    bits |= 1 << i;
                }
            }
            return bits;
        }

        private int failingOf(int i) {
            int many = 0;
            for (int p = 0; p < sizeOf(i); p += CLAIM) {
                if (!isSo(thingOf(signAt(i, p)), signAt(i, p + 1), thingOf(signAt(i, p + 2)))) {
                    many++;
                }
            }
            return many;
        }

        private boolean isSo(int one, int sign, int other) {
            if (!isHad(one) || !isHad(other)) {
                return false;
            }
            int compared = compareThings(one, other);
            return sign == '<' ? compared < 0 : sign == '>' ? compared > 0 : compared == 0;
        }

        int standing(int sort) {
            if (!town.hasSort(sort)) {
                return NONE;
            }
            int bits = judge(sort);
            row.clear();
            for (int i = 0; i < stories && i < STORIES; i++) {
                row.add(failing[i]);
            }
            return bits;
        }

        int partingSort() {
            int best = NOT_HAD;
            int bestBits = 0;
            for (int sort = 0; sort < town.sortCount(); sort++) {
                int bits = judge(sort);
                if (bits != 0 && (best < 0 || Integer.bitCount(bits) < Integer.bitCount(bestBits))) {
                    best = sort;
                    bestBits = bits;
                }
            }
            if (best >= 0) {
                row.clear().add(bestBits);
            }
            return best;
        }
    }

    /** PIECES taken twice: by the first SORTER for one SORT, by the second for another. */
    private static final class Sorters {
        private static final int MOST_PIECES = 9999;

        private final Town town;
        private final Numbers numbers;
        private final Row row;
        private final int[] taken = new int[MOST * MOST];
        private int pieces;

        Sorters(Town town, Numbers numbers, Row row) {
            this.town = town;
            this.numbers = numbers;
            this.row = row;
        }

        int size() {
            return pieces;
        }

        int add(int one, int other, int many) {
            if (!town.hasSort(one) || !town.hasSort(other) || !between(many, 1, 99) || pieces + many > MOST_PIECES) {
                return NONE;
            }
            taken[one * MOST + other] += many;
            pieces += many;
            return pieces;
        }

        private int takenAs(int one, int other) {
            return town.hasSort(one) && town.hasSort(other) ? taken[one * MOST + other] : 0;
        }

        private int takenByFirst(int sort) {
            int many = 0;
            for (int other = 0; other < town.sortCount(); other++) {
                many += takenAs(sort, other);
            }
            return many;
        }

        private int takenBySecond(int sort) {
            int many = 0;
            for (int one = 0; one < town.sortCount(); one++) {
                many += takenAs(one, sort);
            }
            return many;
        }

        int agreed() {
            int agreed = 0;
            long chance = 0;
            for (int sort = 0; sort < town.sortCount(); sort++) {
                agreed += takenAs(sort, sort);
                chance += (long) takenByFirst(sort) * takenBySecond(sort);
            }
            long lower = (long) pieces * pieces - chance;
            // Without PIECES it is 0, too.
            if (lower == 0) {
                return NOT_HAD;
            }
            row.clear().addFraction((long) pieces * agreed - chance, lower);
            return agreed;
        }

        int mostMixed() {
            int most = 0;
            int mostOne = 0;
            int mostOther = 0;
            for (int one = 0; one < town.sortCount(); one++) {
                for (int other = one + 1; other < town.sortCount(); other++) {
                    int many = takenAs(one, other) + takenAs(other, one);
                    if (many > most) {
                        most = many;
                        mostOne = one;
                        mostOther = other;
                    }
                }
            }
            if (most > 0) {
                row.clear().add(mostOne).add(mostOther);
            }
            return most;
        }

        int oftener(int sort) {
            return takenByFirst(sort) - takenBySecond(sort);
        }

        int spread(int sort, int cell) {
            if (!town.hasSort(sort) || !town.hasCell(cell)) {
                return NONE;
            }
            int all = takenByFirst(sort);
            if (!numbers.has(BAG, cell, sort) || all == 0) {
                return NOT_HAD;
            }
            row.clear();
            int sum = 0;
            for (int other = 0; other < town.sortCount(); other++) {
                int truly = numbers.of(BAG, cell, sort) * takenAs(sort, other) / all;
                row.add(truly);
                sum += truly;
            }
            return sum;
        }
    }

    /** What goes to others' BAGS, feasts, how many STREETS and WEEKS it takes, and what being told does. */
    private static final class Samples {
        // Each of 1 .. 12 divides it, so that MEANS of so many are whole numbers of such parts.
        private static final long PARTS = 27720;
        // Groups of CELLS: those of STREETS that were told, ahead of WEEK w and since; of those never told.
        private static final int TOLD_AHEAD = 0;
        private static final int TOLD_SINCE = 1;
        private static final int NEVER_AHEAD = 2;
        private static final int NEVER_SINCE = 3;
        private static final int GROUPS = 4;

        private final Town town;
        private final Numbers numbers;
        private final Row row;
        private final int[] totals = new int[WEEKS];
        private final int[] sorted = new int[WEEKS];
        private final long[] means = new long[WEEKS];
        private int many;
        private final int[] ways = new int[WEEKS + 1];
        private final int[] nearWays = new int[WEEKS + 1];
        private final long[] sums = new long[GROUPS];
        private final long[] cells = new long[GROUPS];

        Samples(Town town, Numbers numbers, Row row) {
            this.town = town;
            this.numbers = numbers;
            this.row = row;
        }

        int cameAndWent(int sort, int week) {
            if (!town.hasSort(sort) || !isWeek(week)) {
                return NONE;
            }
            int came = 0;
            int went = 0;
            int cameTo = 0;
            int wentFrom = 0;
            for (int street = 0; street < town.streetCount(); street++) {
                int cell = WEEKS * street + week;
                if (numbers.has(BAG, cell, sort) && numbers.has(SHOP, cell, sort)) {
                    int bag = numbers.of(BAG, cell, sort);
                    int most = numbers.of(SHOP, cell, sort);
                    int least = most * town.leavesOf(sort) / 100;
                    came += bag > most ? bag - most : 0;
                    cameTo |= bag > most ? 1 << street : 0;
                    went += bag < least ? least - bag : 0;
                    wentFrom |= bag < least ? 1 << street : 0;
                }
            }
            row.clear().add(went).add(cameTo).add(wentFrom);
            return came;
        }

        int feastWeeks(int street) {
            if (!town.hasStreet(street)) {
                return NONE;
            }
            int told = 0;
            for (int week = 0; week < WEEKS; week++) {
                totals[week] = bagsOf(WEEKS * street + week);
                if (totals[week] >= 0) {
                    insert(told, totals[week]);
                    told++;
                }
            }
            if (told == 0) {
                return 0;
            }
            int middle = sorted[(told - 1) / 2];
            int bits = 0;
            for (int week = 0; week < WEEKS; week++) {
                bits |= totals[week] > 2 * middle ? 1 << week : 0;
            }
            return bits;
        }

        /** Of all SORTS together; NONE: none is told. */
        private int bagsOf(int cell) {
            int all = NONE;
            for (int sort = 0; sort < town.sortCount(); sort++) {
                if (numbers.has(BAG, cell, sort)) {
                    all = (all < 0 ? 0 : all) + numbers.of(BAG, cell, sort);
                }
            }
            return all;
        }

        /** Into so many that are sorted. */
        private void insert(int size, int total) {
            int p = size;
            while (p > 0 && p < WEEKS && sorted[p - 1] > total) {
                sorted[p] = sorted[p - 1];
                p--;
            }
            if (p >= 0 && p < WEEKS) {
                sorted[p] = total;
            }
        }

        int fewest(int kind, int sort, int off, int power, boolean byWeeks) {
            boolean fits = between(off, 0, GREATEST) && between(power, 1, 100);
            if (!isKind(kind) || !town.hasSort(sort) || !fits) {
                return NONE;
            }
            gatherMeans(kind, sort, byWeeks);
            countWays(off);
            for (int k = 1; k <= many && k <= WEEKS; k++) {
                if (nearWays[k] * 100 >= power * ways[k]) {
                    row.clear().add(nearWays[k]).add(ways[k]);
                    return k;
                }
            }
            return NOT_HAD;
        }

        private void gatherMeans(int kind, int sort, boolean byWeeks) {
            many = 0;
            int ones = byWeeks ? WEEKS : town.streetCount();
            int across = byWeeks ? town.streetCount() : WEEKS;
            for (int one = 0; one < ones && one < WEEKS; one++) {
                long sum = 0;
                int told = 0;
                for (int i = 0; i < across; i++) {
                    int cell = byWeeks ? WEEKS * i + one : WEEKS * one + i;
                    if (numbers.has(kind, cell, sort)) {
                        sum += numbers.of(kind, cell, sort);
                        told++;
                    }
                }
                if (told > 0 && many < WEEKS) {
                    means[many] = sum * PARTS / told;
                    many++;
                }
            }
        }

        private void countWays(int off) {
            Arrays.fill(ways, 0);
            Arrays.fill(nearWays, 0);
            long all = 0;
            for (int i = 0; i < many && i < WEEKS; i++) {
                all += means[i];
            }
            int in = 0;
            long sum = 0;
            // From one way to the next a single one comes in or goes out (a Gray code), so that no sum
            // is added up anew.
            for (int step = 1; step < 1 << many; step++) {
                int i = Integer.numberOfTrailingZeros(step);
                in ^= 1 << i;
                sum += i >= WEEKS ? 0 : hasBit(in, i) ? means[i] : -means[i];
                int k = Integer.bitCount(in);
                if (k <= WEEKS) {
                    ways[k]++;
                    nearWays[k] += Math.abs(sum * many - all * k) <= off * PARTS * many * k ? 1 : 0;
                }
            }
        }

        int effect(int kind, int sort, int w) {
            if (!isKind(kind) || !town.hasSort(sort) || !between(w, 1, WEEKS - 1)) {
                return NONE;
            }
            gatherGroups(kind, sort, w);
            long told = cells[TOLD_AHEAD] * cells[TOLD_SINCE];
            long never = cells[NEVER_AHEAD] * cells[NEVER_SINCE];
            if (told == 0 || never == 0) {
                return NOT_HAD;
            }
            // By how much each went up, times its CELLS ahead of w and since then.
            long toldUp = sums[TOLD_SINCE] * cells[TOLD_AHEAD] - sums[TOLD_AHEAD] * cells[TOLD_SINCE];
            long neverUp = sums[NEVER_SINCE] * cells[NEVER_AHEAD] - sums[NEVER_AHEAD] * cells[NEVER_SINCE];
            long upper = toldUp * never - neverUp * told;
            row.clear().addFraction(upper, told * never);
            return upper > 0 ? 1 : upper < 0 ? 2 : 0;
        }

        private void gatherGroups(int kind, int sort, int w) {
            Arrays.fill(sums, 0);
            Arrays.fill(cells, 0);
            for (int cell = 0; cell < town.cellCount(); cell++) {
                int from = town.toldFromOf(cell / WEEKS);
                if (from <= w && numbers.has(kind, cell, sort)) {
                    boolean ahead = cell % WEEKS < w;
                    int told = ahead ? TOLD_AHEAD : TOLD_SINCE;
                    int never = ahead ? NEVER_AHEAD : NEVER_SINCE;
                    int group = from == NONE ? never : told;
                    sums[group] += numbers.of(kind, cell, sort);
                    cells[group]++;
                }
            }
        }
    }

    /** A mound by LAYERS and PAPERS. */
    private static final class Mound {
        private static final int LAYERS = 10;
        private static final int PAPERS = 12;
        private static final int MOST_PIECES = 9999;
        private static final int MOST_TENS = 4;

        private final Town town;
        private final Row row;
        private final int[] layers = new int[PAPERS];
        private final int[] firsts = new int[PAPERS];
        private final int[] lasts = new int[PAPERS];
        // Of each PAPER those told ahead of it (bits) that do not go together with it.
        private final int[] clashes = new int[PAPERS];
        private int papers;

        Mound(Town town, Row row) {
            this.town = town;
            this.row = row;
        }

        int size() {
            return papers;
        }

        int addPaper(int layer, int from, int to) {
            boolean years = from >= FIRST_YEAR && from <= to && to <= LAST_YEAR;
            if (!isLayer(layer) || !years || papers >= PAPERS) {
                return NONE;
            }
            layers[papers] = layer;
            firsts[papers] = from;
            lasts[papers] = to;
            clashes[papers] = 0;
            for (int other = 0; other < papers; other++) {
                if (clash(other, papers) || clash(papers, other)) {
                    clashes[papers] |= 1 << other;
                }
            }
            papers++;
            return papers;
        }

        private static boolean isLayer(int layer) {
            return between(layer, 0, LAYERS - 1);
        }

        /** Whether the lower one (or one of the same LAYER) begins when the upper one has ended. */
        private boolean clash(int upper, int lower) {
            boolean inside = between(upper, 0, PAPERS - 1) && between(lower, 0, PAPERS - 1);
            return inside && layers[upper] <= layers[lower] && firsts[lower] > lasts[upper];
        }

        /** PAPERS go together if no two of them clash: then each LAYER has a YEAR of its own and of all others. */
        private boolean goTogether(int kept) {
            for (int i = 0; i < papers && i < PAPERS; i++) {
                if (hasBit(kept, i) && (clashes[i] & kept) != 0) {
                    return false;
                }
            }
            return true;
        }

        private int allPapers() {
            return (1 << papers) - 1;
        }

        private int firstYearOf(int layer) {
            int first = FIRST_YEAR;
            for (int i = 0; i < papers && i < PAPERS; i++) {
                first = layers[i] >= layer ? Math.max(first, firsts[i]) : first;
            }
            return first;
        }

        private int lastYearOf(int layer) {
            int last = LAST_YEAR;
            for (int i = 0; i < papers && i < PAPERS; i++) {
                last = layers[i] <= layer ? Math.min(last, lasts[i]) : last;
            }
            return last;
        }

        int yearsOf(int layer) {
            if (!isLayer(layer)) {
                return NONE;
            }
            if (!goTogether(allPapers())) {
                return NOT_HAD;
            }
            int first = firstYearOf(layer);
            int last = lastYearOf(layer);
            row.clear().add(first).add(last);
            return last - first + 1;
        }

        int fewestOut() {
            int best = allPapers();
            // Upwards, so that of as few the least comes first.
            for (int out = 0; out <= allPapers(); out++) {
                if (Integer.bitCount(out) < Integer.bitCount(best) && goTogether(allPapers() & ~out)) {
                    best = out;
                }
            }
            row.clear().add(best);
            return Integer.bitCount(best);
        }

        int thrownOnce(int layer, int sort, int pieces, int now) {
            boolean fits = between(pieces, 0, MOST_PIECES) && between(now, FIRST_YEAR, LAST_YEAR);
            if (!isLayer(layer) || !town.hasSort(sort) || !fits) {
                return NONE;
            }
            if (!goTogether(allPapers())) {
                return NOT_HAD;
            }
            int lasting = town.lastsOf(sort);
            row.clear();
            row.add(grown(pieces, lasting, now - lastYearOf(layer)));
            row.add(grown(pieces, lasting, now - firstYearOf(layer)));
            return 0;
        }

        private static long grown(int pieces, int lasting, int years) {
            int tens = within(years / 10, 0, MOST_TENS);
            long upper = pieces;
            long lower = 1;
            for (int ten = 0; ten < tens; ten++) {
                upper *= 100;
                lower *= lasting;
            }
            return lower > 0 ? upper / lower : 0;
        }
    }
}
