import java.util.ArrayList;
import java.util.List;
import java.util.NoSuchElementException;

/**
 * Terms 2: what each call takes, the least and the greatest, and the first beyond each; and that a refused
 * call, or one that answers -2, changes nothing that later calls show. The towns: one that is empty, one
 * in which much is told, one that is full, and some more for answers that these do not give.
 */
public final class RefusedTest {
    private static final long THROWN = Long.MIN_VALUE;
    private static final Check check = new Check();

    /** A call with all that it takes. */
    private interface Call {
        long of(BinsThatTell x, int[] a);
    }

    private interface Maker {
        BinsThatTell made();
    }

    /** What a call takes: of each number the least and the greatest, and one that is taken. */
    private record Taken(String name, long refused, Call call, int[] good, int[][] ranges) { }

    /** A town that can be made again and again, and what it shows. */
    private static final class Town {
        final String name;
        final Maker maker;
        final List<String> shows;
        final int sorts;
        final int streets;
        final int rows;
        final int signs;

        Town(String name, Maker maker) {
            this.name = name;
            this.maker = maker;
            BinsThatTell x = maker.made();
            sorts = x.count(0);
            streets = x.count(1);
            rows = x.count(7);
            signs = x.count(8);
            shows = shown(x);
        }
    }

    public static void main(String[] args) {
        Town empty = new Town("empty", BinsThatTell::new);
        Town much = new Town("much told", RefusedTest::muchTold);
        Town full = new Town("full", RefusedTest::full);
        for (Town town : List.of(empty, much, full)) {
            for (Taken t : taken(town)) {
                beyondRanges(town, t);
                withinRanges(town, t);
            }
        }
        sheets(much);
        laws(much);
        stories(full);
        nothingMore(full);
        piecesAndPapers(new Town("9999 PIECES", RefusedTest::manyPieces));
        emptyTown(empty);
        notHad(new Town("little told", RefusedTest::littleTold));
        clashing(new Town("PAPERS that clash", RefusedTest::clashingPapers));
        check.end("RefusedTest");
    }

    // ---- what is taken

    private static Taken row(String name, long refused, Call call, int[] good, int[]... ranges) {
        return new Taken(name, refused, call, good, ranges);
    }

    private static int[] of(int... numbers) {
        return numbers;
    }

    private static List<Taken> taken(Town town) {
        List<Taken> all = new ArrayList<>();
        int[] sort = {0, town.sorts - 1};
        int[] street = {0, town.streets - 1};
        int[] cell = {0, 12 * town.streets - 1};
        int[] week = {0, 11};
        int[] kind = {0, 5};
        int[] way = {0, 3};
        int[] hundred = {0, 100};
        takenOfWhatThereIs(all, sort, street, cell, town);
        all.add(row("sum", -1, (x, a) -> x.sum(a[0], a[1], a[2], a[3]), of(1, 0, 1, 1), kind, sort, of(1, 255), of(1, 4095)));
        all.add(row("bounds", -1, (x, a) -> x.bounds(a[0], a[1], a[2]), of(0, 0, 0), sort, cell, hundred));
        all.add(row("line", -1, (x, a) -> x.line(a[0], a[1], a[2]), of(0, 0, 0), sort, way, hundred));
        all.add(row("off", -1, (x, a) -> x.off(a[0], a[1]), of(0, 0), sort, way));
        all.add(row("nearest", -1, (x, a) -> x.nearest(a[0]), of(0), sort));
        all.add(row("worst", -1, (x, a) -> x.worst(a[0], a[1]), of(0, 0), way, of(0, 1)));
        all.add(row("right", -1, (x, a) -> x.right(a[0]), of(0), way));
        all.add(row("three", -1, (x, a) -> x.three(a[0], a[1]), of(0, 0), sort, way));
        all.add(row("slope", -1, (x, a) -> x.slope(a[0], a[1]), of(0, 0), sort, way));
        all.add(row("others", -1, (x, a) -> x.others(a[0], a[1]), of(0, 0), sort, of(0, 2)));
        all.add(row("worth", -1, (x, a) -> x.worth(a[0], a[1]), of(0, 0), sort, of(0, 2)));
        all.add(row("waste", -1, (x, a) -> x.waste(a[0]), of(0), sort));
        all.add(row("holds", -1, (x, a) -> x.holds(a[0]), of(0), sort));
        all.add(row("leans", THROWN, (x, a) -> leans(x, a[0]), of(0), sort));
        all.add(row("truly", -1, (x, a) -> x.truly(a[0], a[1]), of(0, 0), sort, cell));
        all.add(row("moved", -1, (x, a) -> x.moved(a[0], a[1]), of(0, 0), sort, week));
        all.add(row("feasts", -1, (x, a) -> x.feasts(a[0]), of(0), street));
        all.add(row("need", -1, (x, a) -> x.need(a[0], a[1], a[2], a[3]), of(0, 0, 0, 1), kind, sort, of(0, 999), of(1, 100)));
        all.add(row("weeks", -1, (x, a) -> x.weeks(a[0], a[1], a[2], a[3]), of(0, 0, 0, 1), kind, sort, of(0, 999), of(1, 100)));
        all.add(row("year", -1, (x, a) -> x.year(a[0]), of(0), of(0, 9)));
        all.add(row("was", -1, (x, a) -> x.was(a[0], a[1], a[2], a[3]), of(0, 0, 1, 2000), of(0, 9), sort, of(0, 9999), of(1900, 2100)));
        all.add(row("told", 0, (x, a) -> x.told(a[0], a[1]) ? 1 : 0, of(0, 0), street, of(-1, 11)));
        all.add(row("does", -1, (x, a) -> x.does(a[0], a[1], a[2]), of(0, 0, 5), kind, sort, of(1, 11)));
        all.add(row("keep", 0, (x, a) -> x.keep(a[0]) ? 1 : 0, of(0), of(0, 2)));
        all.add(row("again", 0, (x, a) -> x.again(a[0]) ? 1 : 0, of(0), town.sorts > 0 ? of(0, 2) : of(0, -1)));
        all.add(row("count", -1, (x, a) -> x.count(a[0]), of(0), of(0, 8)));
        all.add(row("row", THROWN, (x, a) -> rowAt(x, a[0]), of(0), of(0, town.rows - 1)));
        return all;
    }

    private static void takenOfWhatThereIs(List<Taken> all, int[] sort, int[] street, int[] cell, Town town) {
        int[] hundred = {0, 100};
        boolean full = town.sorts == 8;
        Call more = (x, a) -> x.sort(a[0], a[1], a[2]);
        // What is full refuses whatever it is told: no range at all.
        int[] none = {0, -1};
        all.add(row("sort", -1, more, of(1, 0, 1), full ? none : of(1, 100), full ? none : of(-5, 5), full ? none : of(1, 100)));
        all.add(row("street", -1, (x, a) -> x.street(a[0]), of(1), full ? none : of(1, 100)));
        Call goes = (x, a) -> x.goes(a[0], a[1], a[2], a[3]) ? 1 : 0;
        all.add(row("goes", 0, goes, of(0, 0, 0, 0), sort, hundred, hundred, hundred));
        all.add(row("goes together", 0, goes, of(0, 20, 30, 40), sort, of(0, 30), of(0, 40), of(0, 50)));
        all.add(row("lack", 0, (x, a) -> x.lack(a[0], a[1], true) ? 1 : 0, of(0, 0), sort, of(0, 11)));
        all.add(row("no lack", 0, (x, a) -> x.lack(a[0], a[1], false) ? 1 : 0, of(0, 0), sort, of(0, 11)));
        all.add(row("put", -2, (x, a) -> x.put(a[0], a[1], a[2], a[3]), of(0, 0, 0, 0), of(0, 5), cell, sort, of(-1, 999)));
        all.add(row("get", -2, (x, a) -> x.get(a[0], a[1], a[2]), of(0, 0, 0), of(0, 5), cell, sort));
        all.add(row("sheet", -1, (x, a) -> x.sheet(a[0], a[1], 2, 5, 5), of(0, 2), sort, of(0, 3)));
        all.add(row("end", 0, (x, a) -> x.end(a[0]) ? 1 : 0, of(0), of(0, town.signs)));
        all.add(row("live", -1, (x, a) -> x.live(a[0], a[1]), of(0, 0), street, of(0, 11)));
        all.add(row("twice", -1, (x, a) -> x.twice(a[0], a[1], a[2]), of(0, 0, 1), sort, sort, of(1, 99)));
        Call paper = (x, a) -> x.paper(a[0], a[1], a[2]);
        all.add(row("paper", -1, paper, of(0, 1950, 1960), of(0, 9), of(1900, 1960), of(1950, 2100)));
        all.add(row("paper of 1900", -1, paper, of(9, 1900, 1900), of(0, 9), of(1900, 1900), of(1900, 2100)));
        all.add(row("paper of 2100", -1, paper, of(0, 2100, 2100), of(0, 9), of(1900, 2100), of(2100, 2100)));
    }

    private static long leans(BinsThatTell x, int sort) {
        try {
            return x.leans(sort);
        } catch (NoSuchElementException e) {
            return THROWN;
        }
    }

    private static long rowAt(BinsThatTell x, int i) {
        try {
            return x.row(i);
        } catch (NoSuchElementException e) {
            return THROWN;
        }
    }

    private static String written(Town town, Taken t, int[] a) {
        return town.name + ": " + t.name + java.util.Arrays.toString(a);
    }

    private static void beyondRanges(Town town, Taken t) {
        for (int i = 0; i < t.good.length; i++) {
            int[] range = t.ranges[i];
            int[] beyond = {range[0] - 1, range[1] + 1, Integer.MIN_VALUE, Integer.MAX_VALUE, Integer.MIN_VALUE + 1};
            for (int v : beyond) {
                int[] a = t.good.clone();
                a[i] = v;
                unchanged(town, written(town, t, a), t.refused, x -> t.call.of(x, a));
            }
        }
    }

    /** Only if all else that is asked can be taken. */
    private static void withinRanges(Town town, Taken t) {
        for (int[] range : t.ranges) {
            if (range[0] > range[1]) {
                return;
            }
        }
        for (int i = 0; i < t.good.length; i++) {
            for (int v : t.ranges[i]) {
                int[] a = t.good.clone();
                a[i] = v;
                BinsThatTell x = town.maker.made();
                check.same(written(town, t, a) + " is taken", t.call.of(x, a) != t.refused, true);
            }
        }
    }

    // ---- what a town shows

    private interface Asked {
        long of(BinsThatTell x);
    }

    private static void unchanged(Town town, String call, long due, Asked asked) {
        changedTo(town, town.shows, call, due, asked);
    }

    private static void changedTo(Town town, List<String> shows, String call, long due, Asked asked) {
        BinsThatTell x = town.maker.made();
        check.same(call, asked.of(x), due);
        List<String> now = shown(x);
        for (int i = 0; i < now.size(); i++) {
            if (!now.get(i).equals(shows.get(i))) {
                System.out.println(call + " changed: " + shows.get(i) + " is now " + now.get(i));
                check.same(call + " changes nothing", false, true);
                return;
            }
        }
        check.same(call + " changes nothing", now.size(), shows.size());
    }

    /** All that can be seen of a town, the ROW first, since asking changes it. */
    private static List<String> shown(BinsThatTell x) {
        List<String> all = new ArrayList<>();
        for (int what = 0; what <= 8; what++) {
            all.add("count " + what + ": " + x.count(what));
        }
        addRow(all, x);
        int sorts = x.count(0);
        int streets = x.count(1);
        all.add("text as a law: " + x.law(4));
        all.add("R: " + x.seed(5));
        showNumbers(all, x, sorts, streets);
        showAnswers(all, x, sorts, streets);
        for (int street = 0; street < streets; street++) {
            all.add("live " + street + ": " + x.live(street, 5));
            for (int kind = 1; kind < 6; kind++) {
                all.add("it sold and said: " + (sorts > 0 ? x.get(kind, 12 * street + 5, sorts - 1) : 0));
            }
        }
        for (int i = 0; i < 3; i++) {
            all.add("again " + i + ": " + x.again(i) + ", R: " + x.seed(5) + ", told: " + x.count(6));
            for (int kind = 0; kind < 6; kind++) {
                all.add("kept: " + x.sum(kind, 0, 255, 4095));
            }
        }
        return all;
    }

    private static void addRow(List<String> all, BinsThatTell x) {
        for (int i = 0; i < x.count(7); i++) {
            all.add("row " + i + ": " + x.row(i));
        }
    }

    private static void showNumbers(List<String> all, BinsThatTell x, int sorts, int streets) {
        boolean few = sorts * streets < 10;
        for (int kind = 0; kind < 6; kind++) {
            for (int sort = 0; sort < sorts; sort++) {
                all.add("sum of kind " + kind + ", sort " + sort + ": " + x.sum(kind, sort, 255, 4095));
            }
            for (int cell = 0; cell < 12 * streets && few; cell++) {
                all.add("kind " + kind + ", cell " + cell + ": " + x.get(kind, cell, 0));
            }
        }
    }

    private static void showAnswers(List<String> all, BinsThatTell x, int sorts, int streets) {
        for (int sort = 0; sort < sorts; sort++) {
            all.add("bounds of " + sort + ": " + x.bounds(sort, 0, 0));
            addRow(all, x);
            all.add("was of " + sort + ": " + x.was(9, sort, 99, 2100));
            all.add("then: " + x.row(0));
            all.add("waste of " + sort + ": " + x.waste(sort) + ", holds: " + x.holds(sort) + ", leans: " + x.leans(sort));
        }
        all.add("right: " + x.right(0));
        addRow(all, x);
        all.add("alike: " + x.alike() + ", mixed: " + x.mixed());
        for (int layer = 0; layer < 10; layer++) {
            all.add("year of " + layer + ": " + x.year(layer));
            all.add("first: " + x.row(0));
        }
        all.add("stray: " + x.stray());
        all.add("they: " + x.row(0));
        for (int w = 1; w < 12; w += 2) {
            all.add("does from " + w + ": " + x.does(1, 0, w));
            all.add("by: " + (x.count(7) > 0 ? x.row(0) : 0));
        }
    }

    // ---- towns

    private static BinsThatTell muchTold() {
        BinsThatTell x = new BinsThatTell();
        x.sort(50, -2, 80);
        x.sort(30, 4, 30);
        x.sort(100, 1, 100);
        x.street(10);
        x.street(25);
        x.goes(0, 5, 10, 15);
        x.lack(0, 2, true);
        x.lack(2, 5, true);
        x.told(1, 4);
        Check.law(x, 0, "h+l/2+z*3+q*9+r");
        Check.law(x, 1, "b-b/4");
        Check.law(x, 3, "e+w");
        for (int cell = 0; cell < 24; cell += 2) {
            x.live(cell / 12, cell % 12);
        }
        x.put(5, 3, 0, 40);
        x.put(5, 4, 0, 41);
        x.keep(0);
        x.sheet(1, 0, 7, 3, 11);
        x.keep(1);
        x.put(2, 2, 0, 17);
        x.seed(123456789);
        x.keep(2);
        Check.story(x, "W>w;B<b");
        Check.story(x, "s=s");
        x.twice(0, 0, 20);
        x.twice(0, 1, 7);
        x.twice(1, 1, 9);
        x.paper(2, 1940, 1950);
        x.paper(6, 1920, 1945);
        Check.text(x, "e+b*2");
        x.off(0, 0);
        return x;
    }

    private static BinsThatTell full() {
        BinsThatTell x = new BinsThatTell();
        for (int i = 0; i < 8; i++) {
            x.sort(10 * i + 1, i - 4, 100 - 10 * i);
            x.street(5 * i + 1);
            x.goes(i, i, 2 * i, 3 * i);
            x.lack(i, i + 3, true);
            x.told(i, i < 5 ? 2 * i : -1);
            x.sheet(i, 2, 96, 3 * i, 7);
        }
        for (int i = 0; i < 6; i++) {
            Check.law(x, i, "h*2+z+k");
            Check.story(x, i % 2 == 0 ? "B=b" : "");
        }
        for (int cell = 0; cell < 96; cell += 5) {
            x.live(cell / 12, cell % 12);
        }
        for (int i = 0; i < 3; i++) {
            x.keep(i);
            x.put(1, i, 0, 999);
        }
        for (int i = 0; i < 11; i++) {
            x.paper(i % 10, 1950 - i, 2000 - i);
        }
        x.twice(7, 6, 99);
        for (int i = 0; i < 15; i++) {
            x.sign(0x68686868);
        }
        x.truly(7, 95);
        return x;
    }

    private static BinsThatTell manyPieces() {
        BinsThatTell x = new BinsThatTell();
        x.sort(50, 0, 50);
        x.sort(50, 0, 50);
        for (int i = 0; i < 101; i++) {
            x.twice(i % 2, 1, 99);
        }
        for (int i = 0; i < 12; i++) {
            x.paper(0, 1950 - i, 1951 + i);
        }
        x.alike();
        return x;
    }

    /** In which little can be had. */
    private static BinsThatTell littleTold() {
        BinsThatTell x = new BinsThatTell();
        x.sort(50, 0, 50);
        x.sort(50, 0, 50);
        x.street(1);
        x.street(1);
        x.put(0, 0, 0, 9);
        x.put(1, 1, 0, 9);
        x.put(2, 2, 0, 9);
        x.twice(0, 0, 9);
        Check.story(x, "B=B");
        x.sum(0, 0, 1, 1);
        return x;
    }

    private static BinsThatTell clashingPapers() {
        BinsThatTell x = new BinsThatTell();
        x.sort(50, 0, 50);
        x.paper(3, 1950, 1950);
        x.paper(3, 1951, 1951);
        x.stray();
        return x;
    }

    // ---- what no range tells

    private static void sheets(Town town) {
        unchanged(town, "n -1, kind 0", -2, x -> x.sheet(0, 0, -1, 5, 5));
        unchanged(town, "n -1, kind 1", -2, x -> x.sheet(0, 1, -1, 5, 5));
        unchanged(town, "n -1, kind 2", -2, x -> x.sheet(0, 2, -1, 5, 5));
        unchanged(town, "n least", -2, x -> x.sheet(0, 2, Integer.MIN_VALUE, 5, 5));
        unchanged(town, "n 97", -1, x -> x.sheet(0, 2, 97, 5, 5));
        unchanged(town, "n greatest", -1, x -> x.sheet(0, 0, Integer.MAX_VALUE, 5, 5));
        unchanged(town, "n 97, missing", -1, x -> x.sheet(0, 3, 97, 5, 5));
        unchanged(town, "others ahead of n below 0: kind", -1, x -> x.sheet(0, 4, -1, 5, 5));
        unchanged(town, "others ahead of n below 0: sort", -1, x -> x.sheet(3, 0, -1, 5, 5));
        unchanged(town, "none of them", 0, x -> x.sheet(0, 0, 0, 5, 5));
    }

    /** A refused law leaves all as it is but THE TEXT, which it empties. */
    private static void laws(Town town) {
        BinsThatTell emptied = town.maker.made();
        emptied.end(0);
        List<String> shows = shown(emptied);
        changedTo(town, shows, "law(-1)", -100, x -> x.law(-1));
        changedTo(town, shows, "law(6)", -100, x -> x.law(6));
        changedTo(town, shows, "law(least)", -100, x -> x.law(Integer.MIN_VALUE));
        changedTo(town, shows, "law(greatest)", -100, x -> x.law(Integer.MAX_VALUE));
        changedTo(town, shows, "e can't stand in law 1", -1, x -> x.law(1));
        changedTo(town, shows, "nor in law 0", -1, x -> x.law(0));
        changedTo(town, shows, "no story: e begins a CLAIM, + can't go on", -2, x -> x.story());
        changedTo(town, shows, "a text that ends too early", -3, x -> x.end(2) ? x.law(3) : 0);
        changedTo(town, shows, "no text", -1, x -> x.end(0) ? x.law(3) : 0);
        unchanged(town, "no more signs", 0, x -> x.end(6) ? 1 : 0);
    }

    private static void stories(Town town) {
        BinsThatTell emptied = town.maker.made();
        emptied.end(0);
        List<String> shows = shown(emptied);
        changedTo(town, shows, "six are told", -100, x -> x.story());
        changedTo(town, shows, "six are told, no text", -100, x -> x.end(0) ? x.story() : 0);
        changedTo(town, shows, "six are told, a wrong text", -100, x -> x.end(1) ? x.story() : 0);
        changedTo(town, shows, "sixty signs", -2, x -> x.law(3));
        unchanged(town, "more than sixty signs", -1, x -> x.sign(0x68686868));
    }

    private static void nothingMore(Town town) {
        unchanged(town, "a ninth sort", -1, x -> x.sort(50, 0, 50));
        unchanged(town, "a ninth street", -1, x -> x.street(50));
        BinsThatTell x = town.maker.made();
        check.same("a twelfth paper", x.paper(0, 1960, 1960), 12);
    }

    private static void piecesAndPapers(Town town) {
        unchanged(town, "one above 9999", -1, x -> x.twice(0, 0, 1));
        unchanged(town, "99 above 9999", -1, x -> x.twice(1, 0, 99));
        unchanged(town, "a thirteenth paper", -1, x -> x.paper(0, 1950, 1950));
        unchanged(town, "a thirteenth paper of all years", -1, x -> x.paper(9, 1900, 2100));
    }

    private static void emptyTown(Town town) {
        unchanged(town, "worst", -2, x -> x.worst(0, 0));
        unchanged(town, "least", -2, x -> x.worst(3, 1));
        unchanged(town, "parts", -2, x -> x.parts());
        unchanged(town, "alike", -2, x -> x.alike());
        unchanged(town, "mixed", 0, x -> x.mixed());
        unchanged(town, "again", 0, x -> x.again(0) ? 1 : 0);
        unchanged(town, "sheet of n -1", -1, x -> x.sheet(0, 0, -1, 0, 0));
        unchanged(town, "missing sheet", -1, x -> x.sheet(0, 3, 0, 0, 0));
        unchanged(town, "lack no more", 0, x -> x.lack(0, 0, false) ? 1 : 0);
        unchanged(town, "never told", 0, x -> x.told(0, -1) ? 1 : 0);
        unchanged(town, "no law", -1, x -> x.law(0));
    }

    /** The ROW stays with -2, and with 0 where the document says so. */
    private static void notHad(Town town) {
        unchanged(town, "bounds", -2, x -> x.bounds(0, 1, 0));
        unchanged(town, "line", -2, x -> x.line(0, 0, 0));
        unchanged(town, "off", 0, x -> x.off(0, 0));
        unchanged(town, "nearest", -2, x -> x.nearest(0));
        unchanged(town, "worst", -2, x -> x.worst(0, 0));
        unchanged(town, "three", -2, x -> x.three(0, 0));
        unchanged(town, "slope", -2, x -> x.slope(0, 0));
        unchanged(town, "worth", -2, x -> x.worth(0, 0));
        unchanged(town, "waste", -2, x -> x.waste(0));
        unchanged(town, "parts", -2, x -> x.parts());
        unchanged(town, "alike", -2, x -> x.alike());
        unchanged(town, "mixed", 0, x -> x.mixed());
        unchanged(town, "truly, not told", -2, x -> x.truly(0, 1));
        unchanged(town, "truly, none taken", -2, x -> x.put(0, 0, 1, -1) == -1 ? x.truly(1, 0) : 0);
        unchanged(town, "need", -2, x -> x.need(5, 0, 999, 1));
        unchanged(town, "weeks", -2, x -> x.weeks(5, 0, 999, 1));
        unchanged(town, "does", -2, x -> x.does(0, 0, 1));
        unchanged(town, "feasts", 0, x -> x.feasts(1));
    }

    private static void clashing(Town town) {
        unchanged(town, "year", -2, x -> x.year(0));
        unchanged(town, "year of the lowest", -2, x -> x.year(9));
        unchanged(town, "was", -2, x -> x.was(0, 0, 1, 2000));
        unchanged(town, "no such layer", -1, x -> x.year(10));
        unchanged(town, "others than it takes", -1, x -> x.was(0, 0, 10000, 2000));
    }
}
