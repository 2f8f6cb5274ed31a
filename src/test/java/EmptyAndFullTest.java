/** What each call answers of an object that is empty, of SORTS or STREETS alone, and of one that is full. */
public final class EmptyAndFullTest {
    private static final int LEAST = Integer.MIN_VALUE;
    private static final int MOST = Integer.MAX_VALUE;
    private static final Check check = new Check();

    public static void main(String[] args) {
        emptyOne();
        sortsAlone();
        streetsAlone();
        fullOfSortsAndStreets();
        fullOfNumbers();
        fullOfLeast();
        fullOfWords();
        fullOfPieces();
        fullOfPapers();
        fullRow();
        kept();
        check.end("EmptyAndFullTest");
    }

    private static void emptyOne() {
        BinsThatTell x = new BinsThatTell();
        check.same("goes", x.goes(0, 0, 0, 0), false);
        check.same("lack", x.lack(0, 0, true), false);
        check.same("put", x.put(0, 0, 0, 0), -2);
        check.same("get", x.get(0, 0, 0), -2);
        check.same("sheet", x.sheet(0, 0, 0, 0, 0), -1);
        check.same("end(0)", x.end(0), true);
        check.same("end(1)", x.end(1), false);
        check.same("law", x.law(0), -1);
        check.same("live", x.live(0, 0), -1);
        check.same("sum", x.sum(0, 0, 1, 1), -1);
        check.same("bounds", x.bounds(0, 0, 0), -1);
        check.same("line", x.line(0, 0, 0), -1);
        check.same("off", x.off(0, 0), -1);
        check.same("nearest", x.nearest(0), -1);
        check.same("worst", x.worst(0, 0), -2);
        check.same("worst", x.worst(3, 1), -2);
        check.same("three", x.three(0, 0), -1);
        check.same("slope", x.slope(0, 0), -1);
        check.same("others", x.others(0, 0), -1);
        check.same("worth", x.worth(0, 0), -1);
        check.same("waste", x.waste(0), -1);
        check.same("holds", x.holds(0), -1);
        check.same("parts", x.parts(), -2);
        check.same("twice", x.twice(0, 0, 1), -1);
        check.same("alike", x.alike(), -2);
        check.same("mixed", x.mixed(), 0);
        check.noLeans(x, 0);
        check.same("truly", x.truly(0, 0), -1);
        check.same("moved", x.moved(0, 0), -1);
        check.same("feasts", x.feasts(0), -1);
        check.same("need", x.need(0, 0, 0, 1), -1);
        check.same("weeks", x.weeks(0, 0, 0, 1), -1);
        check.same("was", x.was(0, 0, 0, 2000), -1);
        check.same("told", x.told(0, -1), false);
        check.same("does", x.does(0, 0, 1), -1);
        check.same("again", x.again(0), false);
        check.row("no numbers", x);
        for (int what = 0; what <= 8; what++) {
            check.same("count(" + what + ")", x.count(what), 0);
        }
        emptyOneAnswers(x);
    }

    private static void emptyOneAnswers(BinsThatTell x) {
        check.same("right", x.right(0), 0);
        check.row("right", x, 0, 0);
        check.same("stray", x.stray(), 0);
        check.row("stray", x, 0);
        for (int layer = 0; layer < 10; layer++) {
            check.same("year", x.year(layer), 201);
            check.row("year", x, 1900, 2100);
        }
        check.same("seed", x.seed(4), 1);
        check.same("keep", x.keep(2), true);
        check.same("seed", x.seed(5), 4);
        check.same("again", x.again(2), true);
        check.same("seed", x.seed(1), 4);
        check.same("story of no text", x.story(), 0);
        check.same("parts", x.parts(), -2);
        check.row("the ROW stays", x, 1900, 2100);
    }

    private static void sortsAlone() {
        BinsThatTell x = new BinsThatTell();
        x.sort(1, 5, 1);
        x.sort(100, -5, 100);
        check.same("put", x.put(0, 0, 0, 0), -2);
        check.same("get", x.get(0, 0, 0), -2);
        check.same("sheet", x.sheet(0, 0, 96, 1, 1), 0);
        check.same("live", x.live(0, 0), -1);
        check.same("bounds", x.bounds(0, 0, 0), -1);
        check.same("line", x.line(0, 0, 0), -2);
        check.same("off", x.off(0, 0), 0);
        check.same("nearest", x.nearest(0), -2);
        check.same("worst", x.worst(0, 0), -2);
        check.same("three", x.three(0, 0), -2);
        check.same("slope", x.slope(0, 0), -2);
        check.same("worth", x.worth(0, 0), -2);
        check.same("waste", x.waste(0), -2);
        check.same("truly", x.truly(0, 0), -1);
        check.same("feasts", x.feasts(0), -1);
        check.same("need", x.need(0, 0, 999, 1), -2);
        check.same("weeks", x.weeks(0, 0, 999, 1), -2);
        check.same("told", x.told(0, 0), false);
        check.same("does", x.does(0, 0, 1), -2);
        check.row("no numbers", x);
        check.same("sum", x.sum(0, 0, 255, 4095), 0);
        check.row("sum", x, 0);
        check.same("right", x.right(0), 0);
        check.row("right", x, 0, 0);
        check.same("others", x.others(0, 0), 0);
        check.row("others", x, 0, 0);
        check.same("moved", x.moved(0, 0), 0);
        check.row("moved", x, 0, 0, 0);
        check.same("holds", x.holds(0), 0);
        check.row("holds", x);
        check.same("was", x.was(0, 0, 9, 1900), 0);
        check.row("was", x, 9, 9);
        check.same("leans", x.leans(1), 0);
        check.noLeans(x, 2);
    }

    private static void streetsAlone() {
        BinsThatTell x = new BinsThatTell();
        x.street(100);
        check.same("live", x.live(0, 0), 0);
        check.same("feasts", x.feasts(0), 0);
        check.same("told", x.told(0, 11), true);
        check.same("put", x.put(0, 0, 0, 0), -2);
        check.same("sum", x.sum(0, 0, 1, 1), -1);
        check.same("worst", x.worst(0, 0), -2);
        check.same("does", x.does(0, 0, 1), -1);
        check.same("count(6)", x.count(6), 0);
        Check.law(x, 0, "z");
        check.same("live", x.live(0, 0), 0);
        check.same("no draw without SORTS", x.seed(1), 1);
        check.row("no numbers", x);
    }

    /** All LEAVES, RIGHT and LASTS are least for even SORTS, greatest for odd ones. */
    private static BinsThatTell full() {
        BinsThatTell x = new BinsThatTell();
        for (int i = 0; i < 8; i++) {
            check.same("sort", x.sort(i % 2 == 0 ? 1 : 100, i % 2 == 0 ? -5 : 5, i % 2 == 0 ? 1 : 100), i);
            check.same("street", x.street(i % 2 == 0 ? 1 : 100), i);
        }
        return x;
    }

    private static void fullOfSortsAndStreets() {
        BinsThatTell x = full();
        check.same("a ninth sort", x.sort(1, 0, 1), -1);
        check.same("a ninth street", x.street(1), -1);
        for (int kind = 0; kind < 6; kind++) {
            check.same("the last place", x.put(kind, 95, 7, 999), -1);
            check.same("the last place", x.get(kind, 95, 7), 999);
            check.same("a CELL more", x.put(kind, 96, 7, 1), -2);
            check.same("a SORT more", x.put(kind, 95, 8, 1), -2);
            check.same("the place ahead", x.get(kind, 95, 6), -1);
            check.same("the first place", x.get(kind, 0, 0), -1);
        }
        check.same("count(6)", x.count(6), 6);
        Check.law(x, 0, "h*(r+6)");
        x.live(6, 11);
        x.live(7, 0);
        check.same("HOUSES 1, RIGHT -5", x.get(1, 83, 0), 1);
        check.same("HOUSES 1, RIGHT 5", x.get(1, 83, 7), 11);
        check.same("HOUSES 100, RIGHT -5", x.get(1, 84, 0), 100);
        check.same("HOUSES 100, RIGHT 5", x.get(1, 84, 7), 999);
        for (int sort = 0; sort < 8; sort++) {
            check.same("goes", x.goes(sort, 0, 0, 100), true);
        }
        check.same("all to the first one's BAGS", x.live(7, 3), 0);
        check.same("SORT 0: none is left of a hundred eaten but one", x.get(0, 3, 0), 1);
        check.same("SORT 7", x.get(0, 3, 7), 999);
    }

    private static void fullOfNumbers() {
        BinsThatTell x = full();
        Check.law(x, 0, "999");
        Check.law(x, 2, "0");
        for (int cell = 0; cell < 96; cell++) {
            check.same("live", x.live(cell / 12, cell % 12), 4 * 9 + 4 * 999);
        }
        for (int sort = 0; sort < 8; sort++) {
            check.same("sheet", x.sheet(sort, 2, 96, MOST, 0), 96);
        }
        check.same("all NUMBERS are told", x.count(6), 6 * 96 * 8);
        int[] all = {95904, 95904, 0, 95904, 95904, 95904};
        for (int kind = 0; kind < 6; kind++) {
            check.same("sum", x.sum(kind, 7, 255, 4095), all[kind]);
            check.row("sum", x, 96);
        }
        check.same("line, LEAVES 1", x.line(0, 1, 0), 1);
        check.row("line, LEAVES 1", x, 95904L * 100, 1, 95904);
        check.same("line, LEAVES 100", x.line(1, 1, 0), 0);
        check.row("line, LEAVES 100", x, 95904, 1, 95904);
        x.goes(0, 99, 0, 0);
        check.same("bounds", x.bounds(0, 95, 0), 0);
        check.row("bounds", x, 99900, 1, 9990000, 1);
        check.same("off", x.off(7, 0), 96);
        check.row("off", x, -999, 1, -999, -999);
        check.same("nearest", x.nearest(7), 1);
        check.row("nearest", x, 0, 0);
        check.same("worst", x.worst(0, 0), 0);
        check.row("worst", x, -999, 1);
        check.same("right", x.right(0), 0);
        check.row("right: 28 pairs", x, 0, 28);
        check.same("three", x.three(7, 1), -2);
        check.same("slope", x.slope(7, 1), -2);
        check.same("others", x.others(7, 0), 96);
        check.row("others", x, 0, 0);
        check.same("worth", x.worth(7, 0), 100);
        check.row("worth", x, 0);
        fullOfNumbersMoved(x);
    }

    private static void fullOfNumbersMoved(BinsThatTell x) {
        check.same("moved", x.moved(0, 11), 0);
        check.row("moved", x, 0, 0, 0);
        check.same("feasts", x.feasts(7), 0);
        for (int kind = 0; kind < 6; kind++) {
            check.same("need", x.need(kind, 7, 0, 100), 1);
            check.row("need", x, 8, 8);
            check.same("weeks", x.weeks(kind, 7, 0, 100), 1);
            check.row("weeks", x, 12, 12);
        }
        x.lack(0, 11, true);
        check.same("waste", x.waste(0), 0);
        // 999 less 9, by 999.
        check.row("waste", x, 110, 111, 110, 111);
        x.told(7, 11);
        check.same("does", x.does(1, 7, 11), 0);
        check.row("does", x, 0, 1);
        for (int street = 0; street < 8; street++) {
            x.put(1, 12 * street + 11, 0, 0);
        }
        check.same("all came", x.moved(0, 11), 8 * 999);
        check.row("all came", x, 0, 255, 0);
        check.same("waste in LACK", x.waste(0), -2);
        for (int street = 0; street < 8; street++) {
            x.put(1, 12 * street + 11, 1, 999);
            x.put(0, 12 * street + 11, 1, 0);
        }
        check.same("all went", x.moved(1, 11), 0);
        check.row("all went", x, 8 * 999, 0, 255);
        check.same("keep", x.keep(0), true);
        check.same("again", x.again(0), true);
        check.same("all NUMBERS are told", x.count(6), 6 * 96 * 8);
    }

    private static void fullOfLeast() {
        BinsThatTell x = full();
        for (int cell = 0; cell < 96; cell++) {
            check.same("live", x.live(cell / 12, cell % 12), 0);
        }
        check.same("all NUMBERS are told", x.count(6), 6 * 96 * 8);
        check.same("line", x.line(0, 0, 0), 0);
        check.row("line", x, 0, 1, 0);
        check.same("waste", x.waste(0), -2);
        check.same("three", x.three(0, 0), -2);
        check.same("feasts", x.feasts(0), 0);
        check.same("worth", x.worth(0, 2), 0);
        check.row("worth", x, 0);
        check.same("others", x.others(0, 2), 0);
        check.row("others", x, 0, 0);
        for (int sort = 0; sort < 8; sort++) {
            check.same("missing", x.sheet(sort, 3, LEAST, LEAST, LEAST), 96);
        }
        check.same("no BAGS", x.count(6), 5 * 96 * 8);
    }

    private static void fullOfWords() {
        BinsThatTell x = new BinsThatTell();
        for (int i = 0; i < 6; i++) {
            check.same("law", Check.law(x, i, "h+h+h+h+h+h+h+h+h+h+h+h+h+h+h+h+h+h+h+10"), 0);
            check.same("laws told", x.count(2), (2 << i) - 1);
            check.same("story", Check.story(x, "W<w;W<w;W<w;W<w;W<w;W<w;W<w;W<w;W<w;W<w"), i);
            check.same("stories told", x.count(3), i + 1);
        }
        check.same("a seventh story", Check.story(x, ""), -100);
        check.same("a law anew", Check.law(x, 5, "h"), 0);
        check.same("laws told", x.count(2), 63);
        check.same("no such law", Check.law(x, 6, "h"), -100);
        x.sort(100, 0, 100);
        x.street(2);
        x.live(0, 0);
        check.same("forty signs", x.get(1, 0, 0), 19 * 2 + 10);
        check.same("the new one", x.get(5, 0, 0), 2);
        check.same("holds", x.holds(0), 0);
        check.row("ten CLAIMS each", x, 10, 10, 10, 10, 10, 10);
        for (int i = 0; i < 15; i++) {
            x.sign(MOST);
        }
        check.same("sixty signs", x.count(8), 60);
        check.same("more", x.sign(LEAST), -1);
        check.same("read", x.law(0), -1);
        check.same("none", x.count(8), 0);
        check.same("the law stays", x.live(0, 1), 48);
    }

    private static void fullOfPieces() {
        BinsThatTell x = full();
        for (int i = 0; i < 100; i++) {
            check.same("twice", x.twice(0, 7, 99), 99 * (i + 1));
        }
        check.same("9998", x.twice(7, 0, 98), 9998);
        check.same("two more", x.twice(7, 0, 2), -1);
        check.same("9999", x.twice(7, 7, 1), 9999);
        check.same("one more", x.twice(7, 7, 1), -1);
        check.same("count(4)", x.count(4), 9999);
        check.same("mixed", x.mixed(), 9998);
        check.row("mixed", x, 0, 7);
        check.same("leans(0)", x.leans(0), 9900 - 98);
        check.same("leans(7)", x.leans(7), 98 - 9900);
        x.put(0, 95, 0, 999);
        x.put(0, 95, 7, 999);
        check.same("truly(0, 95)", x.truly(0, 95), 999);
        check.row("truly(0, 95)", x, 0, 0, 0, 0, 0, 0, 0, 999);
        // 999 times 98 by 99 is 988.9, times 1 by 99 is 10.1.
        check.same("truly(7, 95)", x.truly(7, 95), 988 + 10);
        check.row("truly(7, 95)", x, 988, 0, 0, 0, 0, 0, 0, 10);
        check.same("alike", x.alike(), 1);
        long chance = 9900L * 98 + 99L * 9901;
        long by = java.math.BigInteger.valueOf(9999 - chance)
            .gcd(java.math.BigInteger.valueOf(9999L * 9999 - chance)).longValue();
        check.row("alike", x, (9999 - chance) / by, (9999L * 9999 - chance) / by);
    }

    private static void fullOfPapers() {
        BinsThatTell x = new BinsThatTell();
        for (int i = 0; i < 12; i++) {
            check.same("paper", x.paper(9 - i % 10, 1900, 2100), i + 1);
        }
        check.same("a thirteenth", x.paper(0, 1900, 2100), -1);
        check.same("all YEARS", x.year(9), 201);
        check.row("all YEARS", x, 1900, 2100);
        check.same("none astray", x.stray(), 0);
        check.row("none astray", x, 0);
        BinsThatTell y = new BinsThatTell();
        for (int i = 0; i < 12; i++) {
            y.paper(i < 6 ? 0 : 9, i < 6 ? 1900 : 2100, i < 6 ? 1900 : 2100);
        }
        check.same("six of twelve", y.stray(), 6);
        check.row("the least: the first six", y, 63);
        check.same("not together", y.year(5), -2);
    }

    /** Eight numbers are the most that any call says. */
    private static void fullRow() {
        BinsThatTell x = full();
        x.put(0, 0, 3, 8);
        for (int i = 0; i < 8; i++) {
            x.twice(3, i, i + 1);
        }
        check.same("truly", x.truly(3, 0), 0 + 0 + 0 + 0 + 1 + 1 + 1 + 1);
        check.row("eight", x, 0, 0, 0, 0, 1, 1, 1, 1);
        check.noRow("eight", x, 8);
        check.noRow("eight", x, LEAST);
        check.noRow("eight", x, MOST);
        x.stray();
        check.row("one", x, 0);
        for (int i = 1; i < 8; i++) {
            check.noRow("one", x, i);
        }
    }

    private static void kept() {
        BinsThatTell x = full();
        check.same("keep empty ones", x.keep(0), true);
        Check.law(x, 0, "z*w");
        for (int cell = 0; cell < 96; cell++) {
            x.live(cell / 12, cell % 12);
        }
        int sum = x.sum(1, 7, 255, 4095);
        check.same("keep full ones", x.keep(2), true);
        int r = x.seed(3);
        check.same("again empty", x.again(0), true);
        check.same("none told", x.count(6), 0);
        check.same("R", x.seed(3), 1);
        check.same("nothing kept", x.again(1), false);
        check.same("again full", x.again(2), true);
        check.same("all told", x.count(6), 6 * 96 * 8);
        check.same("their sum", x.sum(1, 7, 255, 4095), sum);
        check.same("R", x.seed(3), r);
        check.same("there were draws", sum > 0 && r != 1, true);
    }
}
