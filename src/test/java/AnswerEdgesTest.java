/**
 * Boundary cases of promises 14 to 47, sentence by sentence: just so, one more, one less; ties; what is cut;
 * what can just be had and what just can't. What calls take at all stands in RefusedTest.
 */
public final class AnswerEdgesTest {
    private static final Check check = new Check();

    public static void main(String[] args) {
        sumsByBits();
        boundsOfWaste();
        lineJustSo();
        offOfOne();
        nearestOfEqual();
        worstOfEqual();
        rightOfAlike();
        threeOfTwo();
        slopes();
        othersJustAsNear();
        worthShares();
        wastesOfNothing();
        storySigns();
        storiesOfWhatIsHad();
        partsOfEqual();
        sorters();
        movedJustSo();
        feastsJustTwice();
        needsJustSo();
        years();
        strays();
        tens();
        toldJustThen();
        keptAndCounted();
        check.end("AnswerEdgesTest");
    }

    private static BinsThatTell town(int sorts, int streets) {
        BinsThatTell x = new BinsThatTell();
        for (int i = 0; i < sorts; i++) {
            x.sort(100, Math.min(i, 5), 50);
        }
        for (int i = 0; i < streets; i++) {
            x.street(10);
        }
        return x;
    }

    /** BAG, SHOP, and SAID by WAY 0, each not told if it is -1. */
    private static void cell(BinsThatTell x, int sort, int cell, int bag, int shop, int said) {
        x.put(0, cell, sort, bag);
        x.put(1, cell, sort, shop);
        x.put(2, cell, sort, said);
    }

    // ---- 14

    private static void sumsByBits() {
        BinsThatTell x = town(1, 8);
        for (int cell = 0; cell < 96; cell++) {
            x.put(4, cell, 0, cell);
        }
        for (int street = 0; street < 8; street++) {
            check.same("STREET " + street, x.sum(4, 0, 1 << street, 4095), 144 * street + 66);
            check.row("STREET " + street, x, 12);
        }
        for (int week = 0; week < 12; week++) {
            check.same("WEEK " + week, x.sum(4, 0, 255, 1 << week), 8 * week + 12 * 28);
            check.row("WEEK " + week, x, 8);
        }
        check.same("least bits", x.sum(4, 0, 1, 1), 0);
        check.row("least bits", x, 1);
        check.same("greatest bits", x.sum(4, 0, 255, 4095), 95 * 48);
        check.row("greatest bits", x, 96);
        check.same("the last CELL", x.sum(4, 0, 128, 2048), 95);
        check.row("the last CELL", x, 1);
        check.same("all but the last", x.sum(4, 0, 127, 2047), 7 * 55 + 11 * 12 * 21);
        check.row("all but the last", x, 77);
    }

    // ---- 15

    private static void boundsOfWaste() {
        BinsThatTell x = new BinsThatTell();
        x.sort(100, 0, 50);
        x.sort(1, 0, 50);
        x.street(1);
        x.put(0, 0, 0, 1);
        x.put(0, 0, 1, 999);
        int[][] rows = {{0, 1, 1}, {1, 99, 100}, {50, 1, 2}, {99, 1, 100}, {100, 0, 1}};
        for (int[] r : rows) {
            check.same("waste " + r[0], x.bounds(0, 0, r[0]), 0);
            check.row("waste " + r[0], x, r[1], r[2], 1, 1);
        }
        check.same("LEAVES 1", x.bounds(1, 0, 0), 0);
        check.row("LEAVES 1", x, 99900, 1, 99900, 1);
        x.goes(1, 33, 33, 33);
        check.same("one of a hundred stays", x.bounds(1, 0, 1), 0);
        check.row("one of a hundred stays", x, 999 * 99, 1, 9990000, 1);
        x.goes(1, 33, 33, 34);
        check.same("none stays", x.bounds(1, 0, 1), -3);
        check.row("none stays", x, 999 * 99, 1);
        x.put(0, 0, 1, 0);
        check.same("none stays of none", x.bounds(1, 0, 100), -3);
        check.row("none stays of none", x, 0, 1);
        x.goes(1, 33, 33, 33);
        check.same("0 by 1", x.bounds(1, 0, 0), 0);
        check.row("0 by 1", x, 0, 1, 0, 1);
    }

    // ---- 16

    private static void lineJustSo() {
        BinsThatTell x = town(1, 1);
        cell(x, 0, 0, 60, -1, 60);
        cell(x, 0, 1, 40, -1, 39);
        check.same("least one above SAID", x.line(0, 0, 0), 1);
        check.row("least one above SAID", x, 100, 1, 99);
        check.same("1 of a hundred wasted: just so", x.line(0, 0, 1), 0);
        check.row("1 of a hundred wasted: just so", x, 99, 1, 99);
        x.put(2, 1, 0, 40);
        check.same("just so", x.line(0, 0, 0), 0);
        check.row("just so", x, 100, 1, 100);
        x.put(2, 1, 0, 41);
        check.same("most one below SAID", x.line(0, 0, 0), 2);
        check.row("most one below SAID", x, 100, 1, 101);
        check.same("waste is nothing to the most", x.line(0, 0, 100), 2);
        check.row("waste is nothing to the most", x, 0, 1, 101);
        x.goes(0, 1, 0, 0);
        check.same("100 by 99 of a hundred is above 101", x.line(0, 0, 0), 0);
        x.put(2, 1, 0, 42);
        check.same("it is below 102", x.line(0, 0, 0), 2);
        x.goes(0, 99, 0, 0);
        cell(x, 0, 0, 1, -1, 99);
        cell(x, 0, 1, 0, -1, 1);
        check.same("one of a hundred stays: just so", x.line(0, 0, 0), 0);
        x.put(2, 1, 0, 2);
        check.same("one of a hundred stays: below", x.line(0, 0, 0), 2);
        check.row("one of a hundred stays: below", x, 1, 1, 101);
        x.goes(0, 99, 1, 0);
        check.same("never, if all goes", x.line(0, 0, 0), 0);
        check.row("never, if all goes", x, 1, 1, 101);
        cell(x, 0, 0, 1, -1, 0);
        x.put(2, 1, 0, 0);
        check.same("more, if all goes", x.line(0, 0, 0), 1);
        check.row("more, if all goes", x, 1, 1, 0);
        check.same("half of one is above 0", x.line(0, 0, 50), 1);
        check.row("half of one is above 0", x, 1, 2, 0);
        check.same("none of one is not", x.line(0, 0, 100), 0);
        x.put(0, 0, 0, -1);
        check.same("a CELL without BAG is none", x.line(0, 0, 0), 0);
        check.row("a CELL without BAG is none", x, 0, 1, 0);
        x.put(2, 1, 0, -1);
        check.same("no such CELL", x.line(0, 0, 0), -2);
        check.row("no such CELL", x, 0, 1, 0);
    }

    // ---- 17 to 20

    private static void offOfOne() {
        BinsThatTell x = town(1, 8);
        int[][] rows = {{0, 999, 999}, {999, 0, -999}, {999, 999, 0}, {0, 0, 0}, {5, 6, 1}, {6, 5, -1}};
        for (int[] r : rows) {
            cell(x, 0, 95, -1, r[0], r[1]);
            check.same("one CELL", x.off(0, 0), 1);
            check.row("one CELL", x, r[2], 1, r[2], r[2]);
        }
        for (int cell = 0; cell < 96; cell++) {
            cell(x, 0, cell, -1, 999, cell < 95 ? 0 : 998);
        }
        check.same("all CELLS", x.off(0, 0), 96);
        check.row("all CELLS", x, -(95 * 999 + 1) / 2, 48, -999, -1);
    }

    private static void nearestOfEqual() {
        BinsThatTell x = town(1, 1);
        // WAY 0: 3, 3, 3; WAY 1: -4, -1; WAY 2: 2.5 by 10, 0, 0, 0; WAY 3: 5, 0.
        int[][] said = {{13, 13, 13, -1}, {6, 9, -1, -1}, {20, 10, 10, 10}, {15, 10, -1, -1}};
        for (int cell = 0; cell < 4; cell++) {
            x.put(1, cell, 0, 10);
            for (int way = 0; way < 4; way++) {
                x.put(2 + way, cell, 0, said[way][cell]);
            }
        }
        check.same("alike in size: of 1, 2, 3 the first", x.nearest(0), 1);
        check.row("alike in size", x, 0, 2);
        x.put(3, 0, 0, -1);
        check.same("one CELL, -1", x.nearest(0), 1);
        check.row("one CELL, -1", x, 0, 1);
        x.put(3, 1, 0, -1);
        check.same("without CELLS it is aside", x.nearest(0), 2);
        check.row("too much once, just so three times", x, 1, 0);
        x.put(4, 0, 0, 21);
        check.same("11 by 4 is more than 5 by 2", x.nearest(0), 3);
        check.row("11 by 4 is more than 5 by 2", x, 1, 0);
        x.put(4, 3, 0, 9);
        check.same("10 by 4 is not", x.nearest(0), 2);
        check.row("10 by 4 is not", x, 1, 1);
        x.put(2, 0, 0, 14);
        x.put(2, 1, 0, 11);
        x.put(2, 2, 0, 5);
        check.same("0 by 3", x.nearest(0), 0);
        check.row("0 by 3", x, 2, 1);
        x.put(5, 0, 0, 10);
        check.same("0 by 2 is just as near", x.nearest(0), 0);
        x.put(2, 2, 0, 4);
        check.same("-1 by 3 is farther", x.nearest(0), 3);
        check.row("neither too much nor too little", x, 0, 0);
    }

    private static void worstOfEqual() {
        BinsThatTell x = town(3, 1);
        check.same("none", x.worst(0, 0), -2);
        // MEANS 1 by 2, 2 by 4, then 1 by 3 and -1 by 3.
        cell(x, 0, 0, -1, 10, 10);
        cell(x, 0, 1, -1, 10, 11);
        for (int c = 0; c < 4; c++) {
            cell(x, 1, c, -1, 10, c < 2 ? 10 : 11);
        }
        for (int what = 0; what < 2; what++) {
            check.same("equal MEANS: the first, what " + what, x.worst(0, what), 0);
            check.row("equal MEANS", x, 1, 2);
        }
        for (int c = 0; c < 3; c++) {
            cell(x, 2, c, -1, 10, c < 2 ? 10 : 11);
        }
        check.same("1 by 3 is the least", x.worst(0, 1), 2);
        check.row("1 by 3 is the least", x, 1, 3);
        check.same("1 by 2 is the greatest", x.worst(0, 0), 0);
        check.row("1 by 2 is the greatest", x, 1, 2);
        cell(x, 1, 0, -1, 10, 11);
        check.same("3 by 4 is the greatest", x.worst(0, 0), 1);
        check.row("3 by 4 is the greatest", x, 3, 4);
        cell(x, 2, 2, -1, 10, 9);
        check.same("-1 by 3 is the least", x.worst(0, 1), 2);
        check.row("-1 by 3 is the least", x, -1, 3);
    }

    private static void rightOfAlike() {
        // RIGHT 0 and 1.
        int[][] rows = {{11, 10, 0, 1, 0}, {10, 11, 1, 0, 0}, {10, 10, 0, 0, 1}};
        for (int[] r : rows) {
            BinsThatTell x = town(2, 1);
            cell(x, 0, 0, -1, 10, r[0]);
            check.same("no pair", x.right(0), 0);
            check.row("no pair", x, 0, 0);
            cell(x, 1, 0, -1, 10, r[1]);
            check.same("a pair", x.right(0), r[2]);
            check.row("a pair", x, r[3], r[4]);
        }
        BinsThatTell x = new BinsThatTell();
        x.sort(1, -5, 1);
        x.sort(1, 5, 1);
        x.sort(1, 5, 1);
        x.street(1);
        for (int sort = 0; sort < 3; sort++) {
            // 1 by 2 and 2 by 4 are alike.
            for (int c = 0; c < 2 << sort; c++) {
                cell(x, sort, c, -1, 10, c % 2 == 0 ? 10 : 11);
            }
        }
        check.same("MEANS alike as fractions", x.right(0), 0);
        check.row("MEANS alike as fractions", x, 0, 3);
        cell(x, 2, 7, -1, 10, 12);
        check.same("RIGHT alike", x.right(0), 1);
        check.row("RIGHT alike", x, 0, 2);
    }

    // ---- 21 to 24

    private static void three(int[] bags, int[] shops, int[] said, long... due) {
        BinsThatTell x = town(1, 1);
        for (int c = 0; c < bags.length; c++) {
            cell(x, 0, c, bags[c], shops[c], said[c]);
        }
        check.same("three", x.three(0, 0), due.length == 0 ? -2 : bags.length);
        check.row("three", x, due);
    }

    private static int[] of(int... numbers) {
        return numbers;
    }

    private static void threeOfTwo() {
        three(of(1), of(1), of(1));
        three(of(1, 2), of(1, 2), of(1, 2), 1000, 1000, 1000);
        three(of(1, 2), of(2, 1), of(5, 9), 1000, 1000, 1000);
        three(of(1, 1), of(1, 2), of(1, 2));
        three(of(1, 2), of(1, 1), of(1, 2));
        three(of(1, 2), of(1, 2), of(1, 1));
        // Exactly so many thousandths, and cut to 0 from below.
        three(of(6, 5, 1), of(3, 5, 4), of(0, 3, 0), -71, -500, -1500);
        three(of(4, 5, 1), of(1, 6, 1), of(1, 6, 6), -384, -1250, -200);
        three(of(0, 999), of(999, 0), of(0, 1), 1000, 1000, 1000);
        BinsThatTell x = town(1, 1);
        cell(x, 0, 0, 1, 1, 1);
        cell(x, 0, 1, 2, 2, 2);
        cell(x, 0, 2, 2, 2, -1);
        cell(x, 0, 3, 2, -1, 2);
        cell(x, 0, 4, -1, 2, 2);
        check.same("all three are told in two", x.three(0, 0), 2);
        x.put(2, 1, 0, -1);
        check.same("fewer than two", x.three(0, 0), -2);
    }

    private static void slopes() {
        BinsThatTell x = town(1, 1);
        cell(x, 0, 0, 1, 5, 9);
        check.same("one CELL", x.slope(0, 0), -2);
        cell(x, 0, 1, 2, 6, 9);
        check.same("it does not go up", x.slope(0, 0), 0);
        check.row("0 by 1", x, 0, 1);
        x.put(2, 1, 0, 8);
        check.same("it goes down", x.slope(0, 0), 0);
        check.row("below 0", x, -1, 1);
        x.put(1, 1, 0, 3);
        check.same("both go down", x.slope(0, 0), 0);
        check.row("lowest terms", x, 1, 2);
        x.put(2, 1, 0, 12);
        check.same("SHOP goes down", x.slope(0, 0), 0);
        check.row("the lower number is above 0", x, -3, 2);
        x.put(1, 1, 0, 5);
        check.same("SHOPS alike", x.slope(0, 0), -2);
        cell(x, 0, 1, 1, 6, 9);
        check.same("BAGS alike", x.slope(0, 0), -2);
        check.row("the ROW stays", x, -3, 2);
        cell(x, 0, 0, 0, 0, 0);
        cell(x, 0, 1, 999, 999, 999);
        check.same("much", x.slope(0, 0), 0);
        check.row("much", x, 1, 1);
    }

    private static void othersJustAsNear() {
        // SHOP, own, neighbours; nearer WAY 3, nearer the other one, half nearer than either.
        int[][] rows = {{10, 9, 11, 0, 0, 1}, {10, 9, 12, 0, 1, 1}, {10, 8, 11, 1, 0, 0}, {10, 8, 13, 0, 1, 1},
            {10, 10, 10, 0, 0, 0}, {10, 10, 11, 0, 1, 0}, {10, 11, 10, 1, 0, 0}, {10, 7, 12, 1, 0, 1},
            {10, 6, 13, 1, 0, 1}, {10, 12, 9, 1, 0, 1}, {10, 13, 9, 1, 0, 0}, {10, 12, 8, 0, 0, 1},
            {0, 0, 999, 0, 1, 0}, {999, 0, 999, 1, 0, 0}, {500, 0, 999, 1, 0, 1}, {10, 9, 9, 0, 0, 0}, {1, 0, 1, 1, 0, 0}};
        for (int way = 0; way < 3; way++) {
            for (int[] r : rows) {
                BinsThatTell x = town(1, 1);
                x.put(1, 11, 0, r[0]);
                x.put(2 + way, 11, 0, r[1]);
                x.put(5, 11, 0, r[2]);
                String call = "SHOP " + r[0] + ", " + r[1] + ", neighbours " + r[2];
                check.same(call, x.others(0, way), r[3]);
                check.row(call, x, r[4], r[5]);
            }
        }
    }

    private static void worthShares() {
        // Of 0 and 100 each share says itself.
        for (int share = 0; share <= 100; share++) {
            for (int way = 0; way < 3; way++) {
                BinsThatTell x = town(1, 1);
                x.put(1, 0, 0, share);
                x.put(2 + way, 0, 0, 0);
                x.put(5, 0, 0, 100);
                check.same("worth", x.worth(0, way), share);
                check.row("worth", x, 0);
            }
        }
        // Of 0 and 200 two shares are just as near: the least.
        for (int shop = 1; shop < 200; shop += 2) {
            BinsThatTell x = town(1, 1);
            x.put(1, 0, 0, shop);
            x.put(2, 0, 0, 0);
            x.put(5, 0, 0, 200);
            check.same("of equal ones the least", x.worth(0, 0), shop / 2);
            check.row("of equal ones the least", x, 10000);
        }
        BinsThatTell x = town(1, 8);
        for (int cell = 0; cell < 96; cell++) {
            x.put(1, cell, 0, 0);
            x.put(2, cell, 0, 999);
            x.put(5, cell, 0, 999);
        }
        check.same("all alike", x.worth(0, 0), 0);
        check.row("all alike", x, 96L * 99900 * 99900);
        x.put(5, 95, 0, 998);
        check.same("one is less", x.worth(0, 0), 100);
        check.row("one is less", x, 95L * 99900 * 99900 + 99800L * 99800);
    }

    // ---- 25 to 28

    private static void wastesOfNothing() {
        BinsThatTell x = new BinsThatTell();
        x.sort(33, 0, 50);
        x.street(1);
        x.lack(0, 11, true);
        cell(x, 0, 0, 1, 3, -1);
        cell(x, 0, 11, 1, 0, -1);
        check.same("SHOP's sum in LACK is 0", x.waste(0), -2);
        cell(x, 0, 11, 1, 3, -1);
        cell(x, 0, 0, 1, 0, -1);
        check.same("SHOP's sum in others is 0", x.waste(0), -2);
        // 3 times 33 by 100 is 0, 4 times it 1.
        cell(x, 0, 0, 1, 3, -1);
        check.same("alike", x.waste(0), 0);
        check.row("alike", x, 1, 3, 1, 3);
        cell(x, 0, 11, 1, 4, -1);
        check.same("less", x.waste(0), 2);
        check.row("less: 0 by 1", x, 0, 1, 1, 3);
        cell(x, 0, 11, 0, 4, -1);
        check.same("below 0", x.waste(0), 2);
        check.row("below 0", x, -1, 4, 1, 3);
        cell(x, 0, 0, 0, 7, -1);
        check.same("greater", x.waste(0), 1);
        check.row("greater", x, -1, 4, -2, 7);
        // Two by two in lowest terms: 2 by 6 is 1 by 3.
        cell(x, 0, 11, 1, 3, -1);
        cell(x, 0, 0, 1, 3, -1);
        cell(x, 0, 1, 1, 3, -1);
        check.same("alike as fractions", x.waste(0), 0);
        check.row("alike as fractions", x, 1, 3, 1, 3);
        cell(x, 0, 11, 999, 1, -1);
        check.same("much", x.waste(0), 1);
        check.row("much", x, 999, 1, 1, 3);
    }

    private static void story(String signs, int due) {
        check.same("story() of " + signs, Check.story(new BinsThatTell(), signs), due);
    }

    private static void storySigns() {
        for (char c = 0; c < 256; c++) {
            boolean thing = "WwBbEeNnSs".indexOf(c) >= 0;
            boolean two = "<>=".indexOf(c) >= 0;
            story("" + c, thing ? -2 : -1);
            story("W" + c, two ? -3 : -2);
            story("W<" + c, thing ? 0 : -3);
            story("W<w" + c, c == ';' ? -5 : -4);
            story("W<w;" + c, thing ? -6 : -5);
        }
        String claims = "W<w;".repeat(10);
        for (int size = 0; size <= 40; size++) {
            story(claims.substring(0, size), size == 0 || size % 4 == 3 ? 0 : -1 - size);
        }
        story(claims + "W", -41);
        story(claims + "W<w", -41);
        story(claims + "?", -41);
        story(claims.substring(0, 39) + "W", -40);
        story(claims.substring(0, 39) + "WW", -40);
    }

    private static void holds(String claim, BinsThatTell x, boolean due) {
        BinsThatTell y = x;
        Check.story(y, claim);
        int i = y.count(3) - 1;
        check.same("holds " + claim, (y.holds(0) >> i & 1) == 1, due);
        check.same("ROW of " + claim, y.row(i), due ? 0 : 1);
    }

    private static void storiesOfWhatIsHad() {
        // W and w can be had together alone: with one of both told, neither.
        for (int told = 0; told < 4; told++) {
            BinsThatTell x = town(1, 1);
            x.lack(0, 5, true);
            if ((told & 1) != 0) {
                cell(x, 0, 5, 3, 2, -1);
            }
            if ((told & 2) != 0) {
                cell(x, 0, 6, 3, 2, -1);
            }
            holds("W=W", x, told == 3);
            holds("w=w", x, told == 3);
            holds("B=B", x, (told & 1) != 0);
            holds("b=b", x, (told & 2) != 0);
            holds("E=E", x, (told & 1) != 0);
            holds("e=e", x, (told & 2) != 0);
        }
        for (int told = 0; told < 4; told++) {
            BinsThatTell x = town(1, 1);
            x.lack(0, 5, true);
            x.put(5, 5, 0, (told & 1) != 0 ? 0 : -1);
            x.put(5, 6, 0, (told & 2) != 0 ? 0 : -1);
            x.put(2, 7, 0, (told & 2) != 0 ? 0 : -1);
            holds("N=N", x, (told & 1) != 0);
            holds("n=n", x, (told & 2) != 0);
            holds("S=S", x, false);
            holds("s=s", x, (told & 2) != 0);
            holds("s=N", x, told == 3);
            holds("", x, true);
        }
        // SHOP 0 is had as a MEAN, but not as what WASTE is reckoned by.
        BinsThatTell x = town(1, 1);
        x.lack(0, 5, true);
        cell(x, 0, 5, 1, 0, 4);
        cell(x, 0, 6, 1, 1, 5);
        cell(x, 0, 7, 1, 2, 5);
        holds("B<b", x, true);
        holds("W>w", x, false);
        holds("E=e", x, true);
        holds("S<s;b>B", x, true);
        holds("b<E", x, false);
        holds("b>E", x, true);
        x = town(1, 1);
        x.lack(0, 5, true);
        cell(x, 0, 5, 3, 2, 1);
        cell(x, 0, 6, 3, 2, 1);
        cell(x, 0, 7, 1, 2, 0);
        // W 1 by 2, w 0; S 1, s 1 by 2.
        holds("W=s", x, true);
        holds("W<s", x, false);
        holds("W>s", x, false);
        holds("w<W", x, true);
        holds("S>s", x, true);
        holds("W<S;w<s;s<S", x, true);
    }

    private static void partsOfEqual() {
        BinsThatTell x = town(8, 1);
        check.same("by none any", x.parts(), -2);
        Check.story(x, "");
        check.same("an empty one holds by all", x.parts(), 0);
        check.row("an empty one holds by all", x, 1);
        Check.story(x, "b=b");
        for (int sort = 0; sort < 7; sort++) {
            x.put(1, 0, sort, 5);
        }
        check.same("the last SORT has the fewest", x.parts(), 7);
        check.row("the last SORT has the fewest", x, 1);
        x.put(1, 0, 7, 5);
        check.same("all alike: the first", x.parts(), 0);
        check.row("all alike: the first", x, 3);
        for (int i = 2; i < 6; i++) {
            Check.story(x, "");
        }
        check.same("six hold", x.parts(), 0);
        check.row("six hold", x, 63);
    }

    // ---- 29 to 33

    private static void sorters() {
        BinsThatTell x = town(3, 1);
        check.same("none", x.alike(), -2);
        check.same("none", x.mixed(), 0);
        x.twice(0, 0, 1);
        check.same("one, by one SORT alone", x.alike(), -2);
        check.same("none mixed", x.mixed(), 0);
        x.twice(0, 1, 1);
        check.same("0 by 1", x.alike(), 1);
        check.row("0 by 1", x, 0, 1);
        check.same("one mixed", x.mixed(), 1);
        check.row("one mixed", x, 0, 1);
        check.same("leans(0)", x.leans(0), 1);
        check.same("leans(1)", x.leans(1), -1);
        check.same("leans(2)", x.leans(2), 0);
        BinsThatTell y = town(3, 1);
        y.twice(0, 1, 1);
        y.twice(1, 0, 1);
        check.same("none alike", y.alike(), 0);
        check.row("below 0", y, -1, 1);
        BinsThatTell z = town(2, 1);
        z.twice(0, 0, 50);
        z.twice(1, 1, 50);
        check.same("all alike", z.alike(), 100);
        check.row("all alike", z, 1, 1);
        z.put(0, 0, 0, 999);
        check.same("truly", z.truly(0, 0), 999);
        check.row("truly", z, 999, 0);
        z.twice(0, 1, 1);
        // 999 times 50 by 51 is 979.4, times 1 by 51 is 19.5.
        check.same("cut", z.truly(0, 0), 979 + 19);
        check.row("cut", z, 979, 19);
        check.same("no such throws", throwsLeans(z, 2) && throwsLeans(z, -1) && throwsLeans(z, 8), true);
        check.row("the ROW stays", z, 979, 19);
        mixedOfEqual();
    }

    private static boolean throwsLeans(BinsThatTell x, int sort) {
        try {
            x.leans(sort);
            return false;
        } catch (java.util.NoSuchElementException e) {
            return true;
        }
    }

    private static void mixedOfEqual() {
        for (int one = 0; one < 8; one++) {
            for (int other = 0; other < 8; other++) {
                BinsThatTell x = town(8, 1);
                x.twice(6, 7, 2);
                x.twice(one, other, 2);
                boolean first = one != other && Math.min(one, other) < 6;
                boolean same = one + other == 13;
                check.same("mixed", x.mixed(), same ? 4 : 2);
                check.row("of equal ones the first pair", x, first ? Math.min(one, other) : 6,
                    first ? Math.max(one, other) : 7);
            }
        }
    }

    // ---- 34 to 37

    private static void movedJustSo() {
        // LEAVES 33 of 10 is 3: bags, came, went.
        int[][] rows = {{0, 0, 3}, {2, 0, 1}, {3, 0, 0}, {4, 0, 0}, {10, 0, 0}, {11, 1, 0}, {999, 989, 0}};
        for (int[] r : rows) {
            for (int street = 0; street < 8; street += 7) {
                BinsThatTell x = new BinsThatTell();
                x.sort(33, 0, 50);
                for (int i = 0; i < 8; i++) {
                    x.street(1);
                }
                cell(x, 0, 12 * street + 11, r[0], 10, -1);
                check.same("came", x.moved(0, 11), r[1]);
                check.row("BAG " + r[0], x, r[2], r[1] > 0 ? 1 << street : 0, r[2] > 0 ? 1 << street : 0);
                check.same("another WEEK", x.moved(0, 10), 0);
                check.row("another WEEK", x, 0, 0, 0);
            }
        }
    }

    private static void feasts(int due, int... bags) {
        for (int street = 0; street < 2; street++) {
            BinsThatTell x = town(2, 2);
            for (int week = 0; week < bags.length; week++) {
                x.put(0, 12 * street + week, 0, bags[week] < 0 ? -1 : bags[week] / 2);
                x.put(0, 12 * street + week, 1, bags[week] < 0 ? -1 : bags[week] - bags[week] / 2);
            }
            check.same("feasts", x.feasts(street), due);
            check.same("the other STREET", x.feasts(1 - street), 0);
        }
    }

    private static void feastsJustTwice() {
        feasts(0);
        feasts(0, 0);
        feasts(0, 999);
        feasts(0, 5, 10);
        feasts(2, 5, 11);
        feasts(1, 11, 5);
        feasts(1, 1, 0);
        feasts(0, 0, 0);
        feasts(0, 5, 5, 10);
        feasts(4, 5, 5, 11);
        feasts(0, 4, 6, 12);
        feasts(0, 4, 6, 8, 12);
        feasts(8, 4, 6, 8, 13);
        feasts(0, -1, 999);
        feasts(4, -1, 7, 15, -1);
        feasts(1 << 10 | 1 << 11, 1, 1, 1, 1, 1, 1, 1, 2, 2, 2, 3, 3);
        feasts(0, 1, 1, 1, 1, 1, 2, 2, 2, 2, 3, 3, 4);
        feasts(1 << 11, 1, 1, 1, 1, 1, 2, 2, 2, 2, 3, 3, 5);
        BinsThatTell x = town(8, 1);
        for (int sort = 0; sort < 8; sort++) {
            x.put(0, 0, sort, 999);
            x.put(0, 1, sort, sort == 0 ? 999 : 428);
        }
        // 7992 and 3995: twice it is 7990.
        check.same("all SORTS together", x.feasts(0), 1);
        x.put(0, 1, 1, 429);
        check.same("just twice", x.feasts(0), 0);
    }

    private static void needsJustSo() {
        BinsThatTell x = town(1, 8);
        // MEANS 0, 0, 0, 8: of all 2.
        for (int street = 0; street < 4; street++) {
            x.put(1, 12 * street + street, 0, street == 3 ? 8 : 0);
        }
        check.same("off 2 is no farther, 75", x.need(1, 0, 2, 75), 1);
        check.row("off 2 is no farther, 75", x, 3, 4);
        check.same("off 2, 76", x.need(1, 0, 2, 76), 2);
        check.row("off 2, 76", x, 6, 6);
        check.same("off 1, 1", x.need(1, 0, 1, 1), 3);
        check.row("off 1, 1", x, 3, 4);
        check.same("off 1, 75", x.need(1, 0, 1, 75), 3);
        check.same("off 1, 76", x.need(1, 0, 1, 76), 4);
        check.row("off 1, 76", x, 1, 1);
        check.same("off 6, 100", x.need(1, 0, 6, 100), 1);
        check.row("off 6, 100", x, 4, 4);
        check.same("off 5, 100", x.need(1, 0, 5, 100), 2);
        check.same("off 0, 1", x.need(1, 0, 0, 1), 4);
        check.row("off 0, 1", x, 1, 1);
        check.same("by WEEKS, off 2, 75", x.weeks(1, 0, 2, 75), 1);
        check.row("by WEEKS, off 2, 75", x, 3, 4);
        check.same("by WEEKS, off 2, 76", x.weeks(1, 0, 2, 76), 2);
        BinsThatTell one = town(1, 8);
        one.put(5, 95, 0, 999);
        check.same("one STREET", one.need(5, 0, 0, 100), 1);
        check.row("one STREET", one, 1, 1);
        check.same("one WEEK", one.weeks(5, 0, 0, 100), 1);
        check.row("one WEEK", one, 1, 1);
        one.put(5, 0, 0, 0);
        check.same("off 499: neither", one.need(5, 0, 499, 1), 2);
        check.same("off 500: both", one.need(5, 0, 500, 100), 1);
        check.row("off 500: both", one, 2, 2);
        meansNotSums();
    }

    private static void meansNotSums() {
        // Of STREET 0 the MEAN of eleven WEEKS is 1 by 11, of STREET 1 it is 2, of all 23 by 22.
        BinsThatTell x = town(1, 2);
        for (int week = 0; week < 11; week++) {
            x.put(0, week, 0, week == 10 ? 1 : 0);
        }
        x.put(0, 12, 0, 2);
        check.same("21 by 22 is no farther than 1", x.need(0, 0, 1, 100), 1);
        check.row("21 by 22 is no farther than 1", x, 2, 2);
        x.put(0, 12, 0, 3);
        check.same("32 by 22 is", x.need(0, 0, 1, 1), 2);
        check.row("32 by 22 is", x, 1, 1);
        // Of WEEK 0 it is 3 by 2, of nine 0, of the last one 1: no fewer than all have 5 by 22.
        check.same("of WEEKS", x.weeks(0, 0, 0, 1), 11);
        check.row("of WEEKS", x, 1, 1);
    }

    // ---- 38 to 41

    private static void years() {
        BinsThatTell x = new BinsThatTell();
        x.paper(0, 1900, 1900);
        for (int layer = 0; layer < 10; layer++) {
            check.same("all are of the first YEAR", x.year(layer), 1);
            check.row("all are of the first YEAR", x, 1900, 1900);
        }
        x = new BinsThatTell();
        x.paper(9, 2100, 2100);
        for (int layer = 0; layer < 10; layer++) {
            check.same("all are of the last YEAR", x.year(layer), 1);
            check.row("all are of the last YEAR", x, 2100, 2100);
        }
        x = new BinsThatTell();
        x.paper(5, 1950, 1960);
        for (int layer = 0; layer < 10; layer++) {
            int first = layer <= 5 ? 1950 : 1900;
            int last = layer >= 5 ? 1960 : 2100;
            check.same("LAYER " + layer, x.year(layer), last - first + 1);
            check.row("LAYER " + layer, x, first, last);
        }
        x.paper(6, 1960, 1970);
        check.same("just the last YEAR of the one above", x.year(5), 1);
        check.row("just the last YEAR of the one above", x, 1960, 1960);
        x.paper(7, 1961, 1970);
        check.same("a YEAR later than one above", x.year(5), -2);
        x = new BinsThatTell();
        x.paper(5, 1950, 1960);
        x.paper(5, 1960, 1970);
        check.same("one YEAR in both", x.year(5), 1);
        x.paper(5, 1961, 1961);
        check.same("no YEAR in all", x.year(5), -2);
    }

    private static void strays() {
        BinsThatTell x = new BinsThatTell();
        x.paper(0, 1950, 1960);
        x.paper(9, 1960, 1970);
        check.same("they go together", x.stray(), 0);
        check.row("they go together", x, 0);
        x.paper(9, 1961, 1970);
        check.same("one of two, the least", x.stray(), 1);
        check.row("the first one is the least", x, 1);
        x.paper(9, 1900, 1900);
        x.paper(9, 1900, 1900);
        // Bits 1, 2 or 3, 4 with 0 or not: 1 and 2, or 0 with 3 and 4 or 1 and 2.
        check.same("two of five", x.stray(), 2);
        check.row("1 and 2 are the least", x, 6);
        BinsThatTell y = new BinsThatTell();
        for (int i = 0; i < 12; i++) {
            y.paper(0, 1900 + i, 1900 + i);
        }
        check.same("all but one", y.stray(), 11);
        check.row("all but the last", y, 2047);
    }

    private static void tens() {
        BinsThatTell x = new BinsThatTell();
        x.sort(1, 0, 50);
        x.sort(1, 0, 100);
        x.sort(1, 0, 1);
        x.sort(1, 0, 30);
        x.paper(5, 1950, 1950);
        int[][] rows = {{1900, 3}, {1940, 3}, {1949, 3}, {1950, 3}, {1959, 3}, {1960, 6}, {1969, 6}, {1970, 12},
            {1979, 12}, {1980, 24}, {1989, 24}, {1990, 48}, {1999, 48}, {2000, 48}, {2010, 48}, {2100, 48}};
        for (int[] r : rows) {
            check.same("till " + r[0], x.was(5, 0, 3, r[0]), 0);
            check.row("till " + r[0], x, r[1], r[1]);
        }
        check.same("above: from 1950 till 2100", x.was(4, 0, 3, 1999), 0);
        check.row("the last YEAR first", x, 3, 48);
        check.same("below: from 1900 till 1950", x.was(6, 0, 3, 1959), 0);
        check.row("the last YEAR first", x, 3, 48);
        check.same("LASTS 100", x.was(5, 1, 9999, 2100), 0);
        check.row("LASTS 100", x, 9999, 9999);
        check.same("LASTS 1", x.was(5, 2, 9999, 2100), 0);
        check.row("LASTS 1", x, 999900000000L, 999900000000L);
        check.same("no PIECES", x.was(5, 2, 0, 2100), 0);
        check.row("no PIECES", x, 0, 0);
        int[][] thirds = {{1960, 3}, {1970, 11}, {1980, 37}, {1990, 123}};
        for (int[] r : thirds) {
            check.same("LASTS 30 till " + r[0], x.was(5, 3, 1, r[0]), 0);
            check.row("cut once", x, r[1], r[1]);
        }
    }

    // ---- 42, 43

    private static void toldJustThen() {
        BinsThatTell x = town(1, 3);
        // STREET 0 is told from 5 on, 1 never, 2 as it comes; one more each WEEK from 5 on in 0 and 2.
        x.told(0, 5);
        for (int week = 0; week < 12; week++) {
            x.put(3, week, 0, week < 5 ? 10 : 20);
            x.put(3, 12 + week, 0, 7);
            x.put(3, 24 + week, 0, week < 5 ? 10 : 40);
        }
        check.same("w a WEEK ahead", x.does(3, 0, 4), -2);
        int[] from = {-1, 0, 4, 5, 6, 11};
        // With w 5: never told it is one of the others; told later it is none of both.
        long[][] due = {{2, -5, 1}, {1, 20, 1}, {1, 20, 1}, {1, 20, 1}, {1, 10, 1}, {1, 10, 1}};
        for (int i = 0; i < from.length; i++) {
            x.told(2, from[i]);
            check.same("told from " + from[i], x.does(3, 0, 5), due[i][0]);
            check.row("told from " + from[i], x, due[i][1], due[i][2]);
        }
        x.told(2, 11);
        x.told(0, 11);
        check.same("w 11", x.does(3, 0, 11), 1);
        // 30 less five times 20 and six times 60 by 22.
        check.row("w 11", x, 100, 11);
        x.told(0, 0);
        x.told(2, 1);
        check.same("w 1: 0 and 1", x.does(3, 0, 1), 1);
        // Four times 20 and seven times 60 by 22, less 10.
        check.row("w 1: 0 and 1", x, 140, 11);
        groupsOfManyCells();
    }

    private static void groupsOfManyCells() {
        // 2, 3, 5 and 7 CELLS, so that none of them can be taken for another.
        BinsThatTell x = town(1, 2);
        x.told(0, 7);
        int[][] ahead = {{0, 3}, {1, 4}, {12, 1}, {13, 2}, {14, 3}, {15, 4}, {16, 6}, {17, 7}, {18, 9}};
        int[][] then = {{7, 5}, {8, 9}, {9, 12}, {19, 4}, {20, 6}, {21, 8}, {22, 11}, {23, 13}};
        for (int[][] rows : new int[][][] {ahead, then}) {
            for (int[] r : rows) {
                x.put(2, r[0], 0, r[1]);
            }
        }
        // 26 by 3 less 7 by 2 is 31 by 6; 42 by 5 less 32 by 7 is 134 by 35; 31 by 6 less it 281 by 210.
        check.same("more", x.does(2, 0, 7), 1);
        check.row("more", x, 281, 210);
        x.put(2, 23, 0, 20);
        // 49 by 5 less 32 by 7 is 183 by 35: 1085 less 1098 by 210.
        check.same("less", x.does(2, 0, 7), 2);
        check.row("less", x, -13, 210);
    }

    // ---- 44 to 47

    private static void keptAndCounted() {
        BinsThatTell x = town(1, 1);
        for (int i = 0; i < 3; i++) {
            check.same("nothing kept", x.again(i), false);
        }
        for (int i = 0; i < 3; i++) {
            x.put(0, 0, 0, 10 + i);
            x.seed(20 + i);
            check.same("keep", x.keep(i), true);
            check.same("the next one is not kept", x.again(i + 1), false);
        }
        x.put(0, 0, 0, -1);
        for (int i = 2; i >= 0; i--) {
            for (int twice = 0; twice < 2; twice++) {
                check.same("again " + i, x.again(i), true);
                check.same("NUMBERS of " + i, x.get(0, 0, 0), 10 + i);
                check.same("R of " + i, x.seed(0), 20 + i);
                x.put(0, 0, 0, 500);
            }
        }
        x.again(1);
        x.keep(0);
        x.put(0, 0, 0, 3);
        x.again(0);
        check.same("kept anew", x.get(0, 0, 0), 11);
        x.again(2);
        check.same("the others stay", x.get(0, 0, 0), 12);
        int[] numbers = {-1, 0, 999};
        for (int v : numbers) {
            x.put(5, 11, 0, v);
            check.same("NUMBERS told with " + v, x.count(6), v < 0 ? 1 : 2);
        }
        // What was not told when they were kept is told no more.
        x.keep(1);
        x.put(4, 11, 0, 5);
        x.sort(1, 0, 1);
        x.street(1);
        x.put(4, 23, 1, 5);
        check.same("four", x.count(6), 4);
        x.again(1);
        check.same("two", x.count(6), 2);
        check.same("of a STREET and SORT told later", x.get(4, 23, 1), -1);
    }
}
