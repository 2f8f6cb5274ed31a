import java.math.BigInteger;

/** Promises 17 to 24: answers. */
public final class AnswersTest {
    private static final Check check = new Check();

    public static void main(String[] args) {
        offs();
        nearest();
        worst();
        rights();
        threes();
        threesOfManyLargeNumbers();
        slopes();
        others();
        worths();
        check.end("AnswersTest");
    }

    private static BinsThatTell town() {
        BinsThatTell x = new BinsThatTell();
        x.sort(50, 1, 100);
        x.sort(50, 3, 100);
        x.sort(50, 3, 100);
        x.sort(50, -2, 100);
        x.street(10);
        x.street(20);
        return x;
    }

    /** Tells SHOP and SAID of a CELL. */
    private static void said(BinsThatTell x, int sort, int cell, int way, int shop, int said) {
        x.put(1, cell, sort, shop);
        x.put(2 + way, cell, sort, said);
    }

    private static void offs() {
        BinsThatTell x = town();
        check.same("no cells", x.off(0, 0), 0);
        check.noRow("no cells", x, 0);
        said(x, 0, 0, 1, 10, 4);
        said(x, 0, 13, 1, 10, 12);
        said(x, 0, 23, 1, 100, 101);
        x.put(1, 5, 0, 500);
        x.put(3, 6, 0, 500);
        check.same("off(0, 1)", x.off(0, 1), 3);
        check.row("off(0, 1)", x, -1, 1, -6, 2);
        said(x, 0, 7, 1, 3, 9);
        check.same("off(0, 1)", x.off(0, 1), 4);
        check.row("off(0, 1)", x, 3, 4, -6, 6);
        check.same("no cells", x.off(0, 2), 0);
        check.row("the row stays", x, 3, 4, -6, 6);
        check.same("sort 4", x.off(4, 0), -1);
        check.same("sort -1", x.off(-1, 0), -1);
        check.same("way 4", x.off(0, 4), -1);
        check.same("way -1", x.off(0, -1), -1);
        said(x, 2, 0, 0, 5, 9);
        said(x, 2, 1, 0, 5, 8);
        check.same("all too much", x.off(2, 0), 2);
        check.row("all too much", x, 7, 2, 3, 4);
        said(x, 3, 0, 0, 5, 1);
        said(x, 3, 1, 0, 5, 2);
        check.same("all too little", x.off(3, 0), 2);
        check.row("all too little", x, -7, 2, -4, -3);
        said(x, 1, 0, 3, 5, 5);
        check.same("way 3", x.off(1, 3), 1);
        check.row("way 3", x, 0, 1, 0, 0);
    }

    private static void nearest() {
        BinsThatTell x = town();
        check.same("none", x.nearest(0), -2);
        check.same("sort 4", x.nearest(4), -1);
        check.same("sort -1", x.nearest(-1), -1);
        said(x, 0, 0, 3, 10, 16);
        check.same("one way", x.nearest(0), 3);
        check.row("one way", x, 1, 0);
        x.put(3, 0, 0, 4);
        check.same("alike in size: the first", x.nearest(0), 1);
        check.row("alike", x, 0, 1);
        said(x, 0, 1, 3, 10, 10);
        said(x, 0, 2, 3, 10, 9);
        // Way 3: 5 by 3; way 1: -6 by 1.
        check.same("the mean counts", x.nearest(0), 3);
        check.row("the mean counts", x, 1, 1);
        x.put(4, 2, 0, 8);
        check.same("-2 is farther than 5 by 3", x.nearest(0), 3);
        x.put(2, 2, 0, 9);
        check.same("-1 is nearer", x.nearest(0), 0);
        check.row("-1 is nearer", x, 0, 1);
        check.same("none", x.nearest(1), -2);
        check.row("the row stays", x, 0, 1);
        said(x, 1, 0, 0, 10, 11);
        check.same("one too much", x.nearest(1), 0);
        check.row("one too much", x, 1, 0);
    }

    private static void worst() {
        BinsThatTell x = town();
        check.same("none", x.worst(0, 0), -2);
        said(x, 1, 0, 0, 10, 8);
        check.same("the only one", x.worst(0, 0), 1);
        check.row("the only one", x, -2, 1);
        said(x, 2, 0, 0, 10, 8);
        said(x, 2, 1, 0, 10, 7);
        check.same("greatest", x.worst(0, 0), 1);
        check.row("greatest", x, -2, 1);
        check.same("least", x.worst(0, 1), 2);
        check.row("least", x, -5, 2);
        said(x, 3, 0, 0, 10, 8);
        check.same("of equal ones the first", x.worst(0, 0), 1);
        x.put(2, 0, 3, 5);
        said(x, 3, 12, 0, 10, 10);
        check.same("of equal ones the first", x.worst(0, 1), 2);
        check.row("of equal ones the first", x, -5, 2);
        said(x, 0, 23, 0, 10, 18);
        check.same("the first sort", x.worst(0, 0), 0);
        check.row("the first sort", x, 8, 1);
        x.put(2, 23, 0, 0);
        check.same("the first sort", x.worst(0, 1), 0);
        check.row("the first sort", x, -10, 1);
        check.same("the others", x.worst(0, 0), 1);
        check.row("the others", x, -2, 1);
        x.put(2, 23, 0, -1);
        x.worst(0, 1);
        check.same("none", x.worst(1, 0), -2);
        check.same("way 4", x.worst(4, 0), -1);
        check.same("way -1", x.worst(-1, 0), -1);
        check.same("what 2", x.worst(0, 2), -1);
        check.same("what -1", x.worst(0, -1), -1);
        check.row("the row stays", x, -5, 2);
    }

    private static void rights() {
        BinsThatTell x = town();
        check.same("no cells", x.right(2), 0);
        check.row("no cells", x, 0, 0);
        // RIGHT 1, 3, 3, -2; MEANS 0, 2, -1, 0.
        said(x, 0, 0, 2, 10, 10);
        said(x, 1, 0, 2, 10, 12);
        said(x, 2, 0, 2, 10, 9);
        check.same("three sorts", x.right(2), 1);
        check.row("three sorts", x, 1, 1);
        said(x, 3, 0, 2, 10, 10);
        // With the fourth one: 0 and it alike; 1 greater; 2 lesser.
        check.same("four sorts", x.right(2), 2);
        check.row("four sorts", x, 2, 2);
        BinsThatTell y = town();
        said(y, 0, 0, 1, 10, 12);
        said(y, 3, 0, 1, 10, 11);
        check.same("one pair", y.right(1), 1);
        check.row("one pair", y, 0, 0);
        y.put(3, 0, 3, 13);
        check.same("one pair", y.right(1), 0);
        check.row("one pair", y, 1, 0);
        y.put(3, 0, 3, 12);
        check.same("one pair", y.right(1), 0);
        check.row("one pair", y, 0, 1);
        check.same("way 4", x.right(4), -1);
        check.same("way -1", x.right(-1), -1);
        check.row("the row stays", x, 2, 2);
        check.same("another way", x.right(0), 0);
        check.row("another way", x, 0, 0);
    }

    /** Tells BAG, SHOP and SAID of a CELL. */
    private static void three(BinsThatTell x, int cell, int bag, int shop, int said) {
        x.put(0, cell, 0, bag);
        said(x, 0, cell, 2, shop, said);
    }

    private static void threes() {
        BinsThatTell x = town();
        check.same("no cells", x.three(0, 2), -2);
        three(x, 0, 1, 2, 1);
        check.same("one cell", x.three(0, 2), -2);
        three(x, 13, 2, 1, 5);
        three(x, 5, 4, 9, 2);
        x.put(0, 7, 0, 100);
        x.put(1, 7, 0, 100);
        // Sums 7, 12, 8; bag by shop 40 of 3 times: 120 - 84 = 36; bag by said 19: 57 - 56 = 1;
        // shop by said 25: 75 - 96 = -21; of themselves 63 - 49 = 14, 258 - 144 = 114, 90 - 64 = 26.
        check.same("three(0, 2)", x.three(0, 2), 3);
        check.row("three(0, 2)", x, -1000L * 36 / (21 * 14), -1000L * 36 * 21 / 114, -1000L * 21 / (36 * 26));
        check.same("another way", x.three(0, 1), -2);
        check.same("another sort", x.three(1, 2), -2);
        check.same("way 4", x.three(0, 4), -1);
        check.same("way -1", x.three(0, -1), -1);
        check.same("sort 4", x.three(4, 0), -1);
        check.same("sort -1", x.three(-1, 0), -1);
        check.row("the row stays", x, -122, -6631, -22);
        BinsThatTell y = town();
        three(y, 0, 5, 1, 1);
        three(y, 1, 5, 2, 3);
        check.same("all bags alike", y.three(0, 2), -2);
        y.put(0, 1, 0, 6);
        check.same("two cells", y.three(0, 2), 2);
        check.row("two cells", y, 1000, 1000, 1000);
        // Shop and said, said and bag, bag and shop do not go together: one lower number is 0.
        int[][] rows = {{1, 2, 4}, {0, 1, 2}, {1, 0, 1}};
        for (int turn = 0; turn < 3; turn++) {
            BinsThatTell z = town();
            for (int cell = 0; cell < 3; cell++) {
                three(z, cell, rows[turn][cell], rows[(turn + 1) % 3][cell], rows[(turn + 2) % 3][cell]);
            }
            check.same("one lower number is 0", z.three(0, 2), -2);
            three(z, 2, 50, 51, 52);
            check.same("none is 0", z.three(0, 2), 3);
        }
    }

    private static void threesOfManyLargeNumbers() {
        long[][] unlike = new long[3][96];
        long[][] alike = new long[3][96];
        for (int cell = 0; cell < 96; cell++) {
            boolean first = cell < 48;
            unlike[0][cell] = alike[0][cell] = first ? 0 : 999;
            unlike[1][cell] = alike[1][cell] = first ? 999 : 0;
            unlike[2][cell] = cell % 2 == 0 ? 999 : first ? 1 : 2;
            alike[2][cell] = first ? 0 : 999;
        }
        threeOfAll("96 cells", unlike, threeDue(unlike));
        threeOfAll("all alike", alike, 1000, 1000, 1000);
    }

    private static void threeOfAll(String call, long[][] numbers, long... due) {
        BinsThatTell x = new BinsThatTell();
        x.sort(50, 0, 100);
        for (int i = 0; i < 8; i++) {
            x.street(1);
        }
        for (int cell = 0; cell < 96; cell++) {
            three(x, cell, (int) numbers[0][cell], (int) numbers[1][cell], (int) numbers[2][cell]);
        }
        check.same(call, x.three(0, 2), 96);
        check.row(call, x, due);
    }

    private static long[] threeDue(long[][] numbers) {
        long[] due = new long[3];
        for (int i = 0; i < 3; i++) {
            BigInteger upper = spread(numbers, i, (i + 1) % 3).multiply(spread(numbers, i, (i + 2) % 3));
            BigInteger lower = spread(numbers, (i + 1) % 3, (i + 2) % 3).multiply(spread(numbers, i, i));
            due[i] = upper.multiply(BigInteger.valueOf(1000)).divide(lower).longValueExact();
        }
        return due;
    }

    private static BigInteger spread(long[][] numbers, int one, int other) {
        long ones = 0;
        long others = 0;
        long both = 0;
        for (int cell = 0; cell < 96; cell++) {
            ones += numbers[one][cell];
            others += numbers[other][cell];
            both += numbers[one][cell] * numbers[other][cell];
        }
        return BigInteger.valueOf(96 * both - ones * others);
    }

    private static void slopes() {
        BinsThatTell x = town();
        check.same("no cells", x.slope(0, 2), -2);
        three(x, 0, 1, 2, 1);
        check.same("one cell", x.slope(0, 2), -2);
        three(x, 13, 2, 1, 5);
        check.same("two cells", x.slope(0, 2), 0);
        check.row("two cells", x, -4, 1);
        three(x, 5, 4, 9, 2);
        check.same("three cells", x.slope(0, 2), 0);
        check.row("three cells", x, 1, 36);
        BinsThatTell y = town();
        three(y, 0, 1, 2, 1);
        three(y, 1, 2, 2, 5);
        check.same("shops alike", y.slope(0, 2), -2);
        check.same("another way", x.slope(0, 1), -2);
        check.same("way 4", x.slope(0, 4), -1);
        check.same("way -1", x.slope(0, -1), -1);
        check.same("sort 4", x.slope(4, 0), -1);
        check.same("sort -1", x.slope(-1, 0), -1);
        check.row("the row stays", x, 1, 36);
    }

    /** Tells SHOP, SAID by WAY 1 and of neighbours. */
    private static void neighbours(BinsThatTell x, int cell, int shop, int said, int neighbours) {
        said(x, 0, cell, 1, shop, said);
        x.put(5, cell, 0, neighbours);
    }

    private static void others() {
        BinsThatTell x = town();
        check.same("no cells", x.others(0, 1), 0);
        check.row("no cells", x, 0, 0);
        neighbours(x, 0, 10, 5, 12);
        neighbours(x, 1, 10, 9, 12);
        neighbours(x, 2, 10, 8, 12);
        // 7 and 12 are 9 (cut): as near as neither.
        neighbours(x, 13, 10, 7, 12);
        // 9 and 12 are 10 (cut).
        x.put(1, 20, 0, 1);
        x.put(3, 20, 0, 1);
        check.same("others(0, 1)", x.others(0, 1), 2);
        check.row("others(0, 1)", x, 1, 3);
        neighbours(x, 14, 10, 10, 10);
        check.same("alike", x.others(0, 1), 2);
        check.row("alike", x, 1, 3);
        x.put(3, 14, 0, -1);
        x.put(5, 14, 0, 0);
        check.same("own words not told", x.others(0, 1), 2);
        check.row("own words not told", x, 1, 3);
        said(x, 0, 14, 2, 10, 4);
        check.same("way 2", x.others(0, 2), 0);
        check.row("way 2", x, 1, 0);
        check.same("another way", x.others(0, 0), 0);
        check.row("another way", x, 0, 0);
        x.others(0, 1);
        check.same("way 3", x.others(0, 3), -1);
        check.same("way -1", x.others(0, -1), -1);
        check.same("sort 4", x.others(4, 0), -1);
        check.same("sort -1", x.others(-1, 0), -1);
        check.row("the row stays", x, 1, 3);
    }

    private static void worths() {
        BinsThatTell x = town();
        check.same("no cells", x.worth(0, 1), -2);
        neighbours(x, 0, 10, 10, 20);
        check.same("own words", x.worth(0, 1), 0);
        check.row("own words", x, 0);
        neighbours(x, 0, 10, 20, 10);
        check.same("neighbours' words", x.worth(0, 1), 100);
        check.row("neighbours' words", x, 0);
        neighbours(x, 0, 10, 7, 11);
        check.same("three of four", x.worth(0, 1), 75);
        check.row("three of four", x, 0);
        neighbours(x, 0, 10, 20, 20);
        check.same("all alike: the least", x.worth(0, 1), 0);
        check.row("all alike: the least", x, 1000000);
        neighbours(x, 0, 10, 7, 16);
        // A third of them: 33 gives 700 + 297, 34 gives 700 + 306.
        check.same("a third", x.worth(0, 1), 33);
        check.row("a third", x, 9);
        neighbours(x, 0, 10, 0, 5);
        check.same("no more than a hundred", x.worth(0, 1), 100);
        check.row("no more than a hundred", x, 250000);
        neighbours(x, 0, 10, 15, 20);
        check.same("no less than none", x.worth(0, 1), 0);
        check.row("no less than none", x, 250000);
        said(x, 0, 0, 0, 10, 0);
        check.same("way 0", x.worth(0, 0), 50);
        check.row("way 0", x, 0);
        said(x, 0, 0, 2, 10, 5);
        check.same("way 2: a third", x.worth(0, 2), 33);
        check.row("way 2: a third", x, 25);
        x.put(4, 0, 0, -1);
        neighbours(x, 0, 10, 7, 16);
        neighbours(x, 1, 0, 0, 999);
        check.same("two cells", x.worth(0, 1), 0);
        check.row("two cells", x, 90000);
        check.same("way 3", x.worth(0, 3), -1);
        check.same("way -1", x.worth(0, -1), -1);
        check.same("sort 4", x.worth(4, 0), -1);
        check.same("sort -1", x.worth(-1, 0), -1);
        check.same("another way", x.worth(0, 2), -2);
        check.row("the row stays", x, 90000);
    }
}
