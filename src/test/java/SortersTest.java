/** Promises 29 to 33: sorters. */
public final class SortersTest {
    private static final Check check = new Check();

    public static void main(String[] args) {
        twice();
        twiceAtMost();
        alike();
        mixed();
        leans();
        truly();
        check.end("SortersTest");
    }

    private static BinsThatTell town() {
        BinsThatTell x = new BinsThatTell();
        for (int i = 0; i < 3; i++) {
            x.sort(50, 0, 100);
        }
        x.street(10);
        return x;
    }

    private static void twice() {
        BinsThatTell x = new BinsThatTell();
        check.same("no sorts", x.twice(0, 0, 1), -1);
        x = town();
        check.same("99", x.twice(0, 2, 99), 99);
        check.same("1", x.twice(0, 2, 1), 100);
        check.same("0", x.twice(0, 0, 0), -1);
        check.same("100", x.twice(0, 0, 100), -1);
        check.same("-1", x.twice(0, 0, -1), -1);
        check.same("one 3", x.twice(3, 0, 1), -1);
        check.same("one -1", x.twice(-1, 0, 1), -1);
        check.same("other 3", x.twice(0, 3, 1), -1);
        check.same("other -1", x.twice(0, -1, 1), -1);
        check.same("count(4)", x.count(4), 100);
    }

    private static void twiceAtMost() {
        BinsThatTell x = town();
        for (int i = 1; i <= 101; i++) {
            check.same("99 more", x.twice(1, 1, 99), 99 * i);
        }
        check.same("one more than 9999", x.twice(1, 1, 1), -1);
        check.same("count(4)", x.count(4), 9999);
        check.same("alike()", x.alike(), -2);
        BinsThatTell y = town();
        for (int i = 0; i < 100; i++) {
            y.twice(1, 1, 99);
        }
        check.same("above 9999", y.twice(2, 2, 100), -1);
        check.same("9999", y.twice(2, 2, 99), 9999);
        check.same("alike()", y.alike(), 9999);
        check.row("alike()", y, 1, 1);
        check.same("9999 and one", y.twice(2, 2, 1), -1);
    }

    private static void alike() {
        BinsThatTell x = town();
        check.same("none", x.alike(), -2);
        x.twice(0, 0, 5);
        check.same("one sort alone", x.alike(), -2);
        check.noRow("one sort alone", x, 0);
        x.twice(0, 1, 3);
        // 8 PIECES: 25 + 15 is the first ones' 8 times 5: chance 40, 64 less it 24, 40 less it 0.
        check.same("by chance", x.alike(), 5);
        check.row("by chance", x, 0, 1);
        x.twice(2, 0, 4);
        // 12: sums 8, 0, 4 and 9, 3, 0: chance 72; 60 less it -12; 144 less it 72.
        check.same("worse than by chance", x.alike(), 5);
        check.row("worse than by chance", x, -1, 6);
        x.twice(2, 2, 9);
        // 21: sums 8, 0, 13 and 9, 3, 9: chance 72 + 117; 21 times 14 less it 105; 441 less it 252.
        check.same("better than by chance", x.alike(), 14);
        check.row("better than by chance", x, 5, 12);
        BinsThatTell y = town();
        y.twice(0, 1, 5);
        check.same("none alike", y.alike(), 0);
        check.row("none alike", y, 0, 1);
    }

    private static void mixed() {
        BinsThatTell x = town();
        check.same("none", x.mixed(), 0);
        x.twice(1, 1, 50);
        check.same("alike alone", x.mixed(), 0);
        check.noRow("alike alone", x, 0);
        x.twice(2, 1, 1);
        check.same("one piece", x.mixed(), 1);
        check.row("one piece", x, 1, 2);
        x.twice(2, 1, 2);
        check.same("one pair", x.mixed(), 3);
        check.row("one pair", x, 1, 2);
        x.twice(0, 2, 1);
        x.twice(2, 0, 2);
        check.same("either way; the first pair", x.mixed(), 3);
        check.row("either way; the first pair", x, 0, 2);
        x.twice(1, 2, 1);
        check.same("more", x.mixed(), 4);
        check.row("more", x, 1, 2);
        x.twice(1, 0, 5);
        check.same("most", x.mixed(), 5);
        check.row("most", x, 0, 1);
    }

    private static void leans() {
        BinsThatTell x = new BinsThatTell();
        check.noLeans(x, 0);
        x = town();
        check.same("leans(0)", x.leans(0), 0);
        x.twice(0, 0, 9);
        x.twice(0, 1, 5);
        x.twice(2, 0, 2);
        check.same("leans(0)", x.leans(0), 3);
        check.same("leans(1)", x.leans(1), -5);
        check.same("leans(2)", x.leans(2), 2);
        check.noLeans(x, 3);
        check.noLeans(x, -1);
        check.same("no row", x.count(7), 0);
    }

    private static void truly() {
        BinsThatTell x = town();
        x.twice(1, 0, 1);
        x.twice(1, 1, 3);
        x.twice(1, 2, 3);
        x.twice(0, 1, 50);
        x.put(0, 11, 1, 10);
        check.same("truly(1, 11)", x.truly(1, 11), 1 + 4 + 4);
        check.row("truly(1, 11)", x, 1, 4, 4);
        x.put(0, 11, 1, 0);
        check.same("empty bag", x.truly(1, 11), 0);
        check.row("empty bag", x, 0, 0, 0);
        check.same("not told", x.truly(1, 10), -2);
        x.put(0, 11, 2, 10);
        check.same("none taken for it", x.truly(2, 11), -2);
        check.same("sort 3", x.truly(3, 0), -1);
        check.same("sort -1", x.truly(-1, 0), -1);
        check.same("cell 12", x.truly(0, 12), -1);
        check.same("cell -1", x.truly(0, -1), -1);
        check.row("the row stays", x, 0, 0, 0);
        for (int i = 0; i < 5; i++) {
            x.sort(1, 0, 1);
        }
        x.put(0, 11, 1, 7);
        check.same("eight sorts", x.truly(1, 11), 7);
        check.row("eight sorts", x, 1, 3, 3, 0, 0, 0, 0, 0);
    }
}
