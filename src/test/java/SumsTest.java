/** Promises 14 to 16: sums. */
public final class SumsTest {
    private static final Check check = new Check();

    public static void main(String[] args) {
        sums();
        bounds();
        lines();
        check.end("SumsTest");
    }

    private static BinsThatTell town() {
        BinsThatTell x = new BinsThatTell();
        x.sort(30, 0, 100);
        x.sort(100, 0, 100);
        x.street(10);
        x.street(20);
        x.street(30);
        return x;
    }

    private static void sums() {
        BinsThatTell x = town();
        x.put(1, 0, 0, 1);
        x.put(1, 11, 0, 2);
        x.put(1, 12, 0, 4);
        x.put(1, 35, 0, 8);
        x.put(1, 35, 1, 16);
        x.put(2, 35, 0, 32);
        check.same("all", x.sum(1, 0, 255, 4095), 15);
        check.row("all", x, 4);
        check.same("week 0", x.sum(1, 0, 255, 1), 5);
        check.row("week 0", x, 2);
        check.same("week 11", x.sum(1, 0, 255, 2048), 10);
        check.row("week 11", x, 2);
        check.same("streets 0, 2", x.sum(1, 0, 5, 4095), 11);
        check.row("streets 0, 2", x, 3);
        check.same("no such streets", x.sum(1, 0, 248, 4095), 0);
        check.row("no such streets", x, 0);
        check.same("sort 1", x.sum(1, 1, 4, 2048), 16);
        check.row("sort 1", x, 1);
        check.same("kind 2", x.sum(2, 0, 4, 2048), 32);
        check.same("kind 0", x.sum(0, 0, 255, 4095), 0);
        check.row("kind 0", x, 0);
        x.sum(1, 1, 4, 2048);
        check.same("kind -1", x.sum(-1, 0, 1, 1), -1);
        check.same("kind 6", x.sum(6, 0, 1, 1), -1);
        check.same("sort -1", x.sum(0, -1, 1, 1), -1);
        check.same("sort 2", x.sum(0, 2, 1, 1), -1);
        check.same("streets 0", x.sum(0, 0, 0, 1), -1);
        check.same("streets 256", x.sum(0, 0, 256, 1), -1);
        check.same("weeks 0", x.sum(0, 0, 1, 0), -1);
        check.same("weeks 4096", x.sum(0, 0, 1, 4096), -1);
        check.same("streets -1", x.sum(0, 0, -1, 1), -1);
        check.row("the row stays", x, 1);
    }

    private static void bounds() {
        BinsThatTell x = town();
        x.put(0, 5, 0, 7);
        // 7 less 3 of ten of it, by 30 of a hundred: 4.9 times 100 by 30.
        check.same("bounds", x.bounds(0, 5, 30), 0);
        check.row("bounds", x, 49, 3, 70, 3);
        x.goes(0, 10, 15, 5);
        // 700 by 30, by 70 of a hundred.
        check.same("gone", x.bounds(0, 5, 30), 0);
        check.row("gone", x, 49, 3, 100, 3);
        check.same("all waste", x.bounds(0, 5, 100), 0);
        check.row("all waste", x, 0, 1, 100, 3);
        check.same("no waste", x.bounds(0, 5, 0), 0);
        check.row("no waste", x, 70, 3, 100, 3);
        check.same("not told", x.bounds(0, 6, 0), -2);
        check.row("the row stays", x, 70, 3, 100, 3);
        x.goes(0, 99, 1, 0);
        check.same("all goes", x.bounds(0, 5, 30), -3);
        check.row("all goes", x, 49, 3);
        check.same("all goes, not told", x.bounds(0, 6, 30), -2);
        x.put(0, 7, 0, 0);
        x.goes(0, 0, 0, 0);
        check.same("empty bag", x.bounds(0, 7, 30), 0);
        check.row("empty bag", x, 0, 1, 0, 1);
        x.put(0, 35, 1, 999);
        x.goes(1, 33, 33, 33);
        check.same("much", x.bounds(1, 35, 1), 0);
        check.row("much", x, 98901, 100, 99900, 1);
        check.same("sort 2", x.bounds(2, 0, 0), -1);
        check.same("sort -1", x.bounds(-1, 0, 0), -1);
        check.same("cell 36", x.bounds(0, 36, 0), -1);
        check.same("cell -1", x.bounds(0, -1, 0), -1);
        check.same("waste -1", x.bounds(0, 5, -1), -1);
        check.same("waste 101", x.bounds(0, 5, 101), -1);
        check.row("the row stays", x, 98901, 100, 99900, 1);
    }

    private static void lines() {
        BinsThatTell x = town();
        x.put(0, 0, 0, 3);
        x.put(0, 35, 0, 6);
        x.put(0, 1, 0, 900);
        x.put(4, 0, 0, 20);
        x.put(4, 35, 0, 9);
        x.put(4, 2, 0, 900);
        // 9 PIECES: 30 eaten at least without waste; said 29.
        check.same("more", x.line(0, 2, 0), 1);
        check.row("more", x, 30, 1, 29);
        check.same("all waste", x.line(0, 2, 100), 0);
        check.row("all waste", x, 0, 1, 29);
        check.same("waste", x.line(0, 2, 10), 0);
        check.row("waste", x, 27, 1, 29);
        x.put(4, 35, 0, 10);
        check.same("just so", x.line(0, 2, 0), 0);
        check.row("just so", x, 30, 1, 30);
        x.put(4, 35, 0, 11);
        check.same("less", x.line(0, 2, 0), 2);
        check.row("less", x, 30, 1, 31);
        x.goes(0, 1, 1, 1);
        check.same("some gone: 30.9 at most", x.line(0, 2, 0), 2);
        x.goes(0, 2, 1, 1);
        check.same("some gone: 31.25 at most", x.line(0, 2, 0), 0);
        x.goes(0, 1, 1, 98);
        x.put(4, 35, 0, 999);
        check.same("all goes", x.line(0, 2, 0), 0);
        check.row("all goes", x, 30, 1, 1019);
        check.same("all goes, more", x.put(4, 35, 0, 0), 999);
        check.same("all goes, more", x.line(0, 2, 0), 1);
        check.row("all goes, more", x, 30, 1, 20);
        check.same("no such cell", x.line(0, 1, 0), -2);
        check.same("sort 2", x.line(2, 0, 0), -1);
        check.same("sort -1", x.line(-1, 0, 0), -1);
        check.same("way 4", x.line(0, 4, 0), -1);
        check.same("way -1", x.line(0, -1, 0), -1);
        check.same("waste -1", x.line(0, 2, -1), -1);
        check.same("waste 101", x.line(0, 2, 101), -1);
        check.row("the row stays", x, 30, 1, 20);
    }
}
