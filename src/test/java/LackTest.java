/** Promises 25 to 28: lack, and stories of it. */
public final class LackTest {
    private static final Check check = new Check();

    public static void main(String[] args) {
        wastes();
        storyPlaces();
        storiesAtMostSix();
        claims();
        claimsThatCanNotBeHad();
        parts();
        check.end("LackTest");
    }

    private static BinsThatTell town() {
        BinsThatTell x = new BinsThatTell();
        x.sort(35, 0, 100);
        x.sort(100, 0, 100);
        x.sort(100, 0, 100);
        x.street(10);
        x.street(20);
        return x;
    }

    private static void bought(BinsThatTell x, int sort, int cell, int shop, int bag) {
        x.put(1, cell, sort, shop);
        x.put(0, cell, sort, bag);
    }

    private static void wastes() {
        BinsThatTell x = town();
        x.lack(0, 3, true);
        check.same("nothing told", x.waste(0), -2);
        bought(x, 0, 0, 10, 5);
        check.same("no lack told", x.waste(0), -2);
        bought(x, 0, 3, 0, 5);
        check.same("nothing sold in lack", x.waste(0), -2);
        check.noRow("nothing told", x, 0);
        bought(x, 0, 15, 10, 2);
        // In LACK: 5 less 0, and 2 less 3 (3.5, cut), by 10; in others: 5 less 3, by 10.
        check.same("greater", x.waste(0), 1);
        check.row("greater", x, 2, 5, 1, 5);
        bought(x, 0, 3, 0, 0);
        check.same("less", x.waste(0), 2);
        check.row("less", x, -1, 10, 1, 5);
        bought(x, 0, 16, 10, -1);
        x.put(0, 17, 0, 900);
        check.same("both must be told", x.waste(0), 2);
        check.row("both must be told", x, -1, 10, 1, 5);
        bought(x, 0, 15, 20, 11);
        check.same("alike", x.waste(0), 0);
        check.row("alike", x, 1, 5, 1, 5);
        // Cut in each CELL: 9 times 35 is 3.15, three times.
        bought(x, 0, 0, 9, 3);
        bought(x, 0, 1, 9, 3);
        bought(x, 0, 2, 9, 3);
        check.same("cut, each", x.waste(0), 1);
        check.row("cut, each", x, 1, 5, 0, 1);
        bought(x, 0, 3, 0, -1);
        bought(x, 0, 15, 1, 3);
        check.same("one sold in lack", x.waste(0), 1);
        check.row("one sold in lack", x, 3, 1, 0, 1);
        bought(x, 0, 15, 900, 315);
        check.same("35 of a hundred", x.waste(0), 0);
        check.row("35 of a hundred", x, 0, 1, 0, 1);
        x.lack(0, 3, false);
        check.same("no lack", x.waste(0), -2);
        for (int week = 0; week < 12; week++) {
            x.lack(0, week, true);
        }
        check.same("lack alone", x.waste(0), -2);
        check.same("sort 3", x.waste(3), -1);
        check.same("sort -1", x.waste(-1), -1);
        check.row("the row stays", x, 0, 1, 0, 1);
    }

    private static void storyPlaces() {
        story("W<w", 0);
        story("", 0);
        story("W", -2);
        story("W<", -3);
        story("W<w;", -5);
        story("W<w,", -4);
        story("W<w;W", -6);
        story("W<w;;", -5);
        story("W<w;B=b;e>E;N<S;n=s", 0);
        story("w<w", 0);
        story("<", -1);
        story(";", -1);
        story("x<w", -1);
        story("1<w", -1);
        story("Ww", -2);
        story("W!w", -2);
        story("W<<", -3);
        story("W<=", -3);
        story("W<h", -3);
        story(" ", -1);
        story("W<w ", -4);
        String thirtySix = "W<w;W<w;W<w;W<w;W<w;W<w;W<w;W<w;W<w;";
        story(thirtySix + "W<w", 0);
        story(thirtySix, -37);
        story(thirtySix + "W<", -39);
        story(thirtySix + "W<w;", -41);
        story(thirtySix + "W<w;W", -41);
        story(thirtySix + "W<w;W<w", -41);
        story(thirtySix + "W<w?", -40);
        story(thirtySix + "W<w?W", -40);
        story(thirtySix + "W<w;?", -41);
    }

    private static void story(String signs, int due) {
        BinsThatTell x = new BinsThatTell();
        check.same("story() of " + signs, Check.story(x, signs), due);
        check.same(signs + ": the text", x.count(8), 0);
        check.same(signs + ": stories", x.count(3), due == 0 ? 1 : 0);
    }

    private static void storiesAtMostSix() {
        BinsThatTell x = new BinsThatTell();
        for (int i = 0; i < 6; i++) {
            check.same("story " + i, Check.story(x, "W<w"), i);
            check.same("wrong", Check.story(x, "W<W<"), i < 5 ? -4 : -100);
        }
        check.same("six are told", Check.story(x, "W<w"), -100);
        check.same("six are told", Check.story(x, ""), -100);
        check.same("the text", x.count(8), 0);
        check.same("count(3)", x.count(3), 6);
    }

    private static void claims() {
        BinsThatTell x = town();
        x.lack(1, 0, true);
        // LACK: shop 10, 20; others: shop 16. Bags: 12, 25; 17. Neighbours: 3; 4, 4. Ways: 0 by 0: 5; 5.
        bought(x, 1, 0, 10, 12);
        bought(x, 1, 12, 20, 25);
        bought(x, 1, 1, 16, 17);
        x.put(5, 0, 1, 3);
        x.put(5, 1, 1, 4);
        x.put(5, 2, 1, 4);
        x.put(2, 0, 1, 5);
        x.put(2, 13, 1, 5);
        x.put(3, 0, 1, 900);
        x.put(4, 1, 1, 900);
        // W 7 by 30, w 1 by 16; B 15, b 16; E 37 by 2, e 17; N 3, n 4; S 5, s 5.
        Check.story(x, "W>w;B<b;E>e;N<n;S=s");
        Check.story(x, "W<w;w>W;b<B;e=E;n<N;S<s;s>S;N=n");
        Check.story(x, "W<N;E>b;B>S;s>n;w<W;E>B;e>b");
        Check.story(x, "W=W;n=n;B=S");
        check.same("holds(1)", x.holds(1), 5);
        check.row("holds(1)", x, 0, 8, 0, 1);
        BinsThatTell y = town();
        y.lack(1, 0, true);
        bought(y, 1, 0, 2, 8);
        bought(y, 1, 1, 1, 1);
        Check.story(y, "W=S;W>n;N<w;w<n");
        y.put(2, 0, 1, 3);
        y.put(5, 2, 1, 2);
        y.put(5, 3, 1, 1);
        y.put(5, 0, 1, 0);
        // W 3, w 0; S 3; N 0, n 3 by 2: all but the third.
        check.same("wastes and means", y.holds(1), 0);
        check.row("wastes and means", y, 1);
        // A mean without its bag is had, a waste is not.
        x.put(0, 1, 1, -1);
        check.same("waste", x.waste(1), -2);
        check.same("holds(1)", x.holds(1), 0);
        check.row("holds(1)", x, 2, 8, 3, 2);
    }

    private static void claimsThatCanNotBeHad() {
        BinsThatTell x = town();
        check.same("no stories", x.holds(0), 0);
        check.row("no stories", x);
        Check.story(x, "B=B;b=b");
        Check.story(x, "");
        Check.story(x, "w=w;W=W;e=E;N=n;S=s");
        Check.story(x, "b=b");
        x.put(1, 0, 0, 7);
        check.same("holds(0)", x.holds(0), 2 + 8);
        check.row("holds(0)", x, 1, 0, 5, 0);
        check.same("holds(1)", x.holds(1), 2);
        check.row("holds(1)", x, 2, 0, 5, 1);
        check.same("sort 3", x.holds(3), -1);
        check.same("sort -1", x.holds(-1), -1);
        check.row("the row stays", x, 2, 0, 5, 1);
    }

    private static void parts() {
        BinsThatTell x = new BinsThatTell();
        check.same("no sorts", x.parts(), -2);
        x = town();
        check.same("no stories", x.parts(), -2);
        Check.story(x, "b=b");
        Check.story(x, "b=b;S<s");
        Check.story(x, "e=e");
        check.same("none holds", x.parts(), -2);
        check.noRow("none holds", x, 0);
        x.put(1, 0, 2, 1);
        check.same("the only one", x.parts(), 2);
        check.row("the only one", x, 1);
        x.put(0, 0, 2, 1);
        x.put(0, 0, 0, 1);
        check.same("the fewest", x.parts(), 0);
        check.row("the fewest", x, 4);
        x.put(1, 0, 1, 1);
        check.same("of equal ones the first", x.parts(), 0);
        check.row("of equal ones the first", x, 4);
        x.put(1, 0, 0, 1);
        check.same("one holds by it", x.parts(), 1);
        check.row("one holds by it", x, 1);
    }
}
