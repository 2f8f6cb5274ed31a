/** Promises 34 to 37, and 42 and 43: what is moved, feasts, how many it takes, being told. */
public final class MovedTest {
    private static final Check check = new Check();

    public static void main(String[] args) {
        moved();
        feasts();
        needs();
        needsOfEight();
        weeks();
        told();
        does();
        doesByStreets();
        check.end("MovedTest");
    }

    private static BinsThatTell town(int streets) {
        BinsThatTell x = new BinsThatTell();
        x.sort(33, 0, 100);
        x.sort(100, 0, 100);
        for (int i = 0; i < streets; i++) {
            x.street(10);
        }
        return x;
    }

    private static void moved() {
        BinsThatTell x = town(4);
        check.same("nothing told", x.moved(0, 0), 0);
        check.row("nothing told", x, 0, 0, 0);
        // Of 10 sold 3 (3.3, cut) at least are thrown.
        int[] bags = {11, 3, 2, 10};
        for (int street = 0; street < 4; street++) {
            x.put(1, 12 * street + 11, 0, 10);
            x.put(0, 12 * street + 11, 0, bags[street]);
        }
        check.same("one each", x.moved(0, 11), 1);
        check.row("one each", x, 1, 1, 4);
        x.put(0, 47, 0, 20);
        x.put(0, 23, 0, 0);
        check.same("two each", x.moved(0, 11), 11);
        check.row("two each", x, 4, 9, 6);
        x.put(1, 47, 0, -1);
        x.put(0, 23, 0, -1);
        check.same("both must be told", x.moved(0, 11), 1);
        check.row("both must be told", x, 1, 1, 4);
        x.put(0, 11, 0, 10);
        x.put(1, 35, 0, 900);
        check.same("33 of a hundred", x.moved(0, 11), 0);
        check.row("33 of a hundred", x, 295, 0, 4);
        x.put(0, 11, 0, 11);
        x.put(1, 35, 0, 10);
        check.same("another sort", x.moved(1, 11), 0);
        x.moved(0, 11);
        check.same("sort 2", x.moved(2, 0), -1);
        check.same("sort -1", x.moved(-1, 0), -1);
        check.same("week 12", x.moved(0, 12), -1);
        check.same("week -1", x.moved(0, -1), -1);
        check.row("the row stays", x, 1, 1, 4);
    }

    private static void feasts() {
        BinsThatTell x = town(2);
        check.same("nothing told", x.feasts(1), 0);
        x.put(0, 12, 0, 5);
        check.same("one week", x.feasts(1), 0);
        x.put(0, 23, 1, 11);
        // Of 5 and 11 the lower one is 5: 11 is more than 10.
        check.same("two weeks", x.feasts(1), 2048);
        x.put(0, 12, 1, 1);
        check.same("sorts together: 6 and 11", x.feasts(1), 0);
        x.put(0, 23, 0, 2);
        check.same("sorts together: 6 and 13", x.feasts(1), 2048);
        x.put(0, 15, 0, 0);
        // 0, 6, 13: the middle one is 6.
        check.same("three weeks", x.feasts(1), 2048);
        x.put(0, 16, 0, 0);
        // 0, 0, 6, 13: the lower middle one is 0.
        check.same("four weeks", x.feasts(1), 1 + 2048);
        check.same("the other street", x.feasts(0), 0);
        x.put(1, 17, 0, 900);
        check.same("bags alone", x.feasts(1), 1 + 2048);
        check.same("street 2", x.feasts(2), -1);
        check.same("street -1", x.feasts(-1), -1);
        BinsThatTell y = town(1);
        int[] bags = {9, 4, 8, 3, 7, 2, 6, 1, 5, 10, 11, 13};
        for (int week = 0; week < 12; week++) {
            y.put(0, week, 0, bags[week]);
        }
        // Sorted 1 .. 11 and 13: the lower middle one is 6.
        check.same("twelve weeks", y.feasts(0), 2048);
        y.put(0, 11, 0, 12);
        check.same("twice it is not more", y.feasts(0), 0);
    }

    private static void needs() {
        BinsThatTell x = town(4);
        check.same("nothing told", x.need(0, 0, 999, 1), -2);
        check.noRow("nothing told", x, 0);
        // MEANS 10, 15 by 2, 20; none; of all 12.5.
        x.put(0, 0, 0, 10);
        x.put(0, 13, 0, 7);
        x.put(0, 14, 0, 8);
        x.put(0, 47, 0, 20);
        check.same("off 5: two of three", x.need(0, 0, 5, 66), 1);
        check.row("off 5: two of three", x, 2, 3);
        check.same("off 5, 67", x.need(0, 0, 5, 67), 2);
        check.row("off 5, 67", x, 3, 3);
        check.same("off 2", x.need(0, 0, 2, 1), 2);
        check.row("off 2", x, 1, 3);
        check.same("off 2, 34", x.need(0, 0, 2, 34), 3);
        check.row("off 2, 34", x, 1, 1);
        check.same("off 0", x.need(0, 0, 0, 1), 3);
        check.row("off 0", x, 1, 1);
        check.same("off 999", x.need(0, 0, 999, 100), 1);
        check.row("off 999", x, 3, 3);
        check.same("kind 6", x.need(6, 0, 1, 1), -1);
        check.same("kind -1", x.need(-1, 0, 1, 1), -1);
        check.same("sort 2", x.need(0, 2, 1, 1), -1);
        check.same("sort -1", x.need(0, -1, 1, 1), -1);
        check.same("off -1", x.need(0, 0, -1, 1), -1);
        check.same("off 1000", x.need(0, 0, 1000, 1), -1);
        check.same("power 0", x.need(0, 0, 1, 0), -1);
        check.same("power 101", x.need(0, 0, 1, 101), -1);
        check.same("another kind", x.need(5, 0, 1, 1), -2);
        check.same("another sort", x.need(0, 1, 1, 1), -2);
        check.row("the row stays", x, 3, 3);
    }

    private static void needsOfEight() {
        BinsThatTell x = town(8);
        for (int street = 0; street < 8; street++) {
            x.put(3, 12 * street + street, 1, street < 4 ? 0 : 8);
        }
        // Two of both kinds each: 4 times 4 of 28; three: none; four: 36 of 70.
        check.same("off 0, 50", x.need(3, 1, 0, 50), 2);
        check.row("off 0, 50", x, 16, 28);
        check.same("off 0, 58", x.need(3, 1, 0, 58), 8);
        check.row("off 0, 58", x, 1, 1);
        // Three of them: 8 by 3 or 16 by 3, off 4 by 3, in all but 8 of 56.
        check.same("off 2, 58", x.need(3, 1, 2, 58), 3);
        check.row("off 2, 58", x, 48, 56);
    }

    private static void weeks() {
        BinsThatTell x = town(3);
        check.same("nothing told", x.weeks(0, 0, 999, 1), -2);
        // WEEK 0: 10, 20; WEEK 3: 9; WEEK 11: 3: MEANS 15, 9, 3; of all 9.
        x.put(2, 0, 0, 10);
        x.put(2, 24, 0, 20);
        x.put(2, 15, 0, 9);
        x.put(2, 23, 0, 3);
        check.same("off 0", x.weeks(2, 0, 0, 33), 1);
        check.row("off 0", x, 1, 3);
        check.same("off 0, 34", x.weeks(2, 0, 0, 34), 3);
        check.row("off 0, 34", x, 1, 1);
        check.same("off 3, 34", x.weeks(2, 0, 3, 34), 2);
        check.row("off 3, 34", x, 3, 3);
        check.same("off 6", x.weeks(2, 0, 6, 100), 1);
        check.row("off 6", x, 3, 3);
        check.same("kind 6", x.weeks(6, 0, 1, 1), -1);
        check.same("kind -1", x.weeks(-1, 0, 1, 1), -1);
        check.same("sort 2", x.weeks(0, 2, 1, 1), -1);
        check.same("off -1", x.weeks(0, 0, -1, 1), -1);
        check.same("off 1000", x.weeks(0, 0, 1000, 1), -1);
        check.same("power 0", x.weeks(0, 0, 1, 0), -1);
        check.same("power 101", x.weeks(0, 0, 1, 101), -1);
        check.row("the row stays", x, 3, 3);
        BinsThatTell y = town(8);
        for (int week = 0; week < 12; week++) {
            y.put(0, 12 * (week % 8) + week, 0, week < 6 ? 0 : 999);
        }
        check.same("twelve", y.weeks(0, 0, 0, 54), 2);
        check.row("twelve", y, 36, 66);
        check.same("twelve, 55", y.weeks(0, 0, 0, 55), 12);
        check.row("twelve, 55", y, 1, 1);
        // Of five by tenths of 999: 2 times 15 times 20 of 792; of six by sixths: 20 times 20, 2 times 15 times 15.
        check.same("twelve, off 100", y.weeks(0, 0, 100, 75), 5);
        check.row("twelve, off 100", y, 2 * 15 * 20, 792);
        check.same("twelve, off 167", y.weeks(0, 0, 167, 90), 6);
        check.row("twelve, off 167", y, 20 * 20 + 2 * 15 * 15, 924);
    }

    private static void told() {
        BinsThatTell x = new BinsThatTell();
        check.same("no street", x.told(0, 0), false);
        x = town(2);
        check.same("week 12", x.told(0, 12), false);
        check.same("week -2", x.told(0, -2), false);
        check.same("street 2", x.told(2, 0), false);
        check.same("street -1", x.told(-1, 0), false);
        check.same("week 0", x.told(0, 0), true);
        check.same("week 11", x.told(1, 11), true);
        check.same("never", x.told(1, -1), true);
    }

    private static void does() {
        BinsThatTell x = town(2);
        // The told one: 10, 20, 31 by weeks 0, 1, 2; the other one 10, 14.
        x.put(1, 0, 0, 10);
        x.put(1, 1, 0, 20);
        x.put(1, 2, 0, 31);
        x.put(1, 12, 0, 10);
        x.put(1, 23, 0, 14);
        check.same("none told", x.does(1, 0, 1), -2);
        x.told(0, 1);
        check.same("more", x.does(1, 0, 1), 1);
        check.row("more", x, 23, 2);
        check.same("more", x.does(1, 0, 2), 1);
        check.row("more", x, 12, 1);
        x.put(1, 23, 0, 26);
        check.same("neither", x.does(1, 0, 2), 0);
        check.row("neither", x, 0, 1);
        x.put(1, 22, 0, 29);
        check.same("less", x.does(1, 0, 2), 2);
        check.row("less", x, -3, 2);
        x.told(0, 2);
        check.same("told later", x.does(1, 0, 1), -2);
        x.told(0, 1);
        check.same("nothing from then on", x.does(1, 0, 3), -2);
        check.same("another kind", x.does(2, 0, 2), -2);
        check.same("another sort", x.does(1, 1, 2), -2);
        x.told(1, 0);
        check.same("all told", x.does(1, 0, 2), -2);
        BinsThatTell y = town(2);
        y.told(0, 3);
        int[] cells = {2, 3, 14, 15};
        for (int cell : cells) {
            y.put(0, cell, 0, 7);
        }
        for (int cell : cells) {
            y.put(0, cell, 0, -1);
            check.same("one of four is not told", y.does(0, 0, 3), -2);
            y.put(0, cell, 0, 7);
        }
        y.put(0, 3, 0, 8);
        check.same("one more", y.does(0, 0, 3), 1);
        check.row("one more", y, 1, 1);
        y.put(0, 15, 0, 9);
        check.same("one less", y.does(0, 0, 3), 2);
        check.row("one less", y, -1, 1);
        check.same("kind 6", x.does(6, 0, 1), -1);
        check.same("kind -1", x.does(-1, 0, 1), -1);
        check.same("sort 2", x.does(0, 2, 1), -1);
        check.same("sort -1", x.does(0, -1, 1), -1);
        check.same("w 0", x.does(0, 0, 0), -1);
        check.same("w 12", x.does(0, 0, 12), -1);
        check.row("the row stays", x, -3, 2);
    }

    private static void doesByStreets() {
        BinsThatTell x = town(4);
        x.told(0, 0);
        x.told(1, 11);
        x.told(2, 5);
        for (int street = 0; street < 4; street++) {
            x.put(4, 12 * street + 10, 1, 10 * street + 1);
            x.put(4, 12 * street + 11, 1, 10 * street + 1 + street * street);
        }
        // All three: from 11 to 38 by 3; the other: from 31 to 40.
        check.same("w 11", x.does(4, 1, 11), 2);
        check.row("w 11", x, -22, 3);
        x.put(4, 12 * 3 + 4, 1, 30);
        x.put(4, 12 * 2 + 3, 1, 20);
        x.put(4, 12 + 3, 1, 999);
        // Streets 0 and 2 alone: 1, 1, 21, 25 by 4 less 20; the other 71 by 2 less 30.
        check.same("w 5", x.does(4, 1, 5), 2);
        check.row("w 5", x, -27, 2);
    }
}
