/**
 * Sentences of the document that name a boundary case, one by one: what lies just inside and just outside,
 * what goes round, what is cut. What calls take at all stands in RefusedTest.
 */
public final class EdgesTest {
    private static final Check check = new Check();

    public static void main(String[] args) {
        atFirst();
        drawsFromTheFirstOn();
        drawOrder();
        numbersOfLaws();
        manySignsAhead();
        nestedLaws();
        comparisons();
        oneOrNothing();
        goesRound();
        byNothing();
        whatStandsInWhichLaw();
        putToBounds();
        thrownIsCut();
        bagsAtMost();
        corners();
        sheetEntries();
        sheetCells();
        textSigns();
        check.end("EdgesTest");
    }

    /** One SORT of these LEAVES, one STREET of seven HOUSES. */
    private static BinsThatTell town(int leaves) {
        BinsThatTell x = new BinsThatTell();
        x.sort(leaves, 0, 100);
        x.street(7);
        return x;
    }

    // ---- Terms 1: SORTS, LACK, NUMBERS at first

    private static void atFirst() {
        BinsThatTell x = town(100);
        for (int week = 0; week < 12; week++) {
            for (int kind = 0; kind < 6; kind++) {
                check.same("not told at first", x.get(kind, week, 0), -1);
            }
        }
        x.put(0, 0, 0, 10);
        check.same("SINK, BACK, CORNER at first 0", x.bounds(0, 0, 0), 0);
        check.row("SINK, BACK, CORNER at first 0", x, 10, 1, 10, 1);
        Check.law(x, 0, "5+q");
        for (int week = 0; week < 12; week++) {
            x.live(0, week);
            check.same("no LACK at first", x.get(1, week, 0), 5);
        }
        x.street(7);
        x.put(1, 12, 0, 5);
        x.put(1, 13, 0, 5);
        check.same("never told at first", x.does(1, 0, 1), -2);
        x.told(0, 1);
        check.same("the other one never told at first", x.does(1, 0, 1), 0);
    }

    // ---- Terms 1: a DRAW

    private static void drawsFromTheFirstOn() {
        BinsThatTell x = town(100);
        Check.law(x, 0, "z");
        // The second R is below 0: by its sign it would be another draw.
        int[] rs = {1103527590, -1770082073, 662824084, -999580867, -112468174, -1778682749};
        int[] draws = {8, 6, 3, 3, 9, 5};
        for (int i = 0; i < draws.length; i++) {
            x.live(0, 0);
            check.same("draw " + i, x.get(1, 0, 0), draws[i]);
            check.same("R " + i, x.seed(rs[i]), rs[i]);
        }
        x.seed(0);
        x.live(0, 0);
        check.same("from 0 on", x.seed(-1), 12345);
        x.live(0, 0);
        check.same("from -1 on it goes round", x.seed(Integer.MIN_VALUE), -1103502900);
        x.live(0, 0);
        check.same("from the least on", x.seed(1), -2147471303);
    }

    private static void drawOrder() {
        // Of less than a hundred eaten nothing is left, so that what is left was not eaten.
        BinsThatTell x = town(1);
        x.sort(1, 0, 100);
        for (int i = 0; i < 6; i++) {
            Check.law(x, i, "z");
        }
        check.same("R is not drawn when laws are told", x.seed(1), 1);
        check.same("not eaten", x.live(0, 0), 8 - 6 + 8 - 7);
        // Of each SORT BOUGHT, EATEN, and what is SAID by WAYS 0 .. 3.
        int[][] draws = {{8, 6, 3, 3, 9, 5}, {8, 7, 0, 6, 9, 7}};
        for (int sort = 0; sort < 2; sort++) {
            check.same("BOUGHT of " + sort, x.get(1, 0, sort), draws[sort][0]);
            for (int way = 0; way < 4; way++) {
                check.same("SAID of " + sort + " by " + way, x.get(2 + way, 0, sort), draws[sort][2 + way]);
            }
        }
        check.same("twelve draws", x.seed(1), 836760821);
        comesTo("z*10+z", 86);
        comesTo("z+z*z", 26);
        comesTo("z-z-z", -1);
        comesTo("(z=8)&(z=6)", 1);
        comesTo("1|z*0|(z=6)", 1);
        comesTo("z/0+z", 6);
        comesTo("0*z+z", 6);
        comesTo("0/z+z", 6);
        comesTo("(0&z)+z", 6);
        comesTo("(1|z)+z", 7);
        comesTo("!z+z", 6);
        comesTo("-z+z", -2);
        comesTo("(z<z)+z", 3);
    }

    // ---- Terms 1: LAWS

    private static void law(int i, String signs, int due) {
        check.same("law(" + i + ") of " + signs, Check.law(town(100), i, signs), due);
    }

    private static String times(String signs, int many) {
        return signs.repeat(many);
    }

    /** By the law that asks whether it is so, and by those that ask whether it is one more or less. */
    private static void comesTo(String expression, int due) {
        for (int by = due == -999 ? 0 : -1; by <= (due == 999 ? 0 : 1); by++) {
            BinsThatTell x = town(100);
            String law = "(" + expression + ")=" + (due + by);
            check.same(law + " is a law", Check.law(x, 0, law), 0);
            x.live(0, 0);
            check.same(law, x.get(1, 0, 0), by == 0 ? 1 : 0);
        }
    }

    private static void numbersOfLaws() {
        law(0, "0", 0);
        law(0, "9", 0);
        law(0, "00", 0);
        law(0, "99", 0);
        law(0, "000", 0);
        law(0, "999", 0);
        law(0, "0000", -4);
        law(0, "9999", -4);
        law(0, "-9999", -5);
        law(0, "(1234", -5);
        law(0, "999+999", 0);
        law(0, "999+9999", -8);
        law(0, "1 2", -2);
        // A NUMBER behind a thing that ends in a NUMBER.
        law(0, "(1)1", -4);
        law(0, "(12)3", -5);
        law(0, "(999)9", -6);
        law(0, "(1)1+1", -4);
        law(0, "1+h2", -4);
        law(0, "1-(2)-3", 0);
        comesTo("000", 0);
        comesTo("001", 1);
        comesTo("999", 999);
        comesTo("-999", -999);
    }

    private static void manySignsAhead() {
        law(0, times("!", 39) + "h", 0);
        law(0, times("-", 39) + "h", 0);
        law(0, times("!", 40), -41);
        law(0, times("-", 39), -40);
        law(0, times("!", 40) + "h", -41);
        for (String ahead : new String[] {"!", "-", "!-", "-!"}) {
            int many = ahead.length() == 1 ? 37 : 18;
            BinsThatTell x = town(100);
            Check.law(x, 0, times(ahead, many) + "h");
            x.live(0, 0);
            int due = ahead.equals("-") ? 0 : ahead.equals("!-") ? 1 : 0;
            check.same(many + " times " + ahead, x.get(1, 0, 0), due);
        }
        comesTo(times("-", 30) + "h", 7);
        comesTo(times("-", 31) + "h", -7);
        comesTo(times("!", 30) + "h", 1);
        comesTo(times("!", 31) + "h", 0);
        comesTo("-!0", -1);
        comesTo("!-0", 1);
    }

    private static void nestedLaws() {
        law(0, "(((((h)))))", 0);
        law(0, "((((((h))))))", -6);
        law(0, "((((((", -6);
        law(0, "(((((", -6);
        law(0, "(((((h))))", -11);
        law(0, "(((((h))))))", -12);
        // Behind one another there may be more than five.
        law(0, "(h)+(h)+(h)+(h)+(h)+(h)+(h)+(h)+(h)", 0);
        law(0, "(((((h)))))*(((((h)))))", 0);
        law(0, "((((h)+((h)))))", 0);
        law(0, "((((h)+(((h)))))", -10);
        comesTo("((((1+1)*2+1)*2+1)*2+1)*2", 46);
        comesTo("2-(3-(4-(5-6)))", 4);
    }

    private static void comparisons() {
        law(0, "h<1<2", -4);
        law(0, "h=1=1", -4);
        law(0, "h>1>2", -4);
        law(0, "h<1=2", -4);
        law(0, "h<1*2+3>4", -8);
        law(0, "h<(1)<2", -6);
        law(0, "(h<1)<2", 0);
        law(0, "h<(1<2)", 0);
        law(0, "(h<1)<(2<3)", 0);
        law(0, "((h<1)<(2<3))<4", 0);
        law(0, "((h<1)<(2<3))<4<5", -16);
        law(0, "h<1&2<3|4<5&6<7", 0);
        law(0, "h<1&2<3<4", -8);
        law(0, "h<!1<2", -5);
        law(0, "h<-1<2", -5);
        law(0, "h==1", -3);
        law(0, "h<", -3);
        law(0, "<h", -1);
        law(0, "(<h)", -2);
        comesTo("2<3", 1);
        comesTo("3<3", 0);
        comesTo("3>3", 0);
        comesTo("4>3", 1);
        comesTo("3=3", 1);
        comesTo("3=2", 0);
        comesTo("-1<0", 1);
        comesTo("0>-1", 1);
        comesTo("-1=1", 0);
        comesTo("(2<3)+(3>2)+(2=2)", 3);
        comesTo("((3<2)+(2>3)+(3=2))*9", 0);
    }

    private static void oneOrNothing() {
        comesTo("5|0", 1);
        comesTo("0|5", 1);
        comesTo("-5|0", 1);
        comesTo("-1|-1", 1);
        comesTo("0|0", 0);
        comesTo("0|0|0", 0);
        comesTo("0|0|7", 1);
        comesTo("5&7", 1);
        comesTo("1&2", 1);
        comesTo("-1&1", 1);
        comesTo("1&-1", 1);
        comesTo("0&1", 0);
        comesTo("0&5", 0);
        comesTo("5&0", 0);
        comesTo("0&0", 0);
        comesTo("5&6&0", 0);
        comesTo("5&6&7", 1);
        comesTo("!5", 0);
        comesTo("!1", 0);
        comesTo("!-1", 0);
        comesTo("!0", 1);
        comesTo("5", 5);
        comesTo("(5)", 5);
        comesTo("0|3&0", 0);
        comesTo("1|3&0", 1);
        comesTo("0&3|5", 1);
    }

    /** As ints: 128 times 256 times 256 times 256 is the least one, one less than it the greatest. */
    private static void goesRound() {
        comesTo("128*256*256*512", 0);
        comesTo("128*256*256*512+5", 5);
        comesTo("128*256*256*256<0", 1);
        comesTo("128*256*256*256-1>0", 1);
        comesTo("-(128*256*256*256)<0", 1);
        comesTo("128*256*256*256/-1<0", 1);
        comesTo("128*256*256*256/-1+1<0", 1);
        comesTo("128*256*256*256+128*256*256*256", 0);
        comesTo("(128*256*256*256-1)/256/256/256", 127);
        comesTo("128*256*256*256/256/256/256", -128);
        BinsThatTell x = town(100);
        Check.law(x, 0, "128*256*256*256");
        Check.law(x, 2, "128*256*256*256-1");
        Check.law(x, 3, "128*256*256*512+999");
        x.live(0, 0);
        check.same("the least is put to 0", x.get(1, 0, 0), 0);
        check.same("the greatest is put to 999", x.get(2, 0, 0), 999);
        check.same("round to 999", x.get(3, 0, 0), 999);
    }

    private static void byNothing() {
        comesTo("5/0", 0);
        comesTo("-5/0", 0);
        comesTo("0/0", 0);
        comesTo("5/0*7", 0);
        comesTo("5/(3-3)+4", 4);
        comesTo("128*256*256*256/0", 0);
        comesTo("7/2", 3);
        comesTo("-7/2", -3);
        comesTo("7/-2", -3);
        comesTo("-7/-2", 3);
        comesTo("1/2", 0);
        comesTo("-1/2", 0);
        comesTo("7/2*2", 6);
        comesTo("7*2/4", 3);
        comesTo("20/3/2", 3);
    }

    private static void whatStandsInWhichLaw() {
        for (int i = 0; i < 6; i++) {
            law(i, "b", i >= 1 ? 0 : -1);
            law(i, "h*(b+1)", i >= 1 ? 0 : -4);
            law(i, "e", i >= 2 ? 0 : -1);
            law(i, "h*(e+1)", i >= 2 ? 0 : -4);
            law(i, "", -1);
            law(i, "h", 0);
            for (char c = 0; c < 256; c++) {
                boolean things = "0123456789htwkrlqz".indexOf(c) >= 0 || c == 'b' && i >= 1 || c == 'e' && i >= 2;
                // These can go on.
                boolean ahead = c == '!' || c == '-' || c == '(';
                check.same("sign " + (int) c + " alone in law " + i, Check.law(town(1), i, String.valueOf(c)),
                    things ? 0 : ahead ? -2 : -1);
            }
        }
        for (char c = 0; c < 256; c++) {
            boolean more = "0123456789".indexOf(c) >= 0;
            boolean two = "|&<>=+-*/".indexOf(c) >= 0;
            check.same("sign " + (int) c + " behind 1", Check.law(town(1), 5, "1" + c), more ? 0 : two ? -3 : -2);
            check.same("sign " + (int) c + " behind h", Check.law(town(1), 5, "h" + c), two ? -3 : -2);
            check.same("sign " + (int) c + " behind ( )", Check.law(town(1), 5, "(h)" + c), two ? -5 : -4);
        }
    }

    // ---- Terms 1: a STREET LIVES a WEEK

    private static void putToBounds() {
        int[][] bought = {{-1, 0}, {0, 0}, {1, 1}, {998, 998}, {999, 999}, {1000, 999}};
        for (int[] b : bought) {
            BinsThatTell x = town(100);
            Check.law(x, 0, b[0] == 1000 ? "999+1" : String.valueOf(b[0]));
            check.same("LAW 0 of " + b[0], x.live(0, 0), b[1]);
            check.same("BOUGHT of " + b[0], x.get(1, 0, 0), b[1]);
            Check.law(x, 3, b[0] == 1000 ? "999+1" : String.valueOf(b[0]));
            x.live(0, 1);
            check.same("SAID of " + b[0], x.get(3, 1, 0), b[1]);
        }
        String[] eats = {"-1", "0", "1", "b-1", "b", "b+1", "999"};
        int[] eaten = {0, 0, 1, 9, 10, 10, 10};
        for (int i = 0; i < eats.length; i++) {
            BinsThatTell x = town(1);
            Check.law(x, 0, "10");
            Check.law(x, 1, eats[i]);
            // Of a hundred eaten one is left, so that what is left is what is not eaten.
            check.same("not eaten by " + eats[i], x.live(0, 0), 10 - eaten[i]);
            check.same("EATEN by " + eats[i], x.get(2, 0, 0), eaten[i]);
        }
    }

    private static void thrownIsCut() {
        int[][] rows = {{33, 3, 0}, {33, 4, 1}, {1, 99, 0}, {1, 100, 1}, {1, 199, 1}, {99, 1, 0}, {99, 100, 99}, {100, 1, 1}};
        for (int[] r : rows) {
            BinsThatTell x = town(r[0]);
            Check.law(x, 0, String.valueOf(r[1]));
            check.same(r[1] + " times " + r[0] + " by 100", x.live(0, 0), r[2]);
        }
        int[][] gone = {{99, 1, 0, 0, 99}, {100, 1, 0, 0, 99}, {99, 0, 1, 0, 99}, {100, 0, 1, 0, 99},
            {99, 0, 0, 1, 99}, {100, 0, 0, 1, 99}, {3, 33, 33, 33, 3}, {4, 33, 33, 34, 1}, {1, 100, 0, 0, 0},
            {1, 0, 100, 0, 0}, {1, 0, 0, 100, 0}, {999, 50, 50, 0, 1}, {999, 33, 33, 34, 999 - 329 - 329 - 339}};
        for (int[] g : gone) {
            BinsThatTell x = town(100);
            x.goes(0, g[1], g[2], g[3]);
            Check.law(x, 0, String.valueOf(g[0]));
            check.same(g[0] + " of which " + g[1] + ", " + g[2] + ", " + g[3] + " go", x.live(0, 0), g[4]);
        }
    }

    private static void bagsAtMost() {
        int[][] rows = {{-1, 10}, {0, 10}, {988, 998}, {989, 999}, {990, 999}, {999, 999}};
        for (int[] r : rows) {
            BinsThatTell x = town(100);
            Check.law(x, 0, "10");
            x.put(0, 0, 0, r[0]);
            check.same("without what stood there", x.live(0, 0), 10);
            check.same("BAG of " + r[0] + " and 10", x.get(0, 0, 0), r[1]);
            check.same("SHOP does not add", x.get(1, 0, 0), 10);
        }
        BinsThatTell x = town(100);
        x.put(1, 0, 0, 500);
        x.put(2, 0, 0, 500);
        x.live(0, 0);
        check.same("SHOP is new", x.get(1, 0, 0), 0);
        check.same("SAID is new", x.get(2, 0, 0), 0);
        check.same("a BAG in which nothing is, is told", x.get(0, 0, 0), 0);
    }

    private static void corners() {
        int[][] rows = {{9, -1, -1}, {10, -1, 1}, {19, -1, 1}, {20, -1, 2}, {9, 5, 5}, {10, 5, 6}, {10, 998, 999},
            {10, 999, 999}, {20, 998, 999}};
        for (int street = 0; street < 3; street++) {
            for (int[] r : rows) {
                BinsThatTell x = town(100);
                x.street(7);
                x.street(7);
                x.goes(0, 0, 0, 10);
                Check.law(x, 0, String.valueOf(r[0]));
                int next = street == 2 ? 0 : street + 1;
                x.put(0, 12 * next + 11, 0, r[1]);
                int corner = r[0] / 10;
                check.same("without CORNERS", x.live(street, 11), r[0] - corner);
                check.same("the next one's BAG of " + r[1], x.get(0, 12 * next + 11, 0), r[2]);
                check.same("it sold nothing", x.get(1, 12 * next + 11, 0), -1);
                check.same("the third one's BAG", x.get(0, 12 * (3 - street - next) + 11, 0), -1);
            }
        }
        BinsThatTell alone = town(100);
        alone.goes(0, 0, 0, 50);
        Check.law(alone, 0, "999");
        alone.put(0, 0, 0, 1);
        check.same("without CORNERS, alone", alone.live(0, 0), 500);
        check.same("behind the last one the first", alone.get(0, 0, 0), 999);
    }

    // ---- Promise 8: a sheet

    private static void entry(int kind, int v, int due) {
        BinsThatTell x = town(100);
        x.put(0, 0, 0, 77);
        check.same("one entry of kind " + kind, x.sheet(0, kind, 1, v, 0), 1);
        check.same("kind " + kind + ", entry " + v, x.get(0, 0, 0), due);
        x.put(0, 1, 0, 77);
        check.same("two entries of kind " + kind, x.sheet(0, kind, 2, 0, v), 2);
        check.same("kind " + kind + ", step " + v, x.get(0, 1, 0), due);
        x.put(0, 1, 0, 77);
        x.sheet(0, kind, 2, Integer.MAX_VALUE, v - Integer.MAX_VALUE);
        check.same("kind " + kind + ", round to " + v, x.get(0, 1, 0), due);
    }

    private static void sheetEntries() {
        int[][] bytes = {{-1, -1}, {0, 0}, {1, 1}, {127, 127}, {128, -1}, {255, -1}, {256, 0}, {257, 1}, {383, 127},
            {384, -1}, {-128, -1}, {-129, 127}, {-256, 0}, {Integer.MAX_VALUE, -1}, {Integer.MIN_VALUE, 0}};
        int[][] shorts = {{-1, -1}, {0, 0}, {128, 128}, {999, 999}, {1000, 999}, {32767, 999}, {32768, -1}, {65535, -1},
            {65536, 0}, {65537, 1}, {-32768, -1}, {-32769, 999}, {-65535, 1}, {Integer.MAX_VALUE, -1},
            {Integer.MIN_VALUE, 0}};
        int[][] ints = {{-1, -1}, {0, 0}, {1, 1}, {998, 998}, {999, 999}, {1000, 999}, {32768, 999}, {65536, 999},
            {Integer.MAX_VALUE, 999}, {Integer.MIN_VALUE, -1}, {Integer.MIN_VALUE + 1, -1}};
        int[][][] kinds = {bytes, shorts, ints};
        for (int kind = 0; kind < 3; kind++) {
            for (int[] r : kinds[kind]) {
                entry(kind, r[0], r[1]);
            }
        }
        BinsThatTell x = town(100);
        check.same("goes round", x.sheet(0, 2, 3, Integer.MAX_VALUE, 1), 3);
        check.same("greatest", x.get(0, 0, 0), 999);
        check.same("least", x.get(0, 1, 0), -1);
        check.same("step 0", x.sheet(0, 2, 12, 4, 0), 12);
        check.same("twelve fours", x.sum(0, 0, 1, 4095), 48);
        check.same("step -1", x.sheet(0, 2, 6, 4, -1), 6);
        check.same("4, 3, 2, 1, 0, not told", x.sum(0, 0, 1, 63), 10);
        check.row("4, 3, 2, 1, 0, not told", x, 5);
    }

    private static void sheetCells() {
        for (int n : new int[] {0, 1, 11, 12, 13, 23, 24, 25, 95, 96}) {
            BinsThatTell x = town(100);
            x.sort(100, 0, 100);
            x.street(7);
            x.sheet(0, 2, 24, 7, 0);
            x.put(1, 0, 0, 3);
            x.put(0, 0, 1, 3);
            int gone = Math.min(n, 24);
            check.same("n " + n, x.sheet(0, 2, n, 1, 0), gone);
            check.same("CELLS behind it stay", x.sum(0, 0, 255, 4095), gone + 7 * (24 - gone));
            check.row("all are told", x, 24);
            check.same("another KIND stays", x.get(1, 0, 0), 3);
            check.same("another SORT stays", x.get(0, 0, 1), 3);
            for (int kind = 0; kind < 2; kind++) {
                check.same("n " + n + ", kind " + kind, x.sheet(0, kind, n, 2, 0), gone);
            }
            // Of a missing one it is all the same how many entries it should have had.
            check.same("missing, n " + n, x.sheet(0, 3, n, 1, 0), 24);
            check.same("none is told", x.sum(0, 0, 255, 4095), 0);
            check.row("none is told", x, 0);
            check.same("another SORT stays", x.get(0, 0, 1), 3);
            check.same("another KIND stays", x.get(1, 0, 0), 3);
        }
        check.same("missing, n below 0", town(100).sheet(0, 3, -1, 1, 0), 12);
        check.same("missing, n least", town(100).sheet(0, 3, Integer.MIN_VALUE, 1, 0), 12);
        BinsThatTell noStreet = new BinsThatTell();
        noStreet.sort(1, 0, 1);
        check.same("without STREETS", noStreet.sheet(0, 0, 96, 1, 1), 0);
        check.same("without STREETS, n -1", noStreet.sheet(0, 0, -1, 1, 1), -2);
        check.same("without STREETS, missing", noStreet.sheet(0, 3, 0, 1, 1), 0);
        noStreet.street(1);
        check.same("of a STREET told later", noStreet.get(0, 0, 0), -1);
    }

    // ---- Promises 9 and 10: THE TEXT

    private static void textSigns() {
        BinsThatTell x = new BinsThatTell();
        for (int size = 4; size <= 60; size += 4) {
            check.same("sign", x.sign(0), size);
        }
        for (int size = 60; size >= 57; size--) {
            check.same("end(" + size + ")", x.end(size), true);
            check.same("there would be " + (size + 4), x.sign(0), -1);
            check.same("signs stay", x.count(8), size);
        }
        check.same("end(58)", x.end(58), false);
        check.same("end(56)", x.end(56), true);
        check.same("60 signs", x.sign(0), 60);
        check.same("end(0)", x.end(0), true);
        check.same("end(0) again", x.end(0), true);
        check.same("end(1)", x.end(1), false);
        check.same("signs", x.count(8), 0);
        // Each of the four places tells a sign of its own, the highest byte first.
        String signs = "h+-3";
        for (int p = 0; p < 4; p++) {
            int four = 0x682b2d33 & ~(0xff << 24 - 8 * p);
            x.sign(four);
            check.same("a sign 0 at " + p, x.law(0), -1 - p);
            x.sign(four | 0xff << 24 - 8 * p);
            check.same("a sign 255 at " + p, x.law(0), -1 - p);
            x.sign(0x682b2d33);
            x.end(p);
            check.same("the first " + p + " of " + signs, x.law(0), p == 1 ? 0 : -1 - p);
        }
        x.sign(0x682b2d33);
        check.same(signs, x.law(0), 0);
    }
}
