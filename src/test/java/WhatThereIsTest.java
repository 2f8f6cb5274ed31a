/** Promises 1 to 13: what there is. */
public final class WhatThereIsTest {
    private static final Check check = new Check();

    public static void main(String[] args) {
        newObject();
        sorts();
        gone();
        streets();
        lacks();
        numbers();
        sheets();
        signs();
        lawPlaces();
        lawsOfMoreThanForty();
        lawSigns();
        lawsReckoned();
        draws();
        living();
        livingAlone();
        livingBounds();
        check.end("WhatThereIsTest");
    }

    private static void newObject() {
        BinsThatTell x = new BinsThatTell();
        for (int what = 0; what <= 8; what++) {
            check.same("count(" + what + ")", x.count(what), 0);
        }
        check.same("NONE", BinsThatTell.NONE, -1);
        check.same("seed(1)", x.seed(1), 1);
        check.same("again(0)", x.again(0), false);
        check.noRow("new", x, 0);
    }

    private static void sorts() {
        BinsThatTell x = new BinsThatTell();
        check.same("leaves 0", x.sort(0, 0, 50), -1);
        check.same("leaves 101", x.sort(101, 0, 50), -1);
        check.same("right -6", x.sort(50, -6, 50), -1);
        check.same("right 6", x.sort(50, 6, 50), -1);
        check.same("lasts 0", x.sort(50, 0, 0), -1);
        check.same("lasts 101", x.sort(50, 0, 101), -1);
        check.same("count(0)", x.count(0), 0);
        check.same("least", x.sort(1, -5, 1), 0);
        check.same("most", x.sort(100, 5, 100), 1);
        for (int i = 2; i < 8; i++) {
            check.same("sort " + i, x.sort(50, 0, 50), i);
        }
        check.same("ninth", x.sort(50, 0, 50), -1);
        check.same("count(0)", x.count(0), 8);
    }

    private static void gone() {
        BinsThatTell x = new BinsThatTell();
        check.same("no sort", x.goes(0, 1, 1, 1), false);
        x.sort(100, 0, 100);
        x.street(10);
        check.same("100 together", x.goes(0, 50, 25, 25), true);
        check.same("101 together", x.goes(0, 50, 25, 26), false);
        check.same("sink -1", x.goes(0, -1, 0, 0), false);
        check.same("back -1", x.goes(0, 0, -1, 0), false);
        check.same("corner -1", x.goes(0, 0, 0, -1), false);
        check.same("sink 101", x.goes(0, 101, -1, 0), false);
        check.same("much together", x.goes(0, Integer.MAX_VALUE, Integer.MAX_VALUE, 2), false);
        check.same("sort 1", x.goes(1, 0, 0, 0), false);
        check.same("sort -1", x.goes(-1, 0, 0, 0), false);
        x.put(0, 0, 0, 1);
        check.same("all goes still", x.bounds(0, 0, 0), -3);
        check.same("all to the sink", x.goes(0, 100, 0, 0), true);
        check.same("all back", x.goes(0, 0, 100, 0), true);
        check.same("all to the corner", x.goes(0, 0, 0, 100), true);
        check.same("all goes", x.bounds(0, 0, 0), -3);
        check.same("back to nothing", x.goes(0, 0, 0, 0), true);
        check.same("nothing goes", x.bounds(0, 0, 0), 0);
    }

    private static void streets() {
        BinsThatTell x = new BinsThatTell();
        check.same("street(0)", x.street(0), -1);
        check.same("street(101)", x.street(101), -1);
        check.same("street(-1)", x.street(-1), -1);
        check.same("street(1)", x.street(1), 0);
        check.same("street(100)", x.street(100), 1);
        for (int i = 2; i < 8; i++) {
            check.same("street " + i, x.street(5), i);
        }
        check.same("ninth", x.street(5), -1);
        check.same("count(1)", x.count(1), 8);
    }

    private static void lacks() {
        BinsThatTell x = new BinsThatTell();
        check.same("no sort", x.lack(0, 0, true), false);
        x.sort(100, 0, 100);
        x.sort(100, 0, 100);
        x.street(10);
        Check.law(x, 0, "q*(w+1)+k*100");
        check.same("week -1", x.lack(0, -1, true), false);
        check.same("week 12", x.lack(0, 12, true), false);
        check.same("sort 2", x.lack(2, 0, true), false);
        check.same("sort -1", x.lack(-1, 0, true), false);
        check.same("week 11", x.lack(0, 11, true), true);
        check.same("week 0", x.lack(1, 0, true), true);
        check.same("live(0, 11)", x.live(0, 11), 112);
        check.same("live(0, 0)", x.live(0, 0), 101);
        check.same("no more", x.lack(0, 11, false), true);
        check.same("live(0, 11)", x.live(0, 11), 100);
        check.same("not so", x.lack(0, 5, false), true);
        check.same("live(0, 5)", x.live(0, 5), 100);
    }

    private static void numbers() {
        BinsThatTell x = new BinsThatTell();
        check.same("nothing there", x.put(0, 0, 0, 1), -2);
        x.sort(100, 0, 100);
        check.same("no street", x.put(0, 0, 0, 1), -2);
        check.same("no street", x.get(0, 0, 0), -2);
        x.street(10);
        check.same("not told", x.get(0, 0, 0), -1);
        check.same("not told before", x.put(0, 0, 0, 999), -1);
        check.same("told", x.get(0, 0, 0), 999);
        check.same("told before", x.put(0, 0, 0, 0), 999);
        check.same("count(6)", x.count(6), 1);
        check.same("no more", x.put(0, 0, 0, -1), 0);
        check.same("count(6)", x.count(6), 0);
        check.same("not told", x.get(0, 0, 0), -1);
        check.same("kind -1", x.put(-1, 0, 0, 1), -2);
        check.same("kind 6", x.put(6, 0, 0, 1), -2);
        check.same("cell -1", x.put(0, -1, 0, 1), -2);
        check.same("cell 12", x.put(0, 12, 0, 1), -2);
        check.same("cell 96", x.put(0, 96, 0, 1), -2);
        check.same("sort -1", x.put(0, 0, -1, 1), -2);
        check.same("sort 1", x.put(0, 0, 1, 1), -2);
        check.same("v -2", x.put(0, 0, 0, -2), -2);
        check.same("v 1000", x.put(0, 0, 0, 1000), -2);
        check.same("get kind 6", x.get(6, 0, 0), -2);
        check.same("get kind -1", x.get(-1, 0, 0), -2);
        check.same("get cell -1", x.get(0, -1, 0), -2);
        check.same("get cell 12", x.get(0, 12, 0), -2);
        check.same("get sort -1", x.get(0, 0, -1), -2);
        check.same("get sort 1", x.get(0, 0, 1), -2);
        for (int kind = 0; kind < 6; kind++) {
            x.put(kind, 11, 0, 10 + kind);
        }
        for (int kind = 0; kind < 6; kind++) {
            check.same("kind " + kind, x.get(kind, 11, 0), 10 + kind);
        }
        check.same("count(6)", x.count(6), 6);
        x.sort(100, 0, 100);
        x.street(1);
        check.same("the other street", x.get(0, 23, 0), -1);
        check.same("the other sort", x.get(0, 11, 1), -1);
    }

    private static void sheets() {
        BinsThatTell x = new BinsThatTell();
        check.same("no sort", x.sheet(0, 2, 1, 1, 1), -1);
        x.sort(100, 0, 100);
        check.same("no street", x.sheet(0, 2, 5, 1, 1), 0);
        check.same("no street, missing", x.sheet(0, 3, 5, 1, 1), 0);
        x.street(10);
        x.put(0, 3, 0, 7);
        x.put(1, 0, 0, 8);
        check.same("ints", x.sheet(0, 2, 3, 998, 1), 3);
        check.same("998", x.get(0, 0, 0), 998);
        check.same("999", x.get(0, 1, 0), 999);
        check.same("1000", x.get(0, 2, 0), 999);
        check.same("stays behind", x.get(0, 3, 0), 7);
        check.same("other kinds stay", x.get(1, 0, 0), 8);
        check.same("bytes", x.sheet(0, 0, 4, 126, 1), 4);
        check.same("126", x.get(0, 0, 0), 126);
        check.same("127", x.get(0, 1, 0), 127);
        check.same("128", x.get(0, 2, 0), -1);
        check.same("129", x.get(0, 3, 0), -1);
        check.same("shorts", x.sheet(0, 1, 3, 32767, 32769), 3);
        check.same("32767", x.get(0, 0, 0), 999);
        check.same("65536", x.get(0, 1, 0), 0);
        check.same("98305", x.get(0, 2, 0), -1);
        check.same("ints wrap", x.sheet(0, 2, 2, Integer.MAX_VALUE, 6), 2);
        check.same("greatest", x.get(0, 0, 0), 999);
        check.same("wrapped", x.get(0, 1, 0), -1);
        check.same("none of them", x.sheet(0, 2, 0, 5, 5), 0);
        check.same("stays", x.get(0, 0, 0), 999);
        check.same("n -1", x.sheet(0, 0, -1, 5, 5), -2);
        check.same("n least", x.sheet(0, 2, Integer.MIN_VALUE, 5, 5), -2);
        check.same("n 97", x.sheet(0, 0, 97, 5, 5), -1);
        check.same("n 97 of a missing one", x.sheet(0, 3, 97, 5, 5), -1);
        check.same("sort ahead of n", x.sheet(1, 0, -1, 5, 5), -1);
        check.same("sort -1", x.sheet(-1, 0, 1, 5, 5), -1);
        check.same("kind ahead of n", x.sheet(0, 4, -1, 5, 5), -1);
        check.same("kind -1", x.sheet(0, -1, 1, 5, 5), -1);
        check.same("stays", x.get(0, 0, 0), 999);
        check.same("n 96", x.sheet(0, 2, 96, 5, 1), 12);
        check.same("the last cell", x.get(0, 11, 0), 16);
        x.street(10);
        check.same("the next street", x.get(0, 12, 0), -1);
        x.put(0, 23, 0, 1);
        check.same("missing", x.sheet(0, 3, -5, 5, 5), 24);
        check.same("rained through", x.sum(0, 0, 255, 4095), 0);
        check.row("rained through", x, 0);
        check.same("the shop stays", x.get(1, 0, 0), 8);
    }

    private static void signs() {
        BinsThatTell x = new BinsThatTell();
        check.same("end(0)", x.end(0), true);
        check.same("end(1)", x.end(1), false);
        check.same("end(-1)", x.end(-1), false);
        for (int many = 4; many <= 60; many += 4) {
            check.same("sign", x.sign(0x68686868), many);
        }
        check.same("more than 60", x.sign(0x68686868), -1);
        check.same("count(8)", x.count(8), 60);
        check.same("end(61)", x.end(61), false);
        check.same("end(60)", x.end(60), true);
        check.same("end(57)", x.end(57), true);
        check.same("57 and 4", x.sign(0), -1);
        check.same("end(56)", x.end(56), true);
        check.same("56 and 4", x.sign(0), 60);
        check.same("end(-1)", x.end(-1), false);
        check.same("count(8)", x.count(8), 60);
        x.end(0);
        // 'h', 'h', then a sign above 127: the bytes are taken without sign, the highest first.
        x.sign(0x682b68ff);
        check.same("the fourth sign", x.law(0), -4);
    }

    private static void lawPlaces() {
        BinsThatTell x = new BinsThatTell();
        law(x, 0, "", -1);
        law(x, 0, "h", 0);
        law(x, 0, "!", -2);
        law(x, 0, "-", -2);
        law(x, 0, "+h", -1);
        law(x, 0, "*h", -1);
        law(x, 0, ")", -1);
        law(x, 0, "()", -2);
        law(x, 0, "(h", -3);
        law(x, 0, "(h))", -4);
        law(x, 0, "(h)(", -4);
        law(x, 0, "(h)h", -4);
        law(x, 0, "(h)1", -4);
        law(x, 0, "hh", -2);
        law(x, 0, "h1", -2);
        law(x, 0, "1h", -2);
        law(x, 0, "h(", -2);
        law(x, 0, "1(", -2);
        law(x, 0, "h!", -2);
        law(x, 0, "h!=1", -2);
        law(x, 0, "h--!-!!h", 0);
        law(x, 0, "h+-h", 0);
        law(x, 0, "h+*h", -3);
        law(x, 0, "h<=1", -3);
        law(x, 0, "h<1", 0);
        law(x, 0, "h<1=2", -4);
        law(x, 0, "h<1+2>3", -6);
        law(x, 0, "h<1&2>3", 0);
        law(x, 0, "h<1|2>3=4", -8);
        law(x, 0, "(h<1)<(2>3)", 0);
        law(x, 0, "h<(1<2)<3", -8);
        law(x, 0, "(h<1)=2<3", -8);
        law(x, 0, "h<((1)=2)", 0);
        law(x, 0, "(1<2&3)<4<5", -10);
        law(x, 0, "7<(1&2<3)<5", -10);
        law(x, 0, "000", 0);
        law(x, 0, "0000", -4);
        law(x, 0, "999+1234", -8);
        law(x, 0, "12)", -3);
        law(x, 0, "((((h))))", 0);
        law(x, 0, "(((((h)))))", 0);
        law(x, 0, "((((((h))))))", -6);
        law(x, 0, "(((((h)))))+((((((h))))))", -18);
        law(x, 0, " h", -1);
        law(x, 0, "h ", -2);
        law(x, 0, "H", -1);
        law(x, 0, "h,", -2);
        law(x, 0, "h&", -3);
        law(x, 0, "h||h", -3);
        law(x, -1, "h", -100);
        law(x, 6, "h", -100);
        law(x, 6, "", -100);
        law(x, Integer.MIN_VALUE, "h", -100);
    }

    private static void law(BinsThatTell x, int i, String signs, int due) {
        String call = "law(" + i + ") of " + signs;
        check.same(call, Check.law(x, i, signs), due);
        check.same(call + ": the text", x.count(8), 0);
    }

    private static void lawsOfMoreThanForty() {
        BinsThatTell x = new BinsThatTell();
        String twenty = "h+h+h+h+h+h+h+h+h+h+";
        String forty = twenty + "h+h+h+h+h+h+h+h+h+10";
        check.same("forty signs", forty.length(), 40);
        law(x, 5, forty, 0);
        law(x, 5, twenty + twenty, -41);
        law(x, 5, twenty + twenty + "h", -41);
        law(x, 5, forty + "0", -41);
        law(x, 5, forty + "?", -41);
        law(x, 5, forty + "+h+h", -41);
        law(x, 5, twenty + "h+h+h+h+h+h+h+h+h+h?", -40);
        law(x, 5, twenty + "h+h+h+h+h+h+h+h+h+?????", -39);
        law(x, 5, "hh" + forty, -2);
        law(x, 5, twenty + "h+h+h+h+h+h+h+h+(h+h", -41);
        law(x, 5, twenty + "h+h+h+h+h+h+h+h+h+1000", -41);
        law(x, 5, twenty + "h+h+h+h+h+h+h+h+10000", -40);
        check.same("one law", x.count(2), 32);
    }

    private static void lawSigns() {
        BinsThatTell x = new BinsThatTell();
        String every = "htwkrlqz";
        for (int i = 0; i < 6; i++) {
            for (int p = 0; p < every.length(); p++) {
                law(x, i, every.substring(p, p + 1), 0);
            }
            law(x, i, "1+b", i >= 1 ? 0 : -3);
            law(x, i, "1+e", i >= 2 ? 0 : -3);
            law(x, i, "1+s", -3);
        }
        check.same("count(2)", x.count(2), 63);
    }

    /** Of a town with one house more than a hundred less: h 7, t 1, w 3, k 0, r -2, l 50. */
    private static void lawsReckoned() {
        buys("7", 7);
        buys("h", 7);
        buys("t", 1);
        buys("w", 3);
        buys("k", 0);
        buys("-r", 2);
        buys("l", 50);
        buys("q", 1);
        buys("1+2*3", 7);
        buys("(1+2)*3", 9);
        buys("20-5-3", 12);
        buys("20-(5-3)", 18);
        buys("100/7/2", 7);
        buys("100/(7/2)", 33);
        buys("7*3/2", 10);
        buys("7/2*3", 9);
        buys("9/0+4", 4);
        buys("9/(1-1)*5+4", 4);
        buys("-7/2+10", 7);
        buys("7/-2+10", 7);
        buys("-7*-2", 14);
        buys("5--3", 8);
        buys("5---3", 2);
        buys("!0", 1);
        buys("!5", 0);
        buys("!!5", 1);
        buys("!-5", 0);
        buys("-!0+3", 2);
        buys("!0+4", 5);
        buys("!1<2", 1);
        buys("2<3", 1);
        buys("3<3", 0);
        buys("4>3", 1);
        buys("3>3", 0);
        buys("3=3", 1);
        buys("3=4", 0);
        buys("1+2=3", 1);
        buys("1+(2=3)", 1);
        buys("5&3", 1);
        buys("5&0", 0);
        buys("0|-9", 1);
        buys("0|0", 0);
        buys("1|0&0", 1);
        buys("(1|0)&0", 0);
        buys("1&1|0&0", 1);
        buys("2>1&3>2", 1);
        buys("2>1&3<2|1", 1);
        buys("999*999*999*999", within(999 * 999 * 999 * 999));
        buys("1-999*999*999*999", within(1 - 999 * 999 * 999 * 999));
        buys("012+007", 19);
        buys("(((((9)))))", 9);
        buys("1000/8", -1);
    }

    private static int within(int v) {
        return Math.max(0, Math.min(999, v));
    }

    /** Due -1: it is no law. */
    private static void buys(String law, int due) {
        BinsThatTell x = new BinsThatTell();
        x.sort(50, -2, 100);
        x.street(1);
        x.street(7);
        x.lack(0, 3, true);
        check.same(law + " is a law", Check.law(x, 0, law) == 0, due >= 0);
        if (due >= 0) {
            x.live(1, 3);
            check.same(law, x.get(1, 15, 0), due);
        }
    }

    private static int next(int r) {
        return r * 1103515245 + 12345;
    }

    private static int drawn(int r) {
        return (int) ((r & 0xffffffffL) / 65536 % 10);
    }

    private static void draws() {
        BinsThatTell x = new BinsThatTell();
        x.sort(100, 0, 100);
        x.street(1);
        Check.law(x, 0, "z*100+z*10+z");
        int one = next(1);
        int two = next(one);
        int three = next(two);
        x.live(0, 0);
        check.same("three draws", x.get(1, 0, 0), drawn(one) * 100 + drawn(two) * 10 + drawn(three));
        check.same("seed(-5)", x.seed(-5), three);
        x.live(0, 0);
        check.same("from -5 on", x.get(1, 0, 0),
            drawn(next(-5)) * 100 + drawn(next(next(-5))) * 10 + drawn(next(next(next(-5)))));
        Check.law(x, 0, "1|z");
        x.seed(1);
        x.live(0, 0);
        check.same("both sides of |", x.seed(1), next(1));
        Check.law(x, 0, "0&z&z");
        x.live(0, 0);
        check.same("both sides of &", x.seed(1), next(next(1)));
        Check.law(x, 0, "0*z");
        Check.law(x, 1, "z-z");
        Check.law(x, 5, "z");
        Check.law(x, 2, "z");
        x.live(0, 0);
        check.same("law by law", x.get(2, 0, 0), drawn(next(next(next(next(1))))));
        check.same("law by law", x.get(5, 0, 0), drawn(next(next(next(next(next(1)))))));
        x.seed(9);
        check.same("refused", x.live(0, 12), -1);
        check.same("no draw", x.seed(Integer.MIN_VALUE), 9);
        check.same("any number", x.seed(Integer.MAX_VALUE), Integer.MIN_VALUE);
    }

    private static void living() {
        BinsThatTell x = new BinsThatTell();
        check.same("no street", x.live(0, 0), -1);
        x.sort(33, 1, 100);
        x.sort(100, 2, 100);
        for (int houses = 10; houses <= 30; houses += 10) {
            x.street(houses);
        }
        check.same("without laws", x.live(0, 0), 0);
        check.same("nothing bought", x.get(1, 0, 0), 0);
        check.same("nothing thrown", x.get(0, 0, 0), 0);
        check.same("nothing said", x.get(3, 0, 1), 0);
        check.same("count(6)", x.count(6), 12);
        x.goes(0, 10, 20, 30);
        Check.law(x, 0, "h*3+k");
        Check.law(x, 1, "b-7");
        Check.law(x, 3, "e+b");
        Check.law(x, 4, "-1");
        // Bought 90, eaten 83, thrown 27 and 7: 3 to the sink, 6 back, 10 to the corner.
        // Of the other one: bought 91, eaten 84, thrown 91.
        check.same("live(2, 11)", x.live(2, 11), 15 + 91);
        check.same("bag", x.get(0, 35, 0), 15);
        check.same("shop", x.get(1, 35, 0), 90);
        check.same("without a law", x.get(2, 35, 0), 83);
        check.same("by a law", x.get(3, 35, 0), 173);
        check.same("0 at least", x.get(4, 35, 0), 0);
        check.same("without a law", x.get(5, 35, 0), 83);
        check.same("the first one's bag", x.get(0, 11, 0), 10);
        check.same("no shop there", x.get(1, 11, 0), -1);
        check.same("nothing to the corner", x.get(0, 11, 1), -1);
        check.same("the other sort", x.get(0, 35, 1), 91);
        check.same("in between", x.get(0, 23, 0), -1);
        check.same("again", x.live(2, 11), 15 + 91);
        check.same("it adds", x.get(0, 35, 0), 30);
        check.same("it adds there", x.get(0, 11, 0), 20);
        check.same("shop is new", x.get(1, 35, 0), 90);
        x.put(0, 35, 0, 990);
        x.put(0, 11, 0, 995);
        check.same("without what stood there", x.live(2, 11), 15 + 91);
        check.same("999 at most", x.get(0, 35, 0), 999);
        check.same("999 at most there", x.get(0, 11, 0), 999);
        check.same("street 3", x.live(3, 0), -1);
        check.same("street -1", x.live(-1, 0), -1);
        check.same("week 12", x.live(0, 12), -1);
        check.same("week -1", x.live(0, -1), -1);
    }

    private static void livingAlone() {
        BinsThatTell x = new BinsThatTell();
        x.street(10);
        check.same("no sorts", x.live(0, 0), 0);
        x.sort(100, 0, 100);
        x.goes(0, 0, 0, 30);
        Check.law(x, 0, "100");
        check.same("without the corner", x.live(0, 4), 70);
        check.same("the next street is the same", x.get(0, 4, 0), 100);
        x.goes(0, 0, 0, 100);
        check.same("all to the corner", x.live(0, 5), 0);
        check.same("all is back", x.get(0, 5, 0), 100);
        x.street(10);
        check.same("all to the corner", x.live(0, 6), 0);
        check.same("nothing left", x.get(0, 6, 0), 0);
        check.same("all is there", x.get(0, 18, 0), 100);
    }

    private static void livingBounds() {
        BinsThatTell x = new BinsThatTell();
        x.sort(50, 0, 100);
        x.street(10);
        Check.law(x, 0, "999*2");
        Check.law(x, 1, "b+1");
        Check.law(x, 2, "e*2");
        check.same("half of 999", x.live(0, 0), 499);
        check.same("999 at most", x.get(1, 0, 0), 999);
        check.same("999 at most", x.get(2, 0, 0), 999);
        check.same("what is eaten", x.get(3, 0, 0), 999);
        Check.law(x, 1, "-b");
        check.same("nothing eaten", x.live(0, 1), 999);
        check.same("said", x.get(3, 1, 0), 0);
        Check.law(x, 0, "-9");
        check.same("nothing bought", x.live(0, 2), 0);
        check.same("shop", x.get(1, 2, 0), 0);
        check.same("an empty law", Check.law(x, 0, ""), -1);
        x.live(0, 2);
        check.same("the law stays", x.get(1, 2, 0), 0);
        check.same("a wrong law", Check.law(x, 0, "5+"), -3);
        x.live(0, 2);
        check.same("the law stays", x.get(1, 2, 0), 0);
        x.goes(0, 50, 40, 1);
        Check.law(x, 0, "200");
        // 200 are thrown: 100 to the sink, 80 back, 2 to the corner.
        check.same("half to the sink", x.live(0, 3), 18);
        Check.law(x, 0, "100");
        check.same("one to the corner", x.live(0, 4), 9);
        check.same("one comes back", x.get(0, 4, 0), 10);
        Check.law(x, 0, "199");
        // 99.5, 79.6, 1.99, each cut.
        check.same("each cut", x.live(0, 5), 199 - 99 - 79 - 1);
        x.goes(0, 0, 0, 0);
        check.same("a new law", Check.law(x, 0, "5"), 0);
        x.live(0, 2);
        check.same("the law is new", x.get(1, 2, 0), 5);
    }
}
