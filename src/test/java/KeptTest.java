/** Promises 44 to 47: what is kept, counts, the row. */
public final class KeptTest {
    private static final Check check = new Check();

    public static void main(String[] args) {
        kept();
        counts();
        rows();
        refusedChangeNothing();
        check.end("KeptTest");
    }

    private static BinsThatTell town() {
        BinsThatTell x = new BinsThatTell();
        x.sort(50, 0, 100);
        x.street(10);
        return x;
    }

    private static void kept() {
        BinsThatTell x = town();
        check.same("nothing kept", x.again(0), false);
        check.same("keep(-1)", x.keep(-1), false);
        check.same("keep(3)", x.keep(3), false);
        check.same("keep(2)", x.keep(2), true);
        x.put(0, 0, 0, 5);
        x.put(5, 11, 0, 6);
        x.seed(77);
        check.same("keep(0)", x.keep(0), true);
        x.put(0, 0, 0, 9);
        x.put(0, 1, 0, 9);
        x.seed(88);
        x.sort(50, 0, 100);
        x.street(1);
        x.put(3, 23, 1, 44);
        x.lack(0, 0, true);
        Check.law(x, 0, "q+3");
        check.same("again(0)", x.again(0), true);
        check.same("as it was", x.get(0, 0, 0), 5);
        check.same("as it was", x.get(5, 11, 0), 6);
        check.same("told since", x.get(0, 1, 0), -1);
        check.same("told since of what is new", x.get(3, 23, 1), -1);
        check.same("count(6)", x.count(6), 2);
        check.same("streets stay", x.count(1), 2);
        check.same("laws stay", x.count(2), 1);
        check.same("R", x.seed(99), 77);
        x.live(0, 0);
        check.same("lack stays", x.get(1, 0, 0), 4);
        check.same("again(0)", x.again(0), true);
        check.same("as it was", x.get(0, 0, 0), 5);
        check.same("R", x.seed(99), 77);
        check.same("again(2)", x.again(2), true);
        check.same("count(6)", x.count(6), 0);
        check.same("R", x.seed(1), 1);
        check.same("again(1)", x.again(1), false);
        check.same("again(-1)", x.again(-1), false);
        check.same("again(3)", x.again(3), false);
        x.put(0, 0, 0, 1);
        check.same("keep(0) anew", x.keep(0), true);
        x.again(2);
        x.again(0);
        check.same("the new one", x.get(0, 0, 0), 1);
        check.same("count(6)", x.count(6), 1);
    }

    private static void counts() {
        BinsThatTell x = town();
        check.same("count(-1)", x.count(-1), -1);
        check.same("count(9)", x.count(9), -1);
        x.street(10);
        x.sort(1, 0, 1);
        x.sort(1, 0, 1);
        Check.law(x, 1, "b");
        Check.law(x, 4, "e");
        Check.story(x, "");
        x.twice(0, 1, 7);
        x.paper(0, 1900, 1900);
        x.put(0, 0, 0, 0);
        x.live(1, 1);
        x.sign(0);
        x.worst(0, 0);
        int[] due = {3, 2, 18, 1, 7, 1, 19, 2, 4};
        for (int what = 0; what < due.length; what++) {
            check.same("count(" + what + ")", x.count(what), due[what]);
        }
    }

    private static void rows() {
        BinsThatTell x = town();
        check.noRow("new", x, 0);
        x.put(0, 0, 0, 4);
        x.bounds(0, 0, 0);
        check.row("four", x, 8, 1, 8, 1);
        check.noRow("four", x, Integer.MIN_VALUE);
        check.noRow("four", x, Integer.MAX_VALUE);
        x.sum(0, 0, 1, 1);
        check.row("then one", x, 1);
        x.mixed();
        x.off(0, 0);
        x.feasts(0);
        x.live(0, 0);
        x.keep(0);
        x.again(0);
        check.row("calls that say nothing of it", x, 1);
    }

    private static void refusedChangeNothing() {
        BinsThatTell x = town();
        x.sign(0x68680000);
        x.sort(0, 0, 0);
        x.street(0);
        x.live(9, 9);
        x.law(9);
        check.same("law reads the text", x.count(8), 0);
        x.sign(0x68680000);
        x.put(0, 0, 0, 1000);
        x.keep(9);
        x.end(9);
        x.waste(0);
        check.same("others do not", x.count(8), 4);
        check.same("nothing is told", x.count(6), 0);
        check.same("nothing in the row", x.count(7), 0);
        check.same("a wrong story", x.story(), -1);
        check.same("story reads the text", x.count(8), 0);
    }
}
