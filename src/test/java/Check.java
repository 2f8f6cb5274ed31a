import java.util.NoSuchElementException;

/** Compares answers with what is due, and helps to make the calls that tests need most. */
final class Check {
    private int right;
    private int wrong;

    void same(String call, long got, long due) {
        if (got == due) {
            right++;
            return;
        }
        wrong++;
        System.out.println(call + " answered " + got + ", due is " + due);
    }

    void same(String call, boolean got, boolean due) {
        same(call, got ? 1 : 0, due ? 1 : 0);
    }

    /** The ROW has these numbers and no more. */
    void row(String call, BinsThatTell x, long... due) {
        same(call + ": numbers of the ROW", x.count(7), due.length);
        for (int i = 0; i < due.length && i < x.count(7); i++) {
            same(call + ": row(" + i + ")", x.row(i), due[i]);
        }
        noRow(call, x, due.length);
        noRow(call, x, -1);
    }

    void noRow(String call, BinsThatTell x, int i) {
        boolean thrown = false;
        try {
            x.row(i);
        } catch (NoSuchElementException e) {
            thrown = true;
        }
        same(call + ": row(" + i + ") throws", thrown, true);
    }

    void noLeans(BinsThatTell x, int sort) {
        boolean thrown = false;
        try {
            x.leans(sort);
        } catch (NoSuchElementException e) {
            thrown = true;
        }
        same("leans(" + sort + ") throws", thrown, true);
    }

    /** Puts these signs behind THE TEXT, which has a multiple of four signs. */
    static void text(BinsThatTell x, String signs) {
        int before = x.count(8);
        for (int p = 0; p < signs.length(); p += 4) {
            int four = 0;
            for (int i = p; i < p + 4; i++) {
                four = four << 8 | (i < signs.length() ? signs.charAt(i) & 255 : 0);
            }
            x.sign(four);
        }
        x.end(before + signs.length());
    }

    static int law(BinsThatTell x, int i, String signs) {
        text(x, signs);
        return x.law(i);
    }

    static int story(BinsThatTell x, String signs) {
        text(x, signs);
        return x.story();
    }

    /** Ends the program: with 1 if something was wrong. */
    void end(String test) {
        System.out.println(test + ": " + right + " right, " + wrong + " wrong");
        if (wrong > 0 || right == 0) {
            System.exit(1);
        }
    }
}
