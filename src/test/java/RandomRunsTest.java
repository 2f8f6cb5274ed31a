import java.util.ArrayList;
import java.util.List;
import java.util.NoSuchElementException;
import java.util.Random;

/** All promises: random runs (always the same ones), each answer compared with that of the model. */
public final class RandomRunsTest {
    private static final int RUNS = 1500;
    // What is answered later is free.
    private static final int CALLS = 512;
    // The most that one turn needs: a text, the call itself, the ROW, all counts.
    private static final int TURN = 45;

    private final Random random;
    private final BinsThatTell x = new BinsThatTell();
    private final Model model = new Model();
    private final List<String> calls = new ArrayList<>();
    private int greatest;
    private int odds;
    private int used;

    private RandomRunsTest(long seed) {
        random = new Random(seed);
    }

    public static void main(String[] args) {
        int runs = args.length > 0 ? Integer.parseInt(args[0]) : RUNS;
        int wrong = 0;
        for (int run = 0; run < runs && wrong < 3; run++) {
            RandomRunsTest test = new RandomRunsTest(run);
            if (!test.isRight()) {
                wrong++;
                System.out.println("run " + run + ": " + String.join("; ", test.calls));
            }
        }
        System.out.println("RandomRunsTest: " + runs + " runs, " + wrong + " wrong");
        if (wrong > 0) {
            System.exit(1);
        }
    }

    private boolean isRight() {
        if (!begin() || !rowIsRight() || !countsAreRight()) {
            return false;
        }
        // Each run likes some calls, so that what they do together comes up.
        int[] liked = new int[10];
        for (int i = 0; i < liked.length; i++) {
            liked[i] = random.nextInt(62);
        }
        while (used + TURN <= CALLS) {
            int which = random.nextInt(3) > 0 ? liked[random.nextInt(liked.length)] : random.nextInt(62);
            if (!one(which) || !rowIsRight()) {
                return false;
            }
            if (random.nextInt(10) == 0 && !countsAreRight()) {
                return false;
            }
        }
        return true;
    }

    /** A town in which much is told, so that answers can be had. */
    private boolean begin() {
        // In some runs every third number is one that can hardly be taken.
        odds = random.nextInt(8) == 0 ? 3 : 40;
        int[] tops = {3, 12, 100, 999};
        greatest = tops[random.nextInt(4)];
        boolean few = random.nextBoolean();
        int sorts = few ? 1 + random.nextInt(3) : random.nextInt(10);
        int streets = few ? 1 + random.nextInt(3) : random.nextInt(10);
        boolean right = true;
        for (int i = 0; i < sorts; i++) {
            right &= one(0);
        }
        for (int i = 0; i < streets; i++) {
            right &= one(2);
        }
        return right && (few ? putMuch() : liveMuch());
    }

    private boolean putMuch() {
        boolean right = true;
        int share = 40 + random.nextInt(220);
        for (int i = 0; i < share; i++) {
            int kind = random.nextInt(6);
            int cell = random.nextInt(Math.max(1, 12 * model.streets.size()));
            int sort = random.nextInt(Math.max(1, model.sorts.size()));
            int v = random.nextInt(greatest + 1);
            right &= same("put " + kind + " " + cell + " " + sort + " " + v,
                x.put(kind, cell, sort, v), model.put(kind, cell, sort, v));
        }
        return right;
    }

    private boolean liveMuch() {
        String[] numbers = {"z", "z*z", "z*10+z", "h*z/4+k", "z*z*z", "b-z", "b-z/2", "e+z-4", "e*z/4", "b+k-z*q"};
        boolean right = true;
        for (int i = 0; i < 6; i++) {
            if (random.nextInt(5) > 0) {
                tell(numbers[random.nextInt(numbers.length)]);
                right &= same("law " + i, x.law(i), model.law(i));
            }
        }
        int lives = random.nextInt(150);
        for (int i = 0; i < lives; i++) {
            int street = street();
            int week = week();
            right &= same("live " + street + " " + week, x.live(street, week), model.live(street, week));
        }
        for (int sort = 0; sort < model.sorts.size(); sort++) {
            if (random.nextBoolean()) {
                int step = random.nextInt(greatest + 1) - greatest / 4;
                right &= same("sheet " + sort + " by " + step,
                    x.sheet(sort, 2, 96, 0, step), model.sheet(sort, 2, 96, 0, step));
            }
        }
        return right;
    }

    private boolean same(String call, long got, long due) {
        used++;
        calls.add(call + " = " + due);
        if (got != due) {
            calls.add("ANSWERED " + got);
            return false;
        }
        return true;
    }

    private boolean same(String call, boolean got, boolean due) {
        return same(call, got ? 1 : 0, due ? 1 : 0);
    }

    private boolean countsAreRight() {
        for (int what = -1; what <= 9; what++) {
            used++;
            int many = x.count(what);
            if (many != model.count(what)) {
                calls.add("count(" + what + ") " + many + ", due is " + model.count(what));
                return false;
            }
        }
        return true;
    }

    private boolean rowIsRight() {
        used += model.row.size() + 1;
        try {
            for (int i = 0; i < model.row.size(); i++) {
                if (x.row(i) != model.row.get(i)) {
                    calls.add("row(" + i + "), due is " + model.row);
                    return false;
                }
            }
        } catch (NoSuchElementException e) {
            calls.add("too few in the ROW, due is " + model.row);
            return false;
        }
        try {
            x.row(model.row.size());
            calls.add("row(" + model.row.size() + ") answers");
            return false;
        } catch (NoSuchElementException e) {
            return true;
        }
    }

    // ---- arguments

    private int any(int a, int b) {
        if (random.nextInt(odds) == 0) {
            int[] odd = {a - 1, b + 1, -1, Integer.MIN_VALUE, Integer.MAX_VALUE, random.nextInt()};
            return odd[random.nextInt(odd.length)];
        }
        return a + random.nextInt(b - a + 1);
    }

    private int sort() {
        return any(0, Math.max(0, model.sorts.size() - 1));
    }

    private int street() {
        return any(0, Math.max(0, model.streets.size() - 1));
    }

    private int cell() {
        return any(0, Math.max(0, 12 * model.streets.size() - 1));
    }

    private int kind() {
        return any(0, 5);
    }

    private int way() {
        return any(0, 3);
    }

    private int week() {
        return any(0, 11);
    }

    private void tell(String text) {
        // With what Check.text asks, and what is asked and ended below.
        used += 4 + (text.length() + 3) / 4;
        Check.text(x, text);
        String before = model.text;
        for (int p = 0; p < text.length() && model.text.length() < 60; p++) {
            model.text += text.charAt(p);
        }
        // Check.text gives up what does not fit whole fours; keep the model alike.
        if (x.count(8) != model.text.length()) {
            x.end(0);
            model.text = "";
        }
        calls.add("text " + before + "+" + text);
    }

    private String expression(int depth, int law) {
        switch (random.nextInt(depth > 3 ? 3 : 12)) {
            case 0:
                return String.valueOf(random.nextInt(random.nextBoolean() ? 10 : 1000));
            case 1: case 2:
                String signs = "htwkrlqz" + (law > 0 ? "bbb" : "") + (law > 1 ? "eee" : "");
                return signs.substring(random.nextInt(signs.length())).substring(0, 1);
            case 3:
                return "!" + expression(depth + 1, law);
            case 4:
                return "-" + expression(depth + 1, law);
            case 5: case 6:
                return "(" + expression(depth + 1, law) + ")";
            default:
                return expression(depth + 1, law) + "|&<>=+-*/+-*".charAt(random.nextInt(12))
                    + expression(depth + 1, law);
        }
    }

    private String story() {
        StringBuilder story = new StringBuilder();
        int claims = random.nextInt(4) == 0 ? random.nextInt(12) : random.nextInt(3);
        for (int i = 0; i < claims; i++) {
            story.append(i > 0 ? ";" : "").append("WwBbEeNnSs".charAt(random.nextInt(10)))
                .append("<>=".charAt(random.nextInt(3))).append("WwBbEeNnSs".charAt(random.nextInt(10)));
        }
        return story.toString();
    }

    /** Now and then a sign is another one, or one is left out. */
    private String spoiled(String text, String signs) {
        if (text.isEmpty() || random.nextInt(3) > 0) {
            return text;
        }
        int p = random.nextInt(text.length());
        String sign = random.nextInt(3) == 0 ? "" : String.valueOf(signs.charAt(random.nextInt(signs.length())));
        return text.substring(0, p) + sign + text.substring(p + random.nextInt(2));
    }

    private static String shortened(String text) {
        return text.length() > 60 ? text.substring(0, 60) : text;
    }

    // ---- calls

    private boolean one(int which) {
        if (which < 16) {
            return first(which);
        }
        if (which < 32) {
            return second(which);
        }
        return which < 47 ? third(which) : fourth(which);
    }

    private boolean first(int which) {
        int a = sort();
        int b = week();
        int c = any(0, 100);
        switch (which) {
            case 0:
                int r = any(-5, 5);
                int l = any(1, 100);
                c = any(1, 100);
                return same("sort " + c + " " + r + " " + l, x.sort(c, r, l), model.sort(c, r, l));
            case 1:
                int d = any(0, 60);
                int e = any(0, 40);
                return same("goes " + a + " " + c + " " + d + " " + e, x.goes(a, c, d, e), model.goes(a, c, d, e));
            case 2:
                c = any(1, 100);
                return same("street " + c, x.street(c), model.street(c));
            case 3: case 4:
                boolean is = random.nextInt(3) > 0;
                return same("lack " + a + " " + b + " " + is, x.lack(a, b, is), model.lack(a, b, is));
            case 5: case 6: case 7: case 8:
                int kind = kind();
                int cell = cell();
                int v = any(-1, greatest);
                return same("put " + kind + " " + cell + " " + a + " " + v,
                    x.put(kind, cell, a, v), model.put(kind, cell, a, v));
            case 9:
                kind = kind();
                cell = cell();
                return same("get " + kind + " " + cell + " " + a, x.get(kind, cell, a), model.get(kind, cell, a));
            case 10:
                kind = any(0, 6);
                int n = any(-3, 99);
                int f = random.nextBoolean() ? any(-5, greatest) : random.nextInt();
                int step = random.nextBoolean() ? any(-5, 20) : random.nextInt();
                return same("sheet " + a + " " + kind + " " + n + " " + f + " " + step,
                    x.sheet(a, kind, n, f, step), model.sheet(a, kind, n, f, step));
            case 11:
                v = random.nextInt();
                return same("sign " + v, x.sign(v), model.sign(v));
            case 12:
                n = any(0, 60);
                return same("end " + n, x.end(n), model.end(n));
            case 13: case 14:
                return law();
            default:
                v = random.nextInt();
                return same("seed " + v, x.seed(v), model.seed(v));
        }
    }

    private boolean law() {
        int i = any(0, 5);
        used++;
        x.end(0);
        model.end(0);
        String text = expression(0, i);
        boolean goesOn = random.nextInt(4) == 0;
        while (goesOn && text.length() < 36 + random.nextInt(10)) {
            text += "|&+-*/".charAt(random.nextInt(6)) + expression(1, i);
        }
        tell(shortened(spoiled(text, "htwkrlqzbe()!-+*/<>=&|0123456789 xX")));
        return same("law " + i, x.law(i), model.law(i));
    }

    private boolean second(int which) {
        int a = sort();
        int w = way();
        switch (which) {
            case 16: case 17: case 18:
                int street = street();
                int week = week();
                return same("live " + street + " " + week, x.live(street, week), model.live(street, week));
            case 19:
                int kind = kind();
                int s = any(1, 255);
                int k = any(1, 4095);
                return same("sum " + kind + " " + a + " " + s + " " + k,
                    x.sum(kind, a, s, k), model.sum(kind, a, s, k));
            case 20:
                int cell = cell();
                int p = any(0, 100);
                return same("bounds " + a + " " + cell + " " + p, x.bounds(a, cell, p), model.bounds(a, cell, p));
            case 21: case 22:
                p = any(0, 100);
                return same("line " + a + " " + w + " " + p, x.line(a, w, p), model.line(a, w, p));
            case 23:
                return same("off " + a + " " + w, x.off(a, w), model.off(a, w));
            case 24:
                return same("nearest " + a, x.nearest(a), model.nearest(a));
            case 25:
                int what = any(0, 1);
                return same("worst " + w + " " + what, x.worst(w, what), model.worst(w, what));
            case 26:
                return same("right " + w, x.right(w), model.right(w));
            case 27: case 28:
                return same("three " + a + " " + w, x.three(a, w), model.three(a, w));
            case 29:
                return same("slope " + a + " " + w, x.slope(a, w), model.slope(a, w));
            case 30:
                return same("others " + a + " " + w, x.others(a, w), model.others(a, w));
            default:
                return same("worth " + a + " " + w, x.worth(a, w), model.worth(a, w));
        }
    }

    private boolean third(int which) {
        int a = sort();
        int b = sort();
        int k = kind();
        switch (which) {
            case 32:
                return same("waste " + a, x.waste(a), model.waste(a));
            case 33:
                used++;
                x.end(0);
                model.end(0);
                tell(shortened(spoiled(story(), "WwBbEeNnSs<>=;x ")));
                return same("story", x.story(), model.story());
            case 34:
                return same("holds " + a, x.holds(a), model.holds(a));
            case 35:
                return same("parts", x.parts(), model.parts());
            case 36: case 37: case 38:
                int many = any(1, 99);
                return same("twice " + a + " " + b + " " + many, x.twice(a, b, many), model.twice(a, b, many));
            case 39:
                return same("alike", x.alike(), model.alike());
            case 40:
                return same("mixed", x.mixed(), model.mixed());
            case 41:
                return leans(a);
            case 42: case 43:
                int cell = cell();
                return same("truly " + a + " " + cell, x.truly(a, cell), model.truly(a, cell));
            case 44:
                int week = week();
                return same("moved " + a + " " + week, x.moved(a, week), model.moved(a, week));
            case 45:
                int street = street();
                return same("feasts " + street, x.feasts(street), model.feasts(street));
            default:
                int off = any(0, Math.max(1, greatest / 4));
                int power = any(1, 100);
                return same("need " + k + " " + a + " " + off + " " + power,
                    x.need(k, a, off, power), model.need(k, a, off, power));
        }
    }

    private boolean leans(int sort) {
        Integer due = model.leans(sort);
        try {
            return same("leans " + sort, x.leans(sort), due == null ? Integer.MIN_VALUE : due);
        } catch (NoSuchElementException e) {
            return same("leans " + sort + " throws", true, due == null);
        }
    }

    private boolean fourth(int which) {
        int a = sort();
        int k = kind();
        int layer = any(0, 9);
        switch (which) {
            case 47: case 48:
                int off = any(0, Math.max(1, greatest / 4));
                int power = any(1, 100);
                return same("weeks " + k + " " + a + " " + off + " " + power,
                    x.weeks(k, a, off, power), model.weeks(k, a, off, power));
            case 49: case 50:
                return paper(layer);
            case 51:
                return same("year " + layer, x.year(layer), model.year(layer));
            case 52:
                return same("stray", x.stray(), model.stray());
            case 53:
                int pieces = any(0, 9999);
                int now = any(1900, 2100);
                return same("was " + layer + " " + a + " " + pieces + " " + now,
                    x.was(layer, a, pieces, now), model.was(layer, a, pieces, now));
            case 54: case 55:
                int street = street();
                int week = random.nextInt(3) == 0 ? -1 : any(0, 11);
                return same("told " + street + " " + week, x.told(street, week), model.told(street, week));
            case 56: case 57: case 58:
                int w = any(1, 11);
                return same("does " + k + " " + a + " " + w, x.does(k, a, w), model.does(k, a, w));
            case 59:
                int i = any(0, 2);
                return same("keep " + i, x.keep(i), model.keep(i));
            default:
                i = any(0, 2);
                return same("again " + i, x.again(i), model.again(i));
        }
    }

    /** Mostly the older the lower, so that they go together for a while. */
    private boolean paper(int layer) {
        int from = random.nextInt(5) == 0 ? any(1900, 2100) : 2040 - 15 * Math.floorMod(layer, 10) - random.nextInt(30);
        int to = from + (random.nextInt(10) == 0 ? -1 : random.nextInt(60));
        return same("paper " + layer + " " + from + " " + to, x.paper(layer, from, to), model.paper(layer, from, to));
    }
}
