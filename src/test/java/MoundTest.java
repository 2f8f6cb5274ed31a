/** Promises 38 to 41: a mound. */
public final class MoundTest {
    private static final Check check = new Check();

    public static void main(String[] args) {
        papers();
        years();
        strays();
        strayOfTwelve();
        was();
        check.end("MoundTest");
    }

    private static void papers() {
        BinsThatTell x = new BinsThatTell();
        check.same("layer -1", x.paper(-1, 1950, 1950), -1);
        check.same("layer 10", x.paper(10, 1950, 1950), -1);
        check.same("from 1899", x.paper(0, 1899, 1950), -1);
        check.same("to 2101", x.paper(0, 1950, 2101), -1);
        check.same("to ahead of from", x.paper(0, 1951, 1950), -1);
        check.same("count(5)", x.count(5), 0);
        check.same("all years", x.paper(9, 1900, 2100), 1);
        for (int i = 2; i <= 12; i++) {
            check.same("one year", x.paper(0, 2000, 2000), i);
        }
        check.same("thirteenth", x.paper(0, 2000, 2000), -1);
        check.same("count(5)", x.count(5), 12);
        check.same("together", x.year(0), 1);
        check.row("together", x, 2000, 2000);
    }

    private static void years() {
        BinsThatTell x = new BinsThatTell();
        check.same("layer -1", x.year(-1), -1);
        check.same("layer 10", x.year(10), -1);
        check.same("without papers", x.year(9), 201);
        check.row("without papers", x, 1900, 2100);
        x.paper(4, 1940, 1960);
        check.same("above", x.year(3), 161);
        check.row("above", x, 1940, 2100);
        check.same("itself", x.year(4), 21);
        check.row("itself", x, 1940, 1960);
        check.same("below", x.year(5), 61);
        check.row("below", x, 1900, 1960);
        x.paper(4, 1955, 1990);
        check.same("two of it", x.year(4), 6);
        check.row("two of it", x, 1955, 1960);
        x.paper(7, 1920, 1958);
        check.same("between", x.year(6), 41);
        check.row("between", x, 1920, 1960);
        x.paper(2, 1930, 1959);
        check.same("itself", x.year(4), 5);
        check.row("itself", x, 1955, 1959);
        x.paper(9, 1957, 1957);
        check.same("itself", x.year(4), 3);
        check.row("itself", x, 1957, 1959);
        check.same("the lowest", x.year(9), 1);
        check.row("the lowest", x, 1957, 1957);
        x.paper(8, 1959, 1999);
        check.same("they do not go together", x.year(8), -2);
        check.same("nor where they would", x.year(0), -2);
        check.same("layer ahead of that", x.year(10), -1);
        check.row("the row stays", x, 1957, 1957);
        BinsThatTell y = new BinsThatTell();
        y.paper(3, 1950, 1960);
        y.paper(3, 1961, 1970);
        check.same("in one layer", y.year(0), -2);
        BinsThatTell z = new BinsThatTell();
        z.paper(3, 1961, 1970);
        z.paper(5, 1950, 1960);
        check.same("the other way round", z.year(4), 21);
        check.row("the other way round", z, 1950, 1970);
    }

    private static void strays() {
        BinsThatTell x = new BinsThatTell();
        check.same("without papers", x.stray(), 0);
        check.row("without papers", x, 0);
        x.paper(0, 1950, 1950);
        check.same("one alone", x.stray(), 0);
        check.row("one alone", x, 0);
        x.paper(1, 1960, 1960);
        check.same("one of two: the least", x.stray(), 1);
        check.row("one of two: the least", x, 1);
        x.paper(5, 1940, 1960);
        check.same("one of three", x.stray(), 1);
        check.row("one of three", x, 1);
        x.paper(9, 1945, 1950);
        check.same("one of four", x.stray(), 1);
        x.paper(0, 1940, 1940);
        // The 1950 and 1940 papers of layer 0 clash too, 1940 with those of 1960, 1945 too.
        check.same("two of five", x.stray(), 2);
        check.row("two of five", x, 17);
        check.same("not together", x.year(5), -2);
        check.row("the row stays", x, 17);
    }

    private static void strayOfTwelve() {
        BinsThatTell x = new BinsThatTell();
        for (int i = 0; i < 12; i++) {
            x.paper(i % 10, 1900 + 10 * i, 1900 + 10 * i);
        }
        // Any two of the first ten clash, and the last two, too; 11 goes together with 2 .. 9. The least
        // number leaves out none of the last ones.
        check.same("ten of twelve", x.stray(), 10);
        check.row("ten of twelve", x, 4095 - 2048 - 512);
    }

    private static void was() {
        BinsThatTell x = new BinsThatTell();
        check.same("no sort", x.was(0, 0, 1, 2000), -1);
        x.sort(50, 0, 30);
        x.sort(50, 0, 1);
        x.paper(5, 1951, 1969);
        check.same("whole tens", x.was(5, 0, 10, 1979), 0);
        check.row("whole tens", x, 33, 111);
        check.same("one year less", x.was(5, 0, 10, 1978), 0);
        check.row("one year less", x, 10, 111);
        check.same("three tens less one year", x.was(5, 0, 10, 1980), 0);
        check.row("three tens less one year", x, 33, 111);
        check.same("three tens", x.was(5, 0, 10, 1981), 0);
        check.row("three tens", x, 33, 370);
        check.same("four tens at most", x.was(5, 0, 10, 2100), 0);
        check.row("four tens at most", x, 1234, 1234);
        check.same("still to come", x.was(5, 0, 10, 1900), 0);
        check.row("still to come", x, 10, 10);
        check.same("much", x.was(5, 1, 9999, 2100), 0);
        check.row("much", x, 999900000000L, 999900000000L);
        check.same("nothing", x.was(5, 1, 0, 2100), 0);
        check.row("nothing", x, 0, 0);
        check.same("above", x.was(4, 0, 10, 1979), 0);
        check.row("above", x, 10, 111);
        check.same("layer -1", x.was(-1, 0, 1, 2000), -1);
        check.same("layer 10", x.was(10, 0, 1, 2000), -1);
        check.same("sort 2", x.was(0, 2, 1, 2000), -1);
        check.same("sort -1", x.was(0, -1, 1, 2000), -1);
        check.same("pieces -1", x.was(0, 0, -1, 2000), -1);
        check.same("pieces 10000", x.was(0, 0, 10000, 2000), -1);
        check.same("now 1899", x.was(0, 0, 1, 1899), -1);
        check.same("now 2101", x.was(0, 0, 1, 2101), -1);
        x.paper(5, 1970, 1970);
        check.same("not together", x.was(0, 0, 1, 2000), -2);
        check.same("refused ahead of that", x.was(0, 0, 1, 2101), -1);
        check.row("the row stays", x, 10, 111);
    }
}
