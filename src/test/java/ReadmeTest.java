import java.io.IOException;
import java.nio.charset.StandardCharsets;
import java.nio.file.Files;
import java.nio.file.Path;
import java.util.List;

/** The example of README.md answers what is written there; run in the folder of the project. */
public final class ReadmeTest {
    private static final Check check = new Check();
    private static List<String> lines;
    private static int next;

    public static void main(String[] args) throws IOException {
        lines = Files.readAllLines(Path.of("README.md"), StandardCharsets.UTF_8);
        next = lines.indexOf("```java") + 1;
        example();
        check.same("the example is all", lines.get(next).equals("```"), true);
        check.end("ReadmeTest");
    }

    private static void example() {
        taken("BinsThatTell town = new BinsThatTell();");
        BinsThatTell town = new BinsThatTell();
        int bread = town.sort(50, 2, 80);
        answered("int bread = town.sort(50, 2, 80);", bread);
        int street = town.street(10);
        answered("int street = town.street(10);", street);
        int signs = town.sign(('h' << 24) | ('*' << 16) | ('2' << 8));
        answered("town.sign(('h' << 24) | ('*' << 16) | ('2' << 8));", signs);
        answered("town.end(3);", town.end(3));
        answered("town.law(0);", town.law(0));
        answered("town.live(street, 3);", town.live(street, 3));
        int cell = 12 * street + 3;
        answered("int cell = 12 * street + 3;", cell);
        answered("town.get(1, cell, bread);", town.get(1, cell, bread));
        answered("town.get(4, cell, bread);", town.get(4, cell, bread));
        answered("town.bounds(bread, cell, 50);", town.bounds(bread, cell, 50));
        answered("town.count(7);", town.count(7));
        answered("town.row(0);", town.row(0));
        answered("town.row(2);", town.row(2));
        answered("town.put(4, cell, bread, 12);", town.put(4, cell, bread, 12));
        answered("town.off(bread, 2);", town.off(bread, 2));
        answered("town.row(0);", town.row(0));
    }

    /** The next line of the example has this statement: what stands behind it. */
    private static String taken(String statement) {
        String line = lines.get(next);
        next++;
        check.same(statement + " is written as: " + line, line.startsWith(statement), true);
        return line.startsWith(statement) ? line.substring(statement.length()).trim() : "";
    }

    /** Behind the statement stands // and this answer, ahead of any other word. */
    private static void answered(String statement, Object answer) {
        String behind = taken(statement);
        String due = "// " + answer;
        boolean so = behind.equals(due) || behind.startsWith(due + ":") || behind.startsWith(due + " signs,");
        check.same(statement + " answers " + answer + ", README says " + behind, so, true);
    }
}
