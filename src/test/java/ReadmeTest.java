import java.io.IOException;
import java.lang.reflect.Method;
import java.lang.reflect.Modifier;
import java.nio.file.Files;
import java.nio.file.Path;

/** README.md tells how to use the class: nothing is missing, and its example holds; the argument is the project's folder. */
public final class ReadmeTest {
    private static int lines = 0;
    private static String page = "";

    public static void main(String[] args) throws IOException {
        page = Files.readString(Path.of(args.length > 0 ? args[0] : ".", "README.md"));
        namesTheMethods();
        namesTheResults();
        tellsHowToTest();
        example();
        Due.end();
    }

    private static void namesTheMethods() {
        Due.holds("the constructor", page.contains("`new LabelPlacer()`"));
        for (Method m : LabelPlacer.class.getDeclaredMethods()) {
            if (Modifier.isPublic(m.getModifiers())) {
                String row = page.replaceAll("(?s).*\n(\\| `" + m.getName() + "\\([^\n]*).*", "$1");
                Due.holds("a row for " + m.getName(), row.length() < page.length());
                Due.is("arguments of " + m.getName(), row.replaceAll("(?s)^[^(]*\\(([^)]*)\\).*", "$1").split("\\w+", -1).length - 1,
                        m.getParameterCount());
            }
        }
    }

    private static void namesTheResults() {
        for (String row : new String[] {"| -1 | `NONE` |", "| -2 | `BAD` |", "| -3 | `STATE` |", "| -4 | `FULL` |", "| -2000 - p |"}) {
            Due.holds(row, page.contains("\n" + row));
        }
    }

    private static void tellsHowToTest() {
        Due.holds("how to run the tests", page.contains("\n    .ci/run\n"));
    }

    /** The next line of the example is this call, with this answer behind it. */
    private static void line(String call, int got) {
        String[] example = page.split("```java\n")[1].split("\n```")[0].split("\n");
        lines++;
        String due = lines < example.length ? example[lines] : "";
        Due.holds("line " + lines + " of the example is " + call + ": " + due, due.startsWith(call + ";"));
        Due.is(call, got, Integer.parseInt(due.replaceAll(".*;\\s*//\\s*(-?\\d+).*", "$1")));
    }

    private static void example() {
        LabelPlacer map = new LabelPlacer();
        int town = map.addPoint(10, 10, 4, 2, 3, 3);
        line("int town = map.addPoint(10, 10, 4, 2, 3, 3)", town);
        int village = map.addPoint(12, 10, 5, 1, 3, 1);
        line("int village = map.addPoint(12, 10, 5, 1, 3, 1)", village);
        line("map.fill()", map.fill());
        line("map.improve()", map.improve());
        line("map.point(town, 7)", map.point(town, 7));
        line("map.labelAt(13, 11)", map.labelAt(13, 11));
        line("map.pan(10, 0)", map.pan(10, 0));
        line("map.point(town, 7)", map.point(town, 7));
        line("map.leaders()", map.leaders());
        line("map.leader(0, 3)", map.leader(0, 3));
        line("map.addPoint(10, 10, 1, 1, 1, 255)", map.addPoint(10, 10, 1, 1, 1, 255));
        Due.is("lines of the example", page.split("```java\n")[1].split("\n```")[0].split("\n").length, lines + 1);
    }
}
