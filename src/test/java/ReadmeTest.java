import java.io.IOException;
import java.nio.file.Files;
import java.nio.file.Path;

/** README.md's example answers what it says there (run from the project's root). */
public final class ReadmeTest {
    private static final Check CHECK = new Check("ReadmeTest");

    public static void main(String[] args) throws IOException {
        example();
        exampleStandsInReadme();
        CHECK.finish();
    }

    private static void example() {
        // The lines between the two marks are README.md's, without its comments.
        // begin
        GardenBoxes x = new GardenBoxes();
        int beans = x.crop(0, 20, 5, 3 + 16 * 1 + 256 * 2);
        int rice = x.crop(5, 1, 1, 1 + 16 * 12 + 256 * 4);
        int house = x.house(3, 0);
        x.sow(0, beans);
        x.buy(rice, 10);
        x.sheet(0, 2, 2);
        x.cell(0, 0, 80);
        x.cell(0, 1, 80);
        x.warm(0, 0);
        String text = "give c1 when had c1=99;";
        for (int i = 0; i < text.length(); i++) {
            x.feed(1, text.charAt(i));
        }
        int lines = x.lines();
        int ripe = x.ripens(0);
        int ahead = x.ahead(2, 0);
        int holes = x.week();
        int first = x.box(house, 0);
        int why = x.why(house, 0);
        int lot = x.lead(house, 0);
        int empty = x.box(house, 1);
        int refused = x.sow(0, beans);
        int status = x.status();
        // end
        int[] got = {beans, rice, house, lines, ripe, ahead, holes, first, why, lot, empty, refused, status};
        CHECK.row("answer", i -> got[i], 0, 1, 0, 1, 1, 3, 2, 1, 0, 0, GardenBoxes.NONE, -1, 3);
    }

    private static void exampleStandsInReadme() throws IOException {
        String readme = Files.readString(Path.of("README.md"));
        String source = Files.readString(Path.of("src/test/java/ReadmeTest.java"));
        String told = code(between(readme, "```java\n", "```"));
        String done = code(between(source, "// begin\n", "// end"));
        CHECK.same("README.md has an example", told.isEmpty() ? 0 : 1, 1);
        CHECK.same("the example is the one that ran: " + told, told.equals(done) ? 1 : 0, 1);
    }

    private static String between(String all, String before, String behind) {
        int from = all.indexOf(before);
        int until = from < 0 ? -1 : all.indexOf(behind, from + before.length());
        return until < 0 ? "" : all.substring(from + before.length(), until);
    }

    private static String code(String lines) {
        return lines.replaceAll("//[^\n]*", "").replaceAll("\\s+", " ").trim();
    }
}
