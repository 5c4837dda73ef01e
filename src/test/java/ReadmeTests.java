import java.io.IOException;
import java.nio.file.Files;
import java.nio.file.Path;

/** The example of README.md: each of its lines stands there as it is run here, and answers as it says. */
final class ReadmeTests {
    private static final Check CHECK = new Check("ReadmeTests");

    public static void main(String[] args) throws IOException {
        String readme = Files.readString(Path.of("README.md"));
        ForgottenCrafts x = new ForgottenCrafts();
        feed(readme, x, "trade plain 3 20;trade back 2 10;trade half 4 30 needs 0;");
        feed(readme, x, "person 20 0 90 1 60;person 30 1 100;person 69 0 40;person 10;likes 0 0 9;likes 1 0 50;");
        line(readme, "int people = x.town();", " 4;", x.town(), 4);
        line(readme, "int place = x.fault();", " -1:", x.fault(), -1);
        feed(readme, x, "holds 2;witnesses 1;fades 50;");
        line(readme, "int clauses = x.laws();", " 3;", x.laws(), 3);
        line(readme, "int witnesses = x.change(0, 2, 1, -1);", ": 2 (bit 1)", x.change(0, 2, 1, -1), 2);
        line(readme, "int again = x.change(0, 2, 1, -1);", " -1000000003:", x.change(0, 2, 1, -1), ForgottenCrafts.NOT);
        line(readme, "int living = x.year(1);", ": 11 (bits 0, 1, 3)", x.year(1), 11);
        line(readme, "int skill = x.skill(0, 2);", " 25,", x.skill(0, 2), 25);
        line(readme, "int faded = x.skill(0, 1);", " 10,", x.skill(0, 1), 10);
        CHECK.end();
    }

    private static void feed(String readme, ForgottenCrafts x, String text) {
        CHECK.isTrue("README.md feeds " + text, readme.contains("\nfeed(x, \"" + text + "\");\n"));
        for (int i = 0; i < text.length(); i++) {
            x.feed(1, text.charAt(i));
        }
    }

    private static void line(String readme, String code, String told, int got, int want) {
        boolean stands = readme.lines().anyMatch(line -> line.startsWith(code) && line.contains("//") && line.contains(told));
        CHECK.isTrue("README.md has " + code + " with" + told, stands);
        CHECK.due(code, got, want);
    }
}
