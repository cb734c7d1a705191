import java.io.IOException;
import java.nio.file.Files;
import java.nio.file.Path;
import java.util.ArrayList;
import java.util.List;
import java.util.TreeSet;
import java.util.stream.Stream;

/** What README.md says holds: its examples, line by line, and its tables of tests. It is run from the project's root. */
public final class ReadmeTest {
    private static final Check CHECK = new Check();

    private final List<String> examples = new ArrayList<>();
    private final TreeSet<String> testsNamed = new TreeSet<>();
    private int at = 0;

    private ReadmeTest() throws IOException {
        boolean inExample = false;
        for (String line : Files.readAllLines(Path.of("README.md"))) {
            if (line.startsWith("```")) {
                inExample = line.equals("```java");
            } else if (inExample) {
                examples.add(line);
            } else if (line.matches("\\| \\w+Test \\|.*")) {
                testsNamed.add(line.substring(2, line.indexOf(" |", 2)));
            }
        }
    }

    public static void main(String[] args) throws IOException {
        ReadmeTest readme = new ReadmeTest();
        readme.examplesHold();
        readme.everyTestIsNamed();
        CHECK.end();
    }

    /** The next line of the examples is this code, and its comment begins with this answer. */
    private void line(String code, Object answer) {
        String got = at < examples.size() ? examples.get(at) : "(no line)";
        CHECK.isTrue(code + " // " + answer + ", for the line " + got,
            got.matches("\\Q" + code + "\\E; +// \\Q" + answer + "\\E(:.*|)"));
        at++;
    }

    private void line(String code) {
        String got = at < examples.size() ? examples.get(at) : "(no line)";
        CHECK.isTrue(code + ", for the line " + got, got.startsWith(code));
        at++;
    }

    private void examplesHold() {
        line("FountainShow show = new FountainShow();");
        FountainShow show = new FountainShow();
        line("show.setUp(6)", show.setUp(6));
        line("show.nozzle(0, FountainShow.HEIGHT, 2500)", show.nozzle(0, FountainShow.HEIGHT, 2500));
        line("show.pump(0, FountainShow.CAPACITY, 15)", show.pump(0, FountainShow.CAPACITY, 15));
        line("show.cue(10, 0b000011, 800)", show.cue(10, 0b000011, 800));
        line("show.cue(25, 0b000010, 0)", show.cue(25, 0b000010, 0));
        line("show.tick(20)", show.tick(20));
        line("show.spray(0, 9)", show.spray(0, 9));
        line("show.meanHeight()", show.meanHeight());
        line("show.load(0)", show.load(0));
        line("show.state(8)", show.state(8));
        line("show.ahead(100, 0, 1)", show.ahead(100, 0, 1));
        line("show.rewind()", show.rewind());
        line("show.delay(0, 100, 300)", show.delay(0, 100, 300));
        line("show.move(0, 12)", show.move(0, 12));
        line("show.ahead(100, 0, 2)", show.ahead(100, 0, 2));
        line("show.save(0)", show.save(0));
        line("show.set(FountainShow.SPLASH, 10)", show.set(FountainShow.SPLASH, 10));
        line("show.wind(120)", show.wind(120));
        line("show.safeCut(60)", show.safeCut(60));
        line("show.restore(0)", show.restore(0));
        line("show.nozzle(6, FountainShow.LAG, 0)", show.nozzle(6, FountainShow.LAG, 0));
        line("show.set(FountainShow.FILTER, 0)", show.set(FountainShow.FILTER, 0));
        line("for (char c : \"30:ac=500,40:ac=0\".toCharArray()) show.say(c);");
        for (char c : "30:ac=500,40:ac=0".toCharArray()) {
            show.say(c);
        }
        line("show.fault()", show.fault());
        line("show.read(100)", show.read(100));
        line("show.part(3, 0)", show.part(3, 0));
        CHECK.due("lines of the examples", examples.size(), at);
    }

    private void everyTestIsNamed() throws IOException {
        TreeSet<String> tests = new TreeSet<>();
        try (Stream<Path> files = Files.list(Path.of("src/test/java"))) {
            files.map(file -> file.getFileName().toString())
                .filter(name -> name.endsWith("Test.java"))
                .forEach(name -> tests.add(name.substring(0, name.length() - 5)));
        }
        CHECK.isTrue("the tests are " + tests + ", README.md names " + testsNamed, tests.equals(testsNamed));
    }
}
