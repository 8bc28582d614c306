import java.io.IOException;
import java.nio.file.Files;
import java.nio.file.Path;
import java.util.ArrayList;
import java.util.List;
import java.util.Set;
import java.util.TreeSet;
import java.util.regex.Matcher;
import java.util.regex.Pattern;
import java.util.stream.Collectors;
import java.util.stream.Stream;

/** README.md: its example, line for line, answers what it says, and its table has every test. */
public final class ReadmeTest {
    private static final Check CHECK = new Check("ReadmeTest");
    private static final Path PAGE = Path.of("README.md");
    private static final Path TESTS = Path.of("src/test/java");
    private static final String BEGIN = "// README.md, from here";
    private static final String END = "// to here";

    public static void main(String[] args) throws IOException {
        theExample();
        theExampleIsThatOfThePage();
        theTableHasEveryTest();
        CHECK.end();
    }

    private static void theExample() {
        // README.md, from here
        BackupPower site = new BackupPower();
        int light = site.addLoad(1, 60);              // 0: its number; rank 1, 60 units of power
        int heater = site.addLoad(4, 200);            // 1: its number; rank 4, 200 units of power
        int battery = site.addBattery(500, 100, 20);  // 0: its number; capacity, rate, charging rate
        int diesel = site.addGenerator(100, 3, 40);   // 0: its number; power, delay, tank
        int period = site.setTests(diesel, 1440, 10); // 0: it had no tests; now one of 10 minutes each day
        boolean wereUp = site.setMains(false);        // true: the mains were up
        int shed = site.pass(5);                      // 1: the heater
        int state = site.stateOf(heater);             // 2: BackupPower.SHED
        int running = site.generatorState(diesel);    // 2: BackupPower.RUNNING, since the fifth minute
        int charge = site.chargeOf(battery);          // 280: it gave 60 four times, and got 20
        int minutes = site.batteryMinutes();          // 4: with the light alone, if the diesel stopped
        // to here
        CHECK.due("the light", light, 0);
        CHECK.due("the heater", heater, 1);
        CHECK.due("the battery", battery, 0);
        CHECK.due("the diesel", diesel, 0);
        CHECK.due("the period before", period, 0);
        CHECK.due("the mains before", wereUp, true);
        CHECK.due("loads shed", shed, 1);
        CHECK.due("the heater's state", state, 2);
        CHECK.due("SHED", BackupPower.SHED, 2);
        CHECK.due("the diesel's state", running, 2);
        CHECK.due("RUNNING", BackupPower.RUNNING, 2);
        CHECK.due("the charge", charge, 280);
        CHECK.due("minutes from the battery", minutes, 4);
        CHECK.due("given by the battery", site.fromBatteries(), 4 * 60);
        CHECK.due("got by the battery", site.intoBatteries(), 20);
    }

    private static void theExampleIsThatOfThePage() throws IOException {
        List<String> told = linesBetween(Files.readAllLines(PAGE), "```java", "```");
        List<String> tried = linesBetween(Files.readAllLines(TESTS.resolve("ReadmeTest.java")), BEGIN, END);
        CHECK.due("the example has lines", told.size() > 1, true);
        if (!told.equals(tried)) {
            CHECK.report("the page tells " + told + ", tried is " + tried);
        }
    }

    private static List<String> linesBetween(List<String> lines, String begin, String end) {
        List<String> found = new ArrayList<>();
        boolean isBetween = false;
        for (String line : lines) {
            String text = line.strip();
            isBetween = isBetween && !text.equals(end);
            if (isBetween) {
                found.add(text);
            }
            isBetween = isBetween || text.equals(begin);
        }
        return found;
    }

    private static void theTableHasEveryTest() throws IOException {
        Set<String> told = new TreeSet<>();
        Matcher row = Pattern.compile("(?m)^\\| `(\\w+)` \\|").matcher(Files.readString(PAGE));
        while (row.find()) {
            told.add(row.group(1));
        }
        try (Stream<Path> files = Files.list(TESTS)) {
            Set<String> there = files.map(file -> file.getFileName().toString())
                    .filter(name -> name.endsWith("Test.java")).map(name -> name.replace(".java", ""))
                    .collect(Collectors.toCollection(TreeSet::new));
            if (!told.equals(there)) {
                CHECK.report("the page's table has " + told + ", tests are " + there);
            }
        }
    }
}
