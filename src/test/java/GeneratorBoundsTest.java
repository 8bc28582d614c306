/**
 * Steps 1 and 6 of a minute where the document names a bound: the minute in which a start, a delay or a
 * test is over and the one ahead of it, the last failure to come, the last unit of fuel.
 */
public final class GeneratorBoundsTest {
    private static final Check CHECK = new Check("GeneratorBoundsTest");
    private static final int STOPPED = BackupPower.STOPPED, STARTING = BackupPower.STARTING;
    private static final int RUNNING = BackupPower.RUNNING, ON_TEST = 10;

    public static void main(String[] args) {
        constants();
        startTimeThatIsChanged();
        needsFuelToStart();
        refuelledInTheOutage();
        needsFuelForATest();
        noStartWithTheMainsUp();
        testAtEachMultiple();
        noTestAheadOfThePeriod();
        onlyStoppedOnesAreTested();
        stoppedAtATimeForATest();
        noTestAtATimeInAnOutage();
        startForAnOutageIsNoTest();
        noRestartInTheMinuteOfAFailure();
        lastMinuteOfATest();
        lengthThatIsChanged();
        outageInTheLastMinuteOfATest();
        outageAfterTheLastMinuteOfATest();
        testThatBeginsAheadOfAnOutage();
        testThatBecomesRunningInAnOutage();
        failureOfATestInAnOutage();
        startGoesOnWithTheMainsUp();
        fuelForEach50Units();
        fuelIsCountedForEachGenerator();
        fuelThatIsJustEnough();
        fuelForATestToItsEnd();
        emptyTankInAnOutageIsNoTest();
        numbersOfGenerators();
        testsTogether();
        CHECK.end();
    }

    private static BackupPower outage(int start, int power, int delay, int tank) {
        BackupPower x = new BackupPower();
        x.addGenerator(power, delay, tank);
        x.setTimes(start, 1);
        x.setMains(false);
        return x;
    }

    private static BackupPower tested(int delay, int tank, int period, int minutes) {
        BackupPower x = new BackupPower();
        x.addGenerator(100, delay, tank);
        x.setTests(0, period, minutes);
        return x;
    }

    private static void states(String what, BackupPower x, int... want) {
        for (int i = 0; i < want.length; i++) {
            x.pass(1);
            CHECK.due(what + ", minute " + (i + 1), x.generatorState(0), want[i]);
        }
    }

    // The constants, and promise 21: "10 more if it is on test".
    private static void constants() {
        CHECK.due("NONE", BackupPower.NONE, -1);
        CHECK.due("OFF", BackupPower.OFF, 0);
        CHECK.due("SERVED", BackupPower.SERVED, 1);
        CHECK.due("SHED", BackupPower.SHED, 2);
        BackupPower x = tested(2, 100, 1, 1);
        CHECK.due("STOPPED", x.generatorState(0), 0);
        states("a test", x, 11, 11, 12, 0);
        x.setTimes(0, 1);
        x.setMains(false);
        states("an outage", x, 1, 1, 2);
    }

    // "the outage is at least as long as the start time": as it is set in that minute.
    private static void startTimeThatIsChanged() {
        BackupPower x = outage(30, 1, 1, 10);
        x.pass(10);
        x.setTimes(12, 1);
        states("12 after 10 minutes", x, STOPPED, STARTING);
        BackupPower y = outage(30, 1, 1, 10);
        y.pass(10);
        y.setTimes(11, 1);
        states("11 after 10 minutes", y, STARTING);
        BackupPower z = outage(30, 1, 1, 10);
        z.pass(10);
        z.setTimes(0, 1);
        states("0 after 10 minutes", z, STARTING, RUNNING);
        z.setTimes(30, 1);
        states("30 when it runs", z, RUNNING, RUNNING);
    }

    // "One that was STOPPED ahead of this minute and has fuel".
    private static void needsFuelToStart() {
        BackupPower x = outage(0, 1, 1, 1);
        states("one unit", x, STARTING, STOPPED, STOPPED, STOPPED);
        CHECK.due("no start has failed", x.failedStarts(0), 0);
        BackupPower y = outage(0, 1, 1, 2);
        states("two units", y, STARTING, RUNNING, STOPPED, STOPPED);
    }

    private static void refuelledInTheOutage() {
        BackupPower x = outage(5, 1, 1, 1);
        states("its first start", x, 0, 0, 0, 0, STARTING, STOPPED, STOPPED);
        CHECK.due("one unit", x.refuel(0, 1), 1);
        states("starts at once", x, STARTING, STOPPED, STOPPED);
    }

    private static void needsFuelForATest() {
        BackupPower x = tested(1, 1, 1, 1);
        states("one unit, used by a test", x, 11, STOPPED, STOPPED, STOPPED);
        CHECK.due("which has failed", x.tests(0), 1);
        x.refuel(0, 1);
        states("one unit", x, 11, STOPPED, STOPPED);
        CHECK.due("both have failed", x.tests(0), 2);
    }

    // "or if the mains are up, it has a test period": nothing else lets it start then.
    private static void noStartWithTheMainsUp() {
        BackupPower x = new BackupPower();
        x.addGenerator(1, 1, 10);
        x.setTimes(0, 1);
        states("the mains are up", x, STOPPED, STOPPED, STOPPED);
        x.setTimes(2, 1);
        x.setMains(false);
        x.pass(1);
        x.setMains(true);
        states("an outage that was too short", x, STOPPED, STOPPED);
        x.setMains(false);
        states("the next one begins anew", x, STOPPED, STARTING);
    }

    // "the time is a multiple of it; then it is on test".
    private static void testAtEachMultiple() {
        for (int period = 3; period <= 12; period++) {
            BackupPower x = tested(1, 1000, period, 1);
            for (int time = 1; time <= 3 * period + 2; time++) {
                x.pass(1);
                int since = time < period ? period : time % period;
                int want = since == 0 ? 11 : since == 1 ? 12 : STOPPED;
                CHECK.due("period " + period + ", time " + time, x.generatorState(0), want);
            }
            CHECK.due("three tests", x.tests(0), 3000);
        }
    }

    private static void noTestAheadOfThePeriod() {
        BackupPower x = new BackupPower();
        x.addGenerator(1, 1, 100);
        x.pass(13);
        x.setTests(0, 7, 1);
        states("the next multiple of 7 is 14", x, 11, 12, STOPPED, 0, 0, 0, 0, 11);
        x.setTests(0, 0, 1);
        states("it ends, and there are no more", x, 12, STOPPED, 0, 0, 0, 0, 0, 0, 0, 0);
    }

    private static void onlyStoppedOnesAreTested() {
        BackupPower x = tested(1, 100, 1, 3);
        states("each minute is a multiple", x, 11, 12, 12, 12, STOPPED, 11, 12, 12, 12, STOPPED);
        CHECK.due("two tests", x.tests(0), 2000);
    }

    // "One that was STOPPED ahead of this minute": not one that is STOPPED in it.
    private static void stoppedAtATimeForATest() {
        BackupPower x = tested(1, 100, 1, 1);
        x.setTimes(0, 1);
        x.setMains(false);
        states("an outage", x, STARTING, RUNNING);
        x.setMains(true);
        states("stopped, and tested a minute later", x, STOPPED, 11, 12, STOPPED, 11);
    }

    private static void noTestAtATimeInAnOutage() {
        BackupPower x = tested(1, 100, 4, 1);
        x.setTimes(30, 1);
        x.pass(3);
        x.setMains(false);
        states("time 4", x, STOPPED);
        x.setMains(true);
        states("time 5 to 8", x, STOPPED, STOPPED, STOPPED, 11);
    }

    // A start for an outage is not on test, even if the time is a multiple of the period.
    private static void startForAnOutageIsNoTest() {
        BackupPower x = tested(2, 100, 1, 1);
        x.setTimes(0, 1);
        x.setMains(false);
        states("an outage", x, STARTING);
        x.setMains(true);
        states("the mains return", x, STARTING, RUNNING, STOPPED);
        CHECK.due("no test has ended", x.tests(0), 0);
    }

    private static void noRestartInTheMinuteOfAFailure() {
        BackupPower x = outage(0, 1, 1, 10);
        x.setFailures(0, 1);
        states("a failure, then a start", x, STARTING, STOPPED, STARTING, RUNNING);
        BackupPower y = tested(1, 10, 1, 1);
        y.setFailures(0, 1);
        states("a failed test, then a test", y, 11, STOPPED, 11, 12, STOPPED);
        CHECK.due("one of each", y.tests(0), 1001);
    }

    // "RUNNING in as many minutes as its test lasts (that in which it became RUNNING is the first one)".
    private static void lastMinuteOfATest() {
        for (int minutes = 1; minutes <= 60; minutes++) {
            BackupPower x = tested(1, 1000, 200, minutes);
            x.pass(200 + minutes);
            CHECK.due("the last of " + minutes, x.generatorState(0), ON_TEST + RUNNING);
            CHECK.due("not passed yet", x.tests(0), 0);
            CHECK.due("fuel", x.fuelOf(0), 1000 - minutes);
            x.pass(1);
            CHECK.due("over after " + minutes, x.generatorState(0), STOPPED);
            CHECK.due("passed", x.tests(0), 1000);
            CHECK.due("no fuel in the minute in which it stops", x.fuelOf(0), 1000 - minutes);
        }
    }

    private static void lengthThatIsChanged() {
        BackupPower x = tested(1, 100, 20, 5);
        x.pass(23);
        x.setTests(0, 20, 3);
        states("3 after 3 minutes", x, STOPPED);
        BackupPower y = tested(1, 100, 20, 5);
        y.pass(23);
        y.setTests(0, 20, 4);
        states("4 after 3 minutes", y, 12, STOPPED);
        BackupPower z = tested(1, 100, 20, 3);
        z.pass(23);
        z.setTests(0, 20, 60);
        z.pass(57);
        CHECK.due("60 after 3 minutes", z.generatorState(0), 12);
        states("no longer than that", z, STOPPED);
    }

    // "if it is on test and the mains are down, it is not on test any more".
    private static void outageInTheLastMinuteOfATest() {
        BackupPower x = tested(1, 100, 10, 2);
        x.pass(12);
        CHECK.due("the last minute of the test", x.generatorState(0), 12);
        x.setMains(false);
        states("an outage just then", x, RUNNING);
        x.setMains(true);
        states("and it is over", x, STOPPED);
        CHECK.due("neither passed nor failed", x.tests(0), 0);
    }

    private static void outageAfterTheLastMinuteOfATest() {
        BackupPower x = tested(1, 100, 10, 2);
        x.pass(13);
        CHECK.due("passed", x.tests(0), 1000);
        x.setMains(false);
        states("an outage a minute later", x, STOPPED, STARTING);
        CHECK.due("still one test", x.tests(0), 1000);
    }

    // "One that is STARTING goes on to start, on test or not, whether the mains are up or down."
    private static void testThatBeginsAheadOfAnOutage() {
        BackupPower x = tested(3, 100, 10, 1);
        x.addLoad(1, 100);
        x.setTimes(0, 1);
        x.pass(10);
        x.setMains(false);
        states("on test until a minute after it runs", x, 11, 11, 12, RUNNING);
        CHECK.due("it gives power only then", x.fromGenerators(), 100);
        CHECK.due("dark till then", x.darkMinutes(0), 3);
    }

    private static void testThatBecomesRunningInAnOutage() {
        BackupPower x = tested(1, 100, 10, 2);
        x.pass(10);
        x.setMains(false);
        states("its first minute", x, 12);
        x.setMains(true);
        states("its second minute, and the end", x, 12, STOPPED);
        CHECK.due("passed", x.tests(0), 1000);
    }

    private static void failureOfATestInAnOutage() {
        BackupPower x = tested(2, 100, 10, 2);
        x.setFailures(0, 1);
        x.setTimes(0, 1);
        x.pass(10);
        x.setMains(false);
        states("it fails, and starts for the outage", x, 11, STOPPED, STARTING, STARTING, RUNNING);
        CHECK.due("the test has failed", x.tests(0), 1);
        CHECK.due("the start has failed", x.failedStarts(0), 1);
    }

    private static void startGoesOnWithTheMainsUp() {
        BackupPower x = outage(0, 100, 10, 100);
        x.pass(1);
        x.setMains(true);
        states("delay 10", x, 1, 1, 1, 1, 1, 1, 1, 1, 1, RUNNING, STOPPED);
        CHECK.due("one minute of running", x.fuelOf(0), 99);
        BackupPower y = outage(0, 100, 2, 100);
        y.setFailures(0, 1);
        y.pass(1);
        y.setMains(true);
        states("a start that fails with the mains up", y, 1, STOPPED, STOPPED);
        CHECK.due("is a failed start", y.failedStarts(0), 1);
        CHECK.due("but no test", y.tests(0), 0);
    }

    // "1 unit of fuel for each 50 units of power that it gave .. or part of these, and 1 unit if it gave none".
    private static void fuelForEach50Units() {
        int[][] powersAndFuel = {
            {0, 0, 1}, {1, 0, 1}, {49, 0, 1}, {50, 0, 1}, {51, 0, 2}, {99, 0, 2}, {100, 0, 2}, {101, 0, 3},
            {499, 0, 10}, {500, 0, 10}, {500, 1, 11}, {500, 450, 19}, {500, 451, 20}, {500, 499, 20},
            {500, 500, 20},
        };
        for (int[] row : powersAndFuel) {
            BackupPower x = outage(0, 1000, 1, 1000);
            x.pass(2);
            for (int i = 0; i < 2 && row[i] > 0; i++) {
                x.addLoad(1, row[i]);
                x.pass(1);
            }
            int before = x.fuelOf(0);
            x.pass(1);
            CHECK.due("fuel for " + row[0] + " and " + row[1], before - x.fuelOf(0), row[2]);
        }
    }

    private static void fuelIsCountedForEachGenerator() {
        BackupPower x = outage(0, 30, 1, 100);
        x.addGenerator(30, 1, 100);
        x.addGenerator(30, 1, 100);
        x.addLoad(1, 90);
        x.pass(2);
        CHECK.due("three times a part of 50: the first", x.fuelOf(0), 99);
        CHECK.due("the second", x.fuelOf(1), 99);
        CHECK.due("the third", x.fuelOf(2), 99);
        CHECK.due("all three give", x.fromGenerators(), 90);
        x.setPower(0, 60);
        x.pass(1);
        CHECK.due("the third gives none, and uses 1", x.fuelOf(2), 98);
    }

    // "when it has not so much, it uses what it has. One that has no fuel left is STOPPED".
    private static void fuelThatIsJustEnough() {
        int[][] tanksFuelAndStates = {{1, 0, 0}, {9, 0, 0}, {10, 0, 0}, {11, 1, 2}, {19, 9, 2}, {20, 10, 2}};
        for (int[] row : tanksFuelAndStates) {
            BackupPower x = outage(0, 500, 1, row[0]);
            x.addLoad(1, 500);
            x.pass(2);
            CHECK.due("10 units out of " + row[0], x.fuelOf(0), row[1]);
            CHECK.due("the state after that", x.generatorState(0), row[2]);
            CHECK.due("the load got all of it", x.energyOf(0), 500);
            CHECK.due("from the generator", x.fromGenerators(), 500);
            CHECK.due("and it is shed only if none is left", x.pass(1), row[1] > 0 ? 0 : 1);
        }
    }

    private static void fuelForATestToItsEnd() {
        BackupPower x = tested(1, 4, 10, 4);
        x.pass(13);
        CHECK.due("one unit for the last minute", x.generatorState(0), 12);
        states("the tank is empty in it", x, STOPPED);
        CHECK.due("so that the test has failed", x.tests(0), 1);
        BackupPower y = tested(1, 5, 10, 4);
        y.pass(15);
        CHECK.due("one unit more, and it is passed", y.tests(0), 1000);
        CHECK.due("that unit is left", y.fuelOf(0), 1);
    }

    private static void emptyTankInAnOutageIsNoTest() {
        BackupPower x = tested(1, 3, 10, 60);
        x.pass(11);
        x.setMains(false);
        states("not on test, and then empty", x, RUNNING, STOPPED);
        CHECK.due("no test has failed", x.tests(0), 0);
        BackupPower y = tested(1, 1, 10, 60);
        y.pass(10);
        y.setMains(false);
        states("still on test when it is empty", y, STOPPED);
        CHECK.due("the test has failed", y.tests(0), 1);
    }

    // Promises 21, 22, 30 and 31: "Throws IndexOutOfBoundsException if there is no such generator".
    private static void numbersOfGenerators() {
        BackupPower x = new BackupPower();
        for (int count = 0; count <= 3; count++) {
            int next = count;
            CHECK.index("generatorState(" + next + ")", () -> x.generatorState(next));
            CHECK.index("fuelOf(" + next + ")", () -> x.fuelOf(next));
            CHECK.index("failedStarts(" + next + ")", () -> x.failedStarts(next));
            CHECK.index("tests(" + next + ")", () -> x.tests(next));
            CHECK.index("generatorState(-1)", () -> x.generatorState(-1));
            CHECK.index("fuelOf(-1)", () -> x.fuelOf(-1));
            CHECK.index("failedStarts(-1)", () -> x.failedStarts(-1));
            CHECK.index("tests(-1)", () -> x.tests(-1));
            if (count < 3) {
                x.addGenerator(1, 1, 1 + count);
                CHECK.due("the last one's state", x.generatorState(count), 0);
                CHECK.due("the last one's fuel", x.fuelOf(count), 1 + count);
                CHECK.due("the last one's failed starts", x.failedStarts(count), 0);
                CHECK.due("the last one's tests", x.tests(count), 0);
            }
        }
    }

    // Promise 31: "1000 times those that were passed, and those that have failed, together."
    private static void testsTogether() {
        BackupPower x = tested(1, 1000, 1, 1);
        for (int i = 0; i < 4; i++) {
            x.setFailures(0, 5);
            x.pass(10);
        }
        CHECK.due("20 have failed", x.tests(0), 20);
        for (int i = 0; i < 200; i++) {
            x.setFailures(0, 5);
            x.pass(10);
        }
        CHECK.due("1020 have failed", x.tests(0), 1020);
        x.pass(3);
        CHECK.due("and one was passed", x.tests(0), 2020);
        CHECK.due("failed starts", x.failedStarts(0), 1020);
    }
}
