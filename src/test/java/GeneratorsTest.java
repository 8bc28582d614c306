/** Steps 1 and 6 of a minute, as promises 12, 21, 22, 30 and 31 show them. */
public final class GeneratorsTest {
    private static final Check CHECK = new Check("GeneratorsTest");

    public static void main(String[] args) {
        startsAfterDelay();
        startTimeZeroIsTheFirstMinute();
        outageGoesOnAcrossAnUnseenReturn();
        startGoesOnWhenMainsReturn();
        failedStartBeginsAgain();
        testByTheClock();
        testOfSeveralMinutes();
        shorterTestEndsAtOnce();
        testFailsAtTheStart();
        testFailsForFuel();
        testPassesWithLastFuelLeft();
        outageTakesOverRunningTest();
        outageLeavesStartingTest();
        mainsReturnAheadOfTheMinute();
        noTestInAnOutage();
        noTestWhileRunning();
        fuelForPower();
        fuelForLoadsAndChargingTogether();
        fuelRunsOut();
        emptyOneDoesNotStart();
        generatorsAreAlone();
        wrongNumbers();
        CHECK.end();
    }

    private static void states(String what, BackupPower x, int generator, int... want) {
        for (int i = 0; i < want.length; i++) {
            x.pass(1);
            CHECK.due(what + ", minute " + (i + 1), x.generatorState(generator), want[i]);
        }
    }

    private static BackupPower outageWith(int power, int delay, int tank) {
        BackupPower x = new BackupPower();
        x.addGenerator(power, delay, tank);
        x.setTimes(1, 1);
        x.setMains(false);
        return x;
    }

    private static void startsAfterDelay() {
        BackupPower x = new BackupPower();
        x.addGenerator(100, 3, 100);
        x.setMains(false);
        states("start time 2 and delay 3", x, 0, 0, 1, 1, 1, 2, 2);
        x.setMains(true);
        states("the mains return", x, 0, 0, 0);
    }

    private static void startTimeZeroIsTheFirstMinute() {
        BackupPower x = outageWith(100, 1, 100);
        x.setTimes(0, 1);
        states("start time 0", x, 0, 1, 2);
    }

    private static void outageGoesOnAcrossAnUnseenReturn() {
        BackupPower x = outageWith(100, 1, 100);
        x.setTimes(3, 1);
        x.pass(2);
        CHECK.due("mains were down", x.setMains(true), false);
        CHECK.due("mains were up", x.setMains(false), true);
        x.pass(1);
        CHECK.due("no minute with the mains up", x.outage(), 3);
        CHECK.due("the generator starts", x.generatorState(0), 1);
    }

    private static void startGoesOnWhenMainsReturn() {
        BackupPower x = outageWith(100, 3, 100);
        x.pass(1);
        x.setMains(true);
        states("a start with the mains up", x, 0, 1, 1, 2, 0, 0);
        CHECK.due("one minute of running uses fuel", x.fuelOf(0), 99);
        CHECK.due("it was no test", x.tests(0), 0);
    }

    private static void failedStartBeginsAgain() {
        BackupPower x = outageWith(100, 2, 100);
        x.setFailures(0, 2);
        states("two starts fail", x, 0, 1, 1, 0, 1, 1, 0, 1, 1, 2);
        CHECK.due("failed starts", x.failedStarts(0), 2);
        CHECK.due("none to come", x.setFailures(0, 0), 0);
        CHECK.due("no test has failed", x.tests(0), 0);
        CHECK.due("only running uses fuel", x.fuelOf(0), 99);
    }

    private static void testByTheClock() {
        BackupPower x = new BackupPower();
        x.addGenerator(100, 2, 100);
        x.pass(1);
        x.setTests(0, 4, 1);
        states("a test at 4 and at 8", x, 0, 0, 0, 11, 11, 12, 0, 11, 11, 12, 0);
        CHECK.due("two tests have passed", x.tests(0), 2000);
        CHECK.due("a minute of running each", x.fuelOf(0), 98);
    }

    private static void testOfSeveralMinutes() {
        BackupPower x = new BackupPower();
        x.addGenerator(100, 1, 100);
        x.setTests(0, 10, 3);
        x.pass(9);
        states("a test of 3 minutes", x, 0, 11, 12, 12, 12, 0, 0);
        CHECK.due("it has passed", x.tests(0), 1000);
        CHECK.due("3 units of fuel", x.fuelOf(0), 97);
    }

    private static void shorterTestEndsAtOnce() {
        BackupPower x = new BackupPower();
        x.addGenerator(100, 1, 100);
        x.setTests(0, 1, 60);
        x.pass(10);
        CHECK.due("on test", x.generatorState(0), 12);
        x.setTests(0, 50, 3);
        states("the test has lasted longer than it is to", x, 0, 0);
        CHECK.due("it has passed", x.tests(0), 1000);
    }

    private static void testFailsAtTheStart() {
        BackupPower x = new BackupPower();
        x.addGenerator(100, 1, 100);
        x.setTests(0, 3, 1);
        x.setFailures(0, 1);
        x.pass(2);
        states("the start of a test fails", x, 0, 11, 0, 0, 11, 12, 0);
        CHECK.due("failed starts", x.failedStarts(0), 1);
        CHECK.due("one passed and one failed", x.tests(0), 1001);
    }

    private static void testFailsForFuel() {
        BackupPower x = new BackupPower();
        x.addGenerator(100, 1, 2);
        x.setTests(0, 5, 10);
        x.pass(4);
        states("the tank is empty in the second minute", x, 0, 11, 12, 0, 0, 0, 0);
        CHECK.due("the test has failed", x.tests(0), 1);
        CHECK.due("no start has failed", x.failedStarts(0), 0);
        CHECK.due("no fuel", x.fuelOf(0), 0);
        x.refuel(0, 2);
        x.pass(5);
        CHECK.due("the next test", x.generatorState(0), 11);
    }

    private static void testPassesWithLastFuelLeft() {
        BackupPower x = new BackupPower();
        x.addGenerator(100, 1, 3);
        x.setTests(0, 5, 2);
        x.pass(8);
        CHECK.due("it has passed", x.tests(0), 1000);
        CHECK.due("the minute in which it stops uses none", x.fuelOf(0), 1);
    }

    private static void outageTakesOverRunningTest() {
        BackupPower x = new BackupPower();
        x.addGenerator(100, 1, 100);
        x.addLoad(1, 60);
        x.setTests(0, 2, 5);
        x.pass(3);
        CHECK.due("on test", x.generatorState(0), 12);
        x.setMains(false);
        CHECK.due("its power keeps the load", x.pass(1), 0);
        CHECK.due("not on test any more", x.generatorState(0), 2);
        CHECK.due("it gives power", x.fromGenerators(), 60);
        x.setMains(true);
        states("the mains return", x, 0, 0);
        CHECK.due("the test has neither passed nor failed", x.tests(0), 0);
    }

    private static void outageLeavesStartingTest() {
        BackupPower x = new BackupPower();
        x.addGenerator(100, 2, 100);
        x.addLoad(1, 60);
        x.setTests(0, 2, 5);
        x.pass(2);
        x.setMains(false);
        CHECK.due("nothing gives power", x.pass(1), 1);
        CHECK.due("still starting on test", x.generatorState(0), 11);
        x.pass(1);
        CHECK.due("running on test in its first minute", x.generatorState(0), 12);
        CHECK.due("so that no load returns", x.stateOf(0), BackupPower.SHED);
        x.pass(1);
        CHECK.due("not on test in the next one", x.generatorState(0), 2);
        CHECK.due("so that the load returns", x.stateOf(0), BackupPower.SERVED);
        CHECK.due("no test has ended", x.tests(0), 0);
    }

    private static void mainsReturnAheadOfTheMinute() {
        BackupPower x = new BackupPower();
        x.addGenerator(100, 1, 100);
        x.setTests(0, 2, 1);
        x.pass(2);
        x.setMains(false);
        x.pass(1);
        CHECK.due("running on test in the outage", x.generatorState(0), 12);
        x.setMains(true);
        x.pass(1);
        CHECK.due("that minute counts for the test", x.tests(0), 1000);
    }

    private static void noTestInAnOutage() {
        BackupPower x = outageWith(100, 1, 100);
        x.setTimes(30, 1);
        x.setTests(0, 3, 1);
        states("the mains are down", x, 0, 0, 0, 0, 0, 0);
        x.setMains(true);
        states("the mains are up", x, 0, 11, 12, 0, 11);
    }

    private static void noTestWhileRunning() {
        BackupPower x = outageWith(100, 1, 100);
        x.setTests(0, 4, 1);
        x.pass(3);
        x.setMains(true);
        states("it is stopped at a time for a test", x, 0, 0, 0, 0, 0, 11);
    }

    private static void fuelForPower() {
        int[][] powerAndFuel = {{1, 1}, {49, 1}, {50, 1}, {51, 2}, {100, 2}, {101, 3}, {500, 10}};
        for (int[] row : powerAndFuel) {
            BackupPower x = outageWith(1000, 1, 500);
            x.addLoad(1, row[0]);
            x.pass(2);
            CHECK.due("fuel for " + row[0], x.fuelOf(0), 500 - row[1]);
        }
        BackupPower idle = outageWith(1000, 1, 500);
        idle.pass(2);
        CHECK.due("fuel for nothing", idle.fuelOf(0), 499);
    }

    private static void fuelForLoadsAndChargingTogether() {
        BackupPower x = new BackupPower();
        x.addGenerator(100, 1, 500);
        x.addGenerator(100, 1, 500);
        x.addBattery(1000, 500, 40);
        x.addLoad(1, 20);
        x.setTimes(1, 1);
        x.setMains(false);
        x.pass(1);
        CHECK.due("the battery serves", x.chargeOf(0), 980);
        x.pass(1);
        CHECK.due("the battery is charged", x.chargeOf(0), 1000);
        CHECK.due("20 and 20 are one unit", x.fuelOf(0), 499);
        CHECK.due("the second one gives nothing", x.fuelOf(1), 499);
        x.setPower(0, 90);
        x.setMains(true);
        x.pass(1);
        x.setMains(false);
        x.pass(1);
        CHECK.due("the battery serves again", x.chargeOf(0), 910);
        x.pass(1);
        CHECK.due("it gets its charging rate", x.chargeOf(0), 950);
        CHECK.due("90 and 10 are two units", x.fuelOf(0), 497);
        CHECK.due("the second one gives 30", x.fuelOf(1), 498);
    }

    private static void fuelRunsOut() {
        BackupPower x = outageWith(500, 1, 13);
        x.addLoad(1, 500);
        x.pass(1);
        states("10 units, and the 3 that are left", x, 0, 2, 0, 0);
        CHECK.due("no fuel", x.fuelOf(0), 0);
        CHECK.due("the load was served for two minutes", x.energyOf(0), 1000);
    }

    private static void emptyOneDoesNotStart() {
        BackupPower x = outageWith(100, 1, 1);
        x.setTests(0, 1, 1);
        x.pass(2);
        CHECK.due("stopped in its first minute", x.generatorState(0), 0);
        states("no fuel in the outage", x, 0, 0, 0);
        x.setMains(true);
        states("no fuel for a test", x, 0, 0, 0);
        x.refuel(0, 1);
        states("fuel for a test", x, 0, 11);
        CHECK.due("no test yet", x.tests(0), 0);
        states("a test that uses the last unit", x, 0, 0);
        CHECK.due("has failed", x.tests(0), 1);
    }

    private static void generatorsAreAlone() {
        BackupPower x = new BackupPower();
        x.addGenerator(10, 1, 10);
        x.addGenerator(10, 2, 20);
        x.addGenerator(10, 3, 30);
        x.setTests(1, 2, 1);
        x.setFailures(2, 1);
        x.pass(2);
        CHECK.due("generator 0", x.generatorState(0), 0);
        CHECK.due("generator 1", x.generatorState(1), 11);
        CHECK.due("generator 2", x.generatorState(2), 0);
        x.setTimes(0, 1);
        x.setMains(false);
        x.pass(4);
        CHECK.due("generator 0", x.generatorState(0), 2);
        CHECK.due("generator 1", x.generatorState(1), 2);
        CHECK.due("generator 2", x.generatorState(2), 0);
        CHECK.due("fuel 0", x.fuelOf(0), 7);
        CHECK.due("fuel 1", x.fuelOf(1), 17);
        CHECK.due("fuel 2", x.fuelOf(2), 30);
        CHECK.due("failed starts 0", x.failedStarts(0), 0);
        CHECK.due("failed starts 2", x.failedStarts(2), 1);
    }

    private static void wrongNumbers() {
        BackupPower x = new BackupPower();
        x.addLoad(1, 1);
        x.addLoad(1, 1);
        x.addGenerator(1, 1, 1);
        for (int wrong : new int[] {-1, 1, 3, Integer.MIN_VALUE, Integer.MAX_VALUE}) {
            CHECK.index("generatorState", () -> x.generatorState(wrong));
            CHECK.index("fuelOf", () -> x.fuelOf(wrong));
            CHECK.index("failedStarts", () -> x.failedStarts(wrong));
            CHECK.index("tests", () -> x.tests(wrong));
        }
    }
}
