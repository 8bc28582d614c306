/** Promises 1 to 10: a new object, devices that are added, and what is set of them. */
public final class DevicesTest {
    private static final Check CHECK = new Check("DevicesTest");
    private static final int[] FAR = {Integer.MIN_VALUE, -1, Integer.MAX_VALUE};

    public static void main(String[] args) {
        promise1NewObject();
        promise1FirstTimes();
        promise2AddLoad();
        promise2WrongArguments();
        promise3AddBattery();
        promise3WrongArguments();
        promise4AddGenerator();
        promise4WrongArguments();
        promise5SwitchLoad();
        promise5ReturnsAsOthersDo();
        promise6SetPower();
        promise7Refuel();
        promise8SetFailures();
        promise9SetTests();
        promise9WrongArguments();
        promise10SetTimes();
        CHECK.end();
    }

    private static void promise1NewObject() {
        BackupPower x = new BackupPower();
        CHECK.due("time", x.time(), 0);
        CHECK.due("outage", x.outage(), 0);
        CHECK.due("demand", x.demand(), 0);
        CHECK.due("batteryMinutes", x.batteryMinutes(), 1000);
        CHECK.due("sums", x.fromMains() + x.fromGenerators() + x.fromBatteries() + x.intoBatteries(), 0);
        CHECK.index("stateOf(0)", () -> x.stateOf(0));
        CHECK.index("chargeOf(0)", () -> x.chargeOf(0));
        CHECK.index("fuelOf(0)", () -> x.fuelOf(0));
        CHECK.index("shedOrder(0)", () -> x.shedOrder(0));
        CHECK.index("returnOrder(0)", () -> x.returnOrder(0));
        CHECK.due("mains are up", x.setMains(true), true);
        CHECK.due("start time", x.setTimes(2, 1), 2);
        CHECK.due("pass with no device", x.pass(500), 0);
        CHECK.due("time", x.time(), 500);
        BackupPower other = new BackupPower();
        CHECK.due("another object's time", other.time(), 0);
    }

    private static void promise1FirstTimes() {
        BackupPower x = new BackupPower();
        x.addLoad(1, 10);
        x.addLoad(1, 10);
        x.addGenerator(100, 5, 10);
        x.switchLoad(0, false);
        x.switchLoad(1, false);
        x.switchLoad(0, true);
        x.switchLoad(1, true);
        x.pass(1);
        CHECK.due("one load returns in the first minute", x.demand(), 10);
        x.pass(1);
        CHECK.due("the next one a minute later", x.demand(), 20);
        x.setMains(false);
        x.pass(1);
        CHECK.due("no start at an outage of 1", x.generatorState(0), BackupPower.STOPPED);
        x.pass(1);
        CHECK.due("start at an outage of 2", x.generatorState(0), BackupPower.STARTING);
    }

    private static void promise2AddLoad() {
        BackupPower x = new BackupPower();
        CHECK.due("first load", x.addLoad(1, 1), 0);
        CHECK.due("second load", x.addLoad(5, 500), 1);
        CHECK.due("its state with the mains up", x.stateOf(1), BackupPower.SERVED);
        CHECK.due("its power", x.demand(), 501);
        x.setMains(false);
        CHECK.due("third load", x.addLoad(3, 20), 2);
        CHECK.due("its state with the mains down", x.stateOf(2), BackupPower.SHED);
        x.setMains(true);
        CHECK.due("fourth load", x.addLoad(2, 30), 3);
        CHECK.due("its state with the mains up again", x.stateOf(3), BackupPower.SERVED);
        for (int i = 4; i < 10; i++) {
            CHECK.due("load", x.addLoad(1 + i % 5, 1), i);
        }
        CHECK.state("the 11th load", () -> x.addLoad(1, 1));
        CHECK.argument("the 11th load with a wrong rank", () -> x.addLoad(0, 1));
        CHECK.argument("the 11th load with a wrong power", () -> x.addLoad(1, 501));
        CHECK.due("the last load is there", x.stateOf(9), BackupPower.SERVED);
        CHECK.index("no load 10", () -> x.stateOf(10));
    }

    private static void promise2WrongArguments() {
        BackupPower x = new BackupPower();
        CHECK.argument("rank 0", () -> x.addLoad(0, 10));
        CHECK.argument("rank 6", () -> x.addLoad(6, 10));
        CHECK.argument("power 0", () -> x.addLoad(1, 0));
        CHECK.argument("power 501", () -> x.addLoad(1, 501));
        for (int far : FAR) {
            CHECK.argument("rank far out", () -> x.addLoad(far, 10));
            CHECK.argument("power far out", () -> x.addLoad(1, far));
        }
        CHECK.due("the first load after refusals", x.addLoad(1, 10), 0);
    }

    private static void promise3AddBattery() {
        BackupPower x = new BackupPower();
        CHECK.due("first battery", x.addBattery(1, 1, 1), 0);
        CHECK.due("second battery", x.addBattery(20000, 500, 500), 1);
        CHECK.due("its capacity", x.capacityOf(1), 20000);
        CHECK.due("its charge is its capacity", x.chargeOf(1), 20000);
        CHECK.due("the first one's capacity", x.capacityOf(0), 1);
        CHECK.due("third battery", x.addBattery(70, 30, 20), 2);
        CHECK.state("the 4th battery", () -> x.addBattery(1, 1, 1));
        CHECK.argument("the 4th battery with a wrong capacity", () -> x.addBattery(0, 1, 1));
        CHECK.argument("the 4th battery with a wrong charging", () -> x.addBattery(1, 1, 501));
    }

    private static void promise3WrongArguments() {
        BackupPower x = new BackupPower();
        CHECK.argument("capacity 0", () -> x.addBattery(0, 1, 1));
        CHECK.argument("capacity 20001", () -> x.addBattery(20001, 1, 1));
        CHECK.argument("rate 0", () -> x.addBattery(1, 0, 1));
        CHECK.argument("rate 501", () -> x.addBattery(1, 501, 1));
        CHECK.argument("charging 0", () -> x.addBattery(1, 1, 0));
        CHECK.argument("charging 501", () -> x.addBattery(1, 1, 501));
        for (int far : FAR) {
            CHECK.argument("capacity far out", () -> x.addBattery(far, 1, 1));
            CHECK.argument("rate far out", () -> x.addBattery(1, far, 1));
            CHECK.argument("charging far out", () -> x.addBattery(1, 1, far));
        }
        CHECK.due("the first battery after refusals", x.addBattery(1, 1, 1), 0);
    }

    private static void promise4AddGenerator() {
        BackupPower x = new BackupPower();
        CHECK.due("first generator", x.addGenerator(1, 1, 1), 0);
        CHECK.due("second generator", x.addGenerator(1000, 10, 1000), 1);
        CHECK.due("its tank is full", x.fuelOf(1), 1000);
        CHECK.due("its state", x.generatorState(1), BackupPower.STOPPED);
        CHECK.due("its failed starts", x.failedStarts(1), 0);
        CHECK.due("its tests", x.tests(1), 0);
        CHECK.due("third generator", x.addGenerator(50, 2, 7), 2);
        CHECK.due("the first one's fuel", x.fuelOf(0), 1);
        CHECK.state("the 4th generator", () -> x.addGenerator(1, 1, 1));
        CHECK.argument("the 4th generator with a wrong power", () -> x.addGenerator(0, 1, 1));
        CHECK.argument("the 4th generator with a wrong tank", () -> x.addGenerator(1, 1, 1001));
    }

    private static void promise4WrongArguments() {
        BackupPower x = new BackupPower();
        CHECK.argument("power 0", () -> x.addGenerator(0, 1, 1));
        CHECK.argument("power 1001", () -> x.addGenerator(1001, 1, 1));
        CHECK.argument("delay 0", () -> x.addGenerator(1, 0, 1));
        CHECK.argument("delay 11", () -> x.addGenerator(1, 11, 1));
        CHECK.argument("tank 0", () -> x.addGenerator(1, 1, 0));
        CHECK.argument("tank 1001", () -> x.addGenerator(1, 1, 1001));
        for (int far : FAR) {
            CHECK.argument("power far out", () -> x.addGenerator(far, 1, 1));
            CHECK.argument("delay far out", () -> x.addGenerator(1, far, 1));
            CHECK.argument("tank far out", () -> x.addGenerator(1, 1, far));
        }
        CHECK.due("the first generator after refusals", x.addGenerator(1, 1, 1), 0);
    }

    private static void promise5SwitchLoad() {
        BackupPower x = new BackupPower();
        x.addLoad(1, 10);
        x.addLoad(1, 20);
        CHECK.due("on when SERVED", x.switchLoad(0, true), BackupPower.SERVED);
        CHECK.due("off when SERVED", x.switchLoad(0, false), BackupPower.OFF);
        CHECK.due("state", x.stateOf(0), BackupPower.OFF);
        CHECK.due("the other load's state", x.stateOf(1), BackupPower.SERVED);
        CHECK.due("off when OFF", x.switchLoad(0, false), BackupPower.OFF);
        CHECK.due("on when OFF", x.switchLoad(0, true), BackupPower.SHED);
        CHECK.due("on when SHED", x.switchLoad(0, true), BackupPower.SHED);
        CHECK.due("off when SHED", x.switchLoad(0, false), BackupPower.OFF);
        x.pass(3);
        CHECK.due("an OFF load stays OFF", x.stateOf(0), BackupPower.OFF);
        CHECK.index("load 2", () -> x.switchLoad(2, true));
        CHECK.index("load -1", () -> x.switchLoad(-1, false));
        CHECK.index("load far out", () -> x.switchLoad(Integer.MAX_VALUE, false));
    }

    private static void promise5ReturnsAsOthersDo() {
        BackupPower x = new BackupPower();
        x.addLoad(1, 10);
        x.addLoad(1, 20);
        x.setTimes(2, 3);
        x.switchLoad(0, false);
        x.switchLoad(1, false);
        x.switchLoad(1, true);
        x.pass(1);
        CHECK.due("returns with the mains up", x.stateOf(1), BackupPower.SERVED);
        x.switchLoad(0, true);
        CHECK.due("a load that returns has not been shed", x.pass(2), 0);
        CHECK.due("it waits for the stagger time", x.stateOf(0), BackupPower.SHED);
        x.pass(1);
        CHECK.due("and returns then", x.stateOf(0), BackupPower.SERVED);
    }

    private static void promise6SetPower() {
        BackupPower x = new BackupPower();
        x.addLoad(1, 10);
        x.addLoad(1, 20);
        CHECK.due("power before", x.setPower(0, 500), 10);
        CHECK.due("power before", x.setPower(0, 1), 500);
        CHECK.due("demand", x.demand(), 21);
        x.switchLoad(1, false);
        CHECK.due("power of an OFF load", x.setPower(1, 40), 20);
        CHECK.due("its state stays", x.stateOf(1), BackupPower.OFF);
        x.switchLoad(1, true);
        CHECK.due("power of a SHED load", x.setPower(1, 50), 40);
        CHECK.due("its state stays", x.stateOf(1), BackupPower.SHED);
        CHECK.argument("power 0", () -> x.setPower(0, 0));
        CHECK.argument("power 501", () -> x.setPower(0, 501));
        CHECK.argument("power -1", () -> x.setPower(0, -1));
        CHECK.index("load 2", () -> x.setPower(2, 10));
        CHECK.index("load -1", () -> x.setPower(-1, 10));
        CHECK.index("load 2 with a wrong power", () -> x.setPower(2, 0));
        CHECK.due("the power after refusals", x.setPower(0, 7), 1);
        CHECK.due("the other power after refusals", x.setPower(1, 8), 50);
    }

    private static void promise7Refuel() {
        BackupPower x = new BackupPower();
        x.addGenerator(100, 1, 10);
        x.addGenerator(100, 1, 1000);
        CHECK.due("into a full tank", x.refuel(0, 1000), 0);
        x.setTimes(0, 1);
        x.setMains(false);
        x.pass(5);
        CHECK.due("fuel after 4 minutes of running", x.fuelOf(0), 6);
        CHECK.due("less than is missing", x.refuel(0, 1), 1);
        CHECK.due("fuel", x.fuelOf(0), 7);
        CHECK.due("more than is missing", x.refuel(0, 4), 3);
        CHECK.due("fuel", x.fuelOf(0), 10);
        CHECK.due("the other tank", x.fuelOf(1), 996);
        CHECK.due("just what is missing", x.refuel(1, 4), 4);
        x.pass(1);
        CHECK.argument("units 0", () -> x.refuel(0, 0));
        CHECK.argument("units 1001", () -> x.refuel(0, 1001));
        CHECK.argument("units -1", () -> x.refuel(0, -1));
        CHECK.index("generator 2", () -> x.refuel(2, 1));
        CHECK.index("generator -1", () -> x.refuel(-1, 1));
        CHECK.index("generator 2 with wrong units", () -> x.refuel(2, 0));
        CHECK.due("the state stays", x.generatorState(0), BackupPower.RUNNING);
    }

    private static void promise8SetFailures() {
        BackupPower x = new BackupPower();
        x.addGenerator(100, 1, 10);
        x.addGenerator(100, 1, 10);
        CHECK.due("none at first", x.setFailures(0, 5), 0);
        CHECK.due("as set", x.setFailures(0, 2), 5);
        CHECK.due("the other's", x.setFailures(1, 0), 0);
        CHECK.argument("failures -1", () -> x.setFailures(0, -1));
        CHECK.argument("failures 6", () -> x.setFailures(0, 6));
        CHECK.index("generator 2", () -> x.setFailures(2, 1));
        CHECK.index("generator -1", () -> x.setFailures(-1, 1));
        CHECK.index("generator 2 with wrong failures", () -> x.setFailures(2, 6));
        x.setTimes(0, 1);
        x.setMains(false);
        x.pass(2);
        CHECK.due("a start has failed", x.failedStarts(0), 1);
        CHECK.due("one less to come", x.setFailures(0, 0), 1);
        x.pass(2);
        CHECK.due("the next start does not fail", x.generatorState(0), BackupPower.RUNNING);
        CHECK.due("none to come", x.setFailures(0, 1), 0);
    }

    private static void promise9SetTests() {
        BackupPower x = new BackupPower();
        x.addGenerator(100, 1, 1000);
        x.addGenerator(100, 1, 1000);
        x.pass(10);
        CHECK.due("no tests at first", x.fuelOf(0), 1000);
        CHECK.due("the period at first", x.setTests(0, 10000, 60), 0);
        CHECK.due("the period as set", x.setTests(0, 1, 1), 10000);
        CHECK.due("the other's period", x.setTests(1, 0, 1), 0);
        x.pass(1);
        CHECK.due("on test", x.generatorState(0), 11);
        CHECK.due("the other is not", x.generatorState(1), 0);
        CHECK.due("no more tests", x.setTests(0, 0, 1), 1);
        x.pass(2);
        CHECK.due("the test under way ends", x.tests(0), 1000);
        x.pass(5);
        CHECK.due("and there is no other", x.generatorState(0), 0);
        CHECK.due("none of the other either", x.tests(1), 0);
    }

    private static void promise9WrongArguments() {
        BackupPower x = new BackupPower();
        x.addGenerator(100, 1, 1000);
        x.setTests(0, 4, 2);
        CHECK.argument("period -1", () -> x.setTests(0, -1, 1));
        CHECK.argument("period 10001", () -> x.setTests(0, 10001, 1));
        CHECK.argument("minutes 0", () -> x.setTests(0, 3, 0));
        CHECK.argument("minutes 61", () -> x.setTests(0, 3, 61));
        CHECK.argument("minutes 0 with no tests", () -> x.setTests(0, 0, 0));
        CHECK.index("generator 1", () -> x.setTests(1, 3, 1));
        CHECK.index("generator -1", () -> x.setTests(-1, 3, 1));
        CHECK.index("generator 1 with a wrong period", () -> x.setTests(1, -1, 1));
        x.pass(6);
        CHECK.due("the test lasts as before the refusals", x.generatorState(0), 12);
        x.pass(1);
        CHECK.due("and ends so", x.tests(0), 1000);
        CHECK.due("the period after refusals", x.setTests(0, 1, 1), 4);
    }

    private static void promise10SetTimes() {
        BackupPower x = new BackupPower();
        CHECK.due("the start time at first", x.setTimes(0, 10), 2);
        CHECK.due("the least one", x.setTimes(30, 1), 0);
        CHECK.due("the greatest one", x.setTimes(7, 3), 30);
        CHECK.argument("start -1", () -> x.setTimes(-1, 1));
        CHECK.argument("start 31", () -> x.setTimes(31, 1));
        CHECK.argument("stagger 0", () -> x.setTimes(5, 0));
        CHECK.argument("stagger 11", () -> x.setTimes(5, 11));
        CHECK.argument("stagger -1", () -> x.setTimes(5, -1));
        CHECK.due("the start time after refusals", x.setTimes(4, 10), 7);
        x.addGenerator(10, 1, 10);
        x.setMains(false);
        x.pass(3);
        CHECK.due("not started ahead of the start time", x.generatorState(0), BackupPower.STOPPED);
        x.pass(1);
        CHECK.due("started at the start time", x.generatorState(0), BackupPower.STARTING);
    }
}
