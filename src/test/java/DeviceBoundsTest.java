/**
 * Promises 1 to 11 where the document names a bound: nothing added and as much as there may be, the
 * least and the greatest value of each argument, what it does then, and the next value, refused.
 * RefusalsTest has each refused call on sites of several sizes, and that it changes nothing.
 */
public final class DeviceBoundsTest {
    private static final Check CHECK = new Check("DeviceBoundsTest");
    private static final int SERVED = BackupPower.SERVED, SHED = BackupPower.SHED, OFF = BackupPower.OFF;

    public static void main(String[] args) {
        nothingIsAddedYet();
        firstStartTime();
        firstStaggerTime();
        tenLoads();
        threeBatteries();
        threeGenerators();
        eachKindHasItsNumbers();
        addedLoadsAndTheMains();
        addedIntoALongOutage();
        leastAndGreatestRank();
        leastAndGreatestLoad();
        leastAndGreatestCapacity();
        leastAndGreatestRate();
        leastAndGreatestCharging();
        leastAndGreatestGenerator();
        leastAndGreatestDelay();
        leastAndGreatestTank();
        switchLoadFromEachState();
        setPowerInEachState();
        refuelFullTank();
        refuelEmptyTank();
        refuelNearlyFullTank();
        leastAndGreatestFailures();
        failuresAreCountedFromNowOn();
        leastAndGreatestPeriod();
        leastAndGreatestLengthOfATest();
        leastAndGreatestStart();
        leastAndGreatestStagger();
        setMainsTellsWhatWas();
        CHECK.end();
    }

    private static void switchOffAndOn(BackupPower x, int load) {
        x.switchLoad(load, false);
        x.switchLoad(load, true);
    }

    // Promise 1: "No devices; the mains are up, the time is 0, the start time 2 and the stagger time 1."
    private static void nothingIsAddedYet() {
        BackupPower x = new BackupPower();
        CHECK.due("time", x.time(), 0);
        CHECK.due("outage", x.outage(), 0);
        CHECK.due("demand", x.demand(), 0);
        CHECK.due("minutes of batteries", x.batteryMinutes(), 1000);
        CHECK.due("from the mains", x.fromMains(), 0);
        CHECK.due("from generators", x.fromGenerators(), 0);
        CHECK.due("from batteries", x.fromBatteries(), 0);
        CHECK.due("into batteries", x.intoBatteries(), 0);
        CHECK.index("no load", () -> x.stateOf(0));
        CHECK.index("no battery", () -> x.chargeOf(0));
        CHECK.index("no generator", () -> x.generatorState(0));
        CHECK.index("no load SERVED", () -> x.shedOrder(0));
        CHECK.index("no load SHED", () -> x.returnOrder(0));
        CHECK.due("mains", x.setMains(false), true);
        CHECK.due("start time", x.setTimes(2, 1), 2);
        CHECK.due("an outage without a device", x.pass(500), 0);
        CHECK.due("its length", x.outage(), 500);
        x.setMains(true);
        CHECK.due("mains without a device", x.pass(1), 0);
        CHECK.due("sums", x.fromMains() + x.fromGenerators() + x.fromBatteries() + x.intoBatteries(), 0);
    }

    private static void firstStartTime() {
        BackupPower x = new BackupPower();
        x.addGenerator(1, 1, 1);
        x.setMains(false);
        x.pass(1);
        CHECK.due("an outage of 1", x.generatorState(0), 0);
        x.pass(1);
        CHECK.due("an outage of 2", x.generatorState(0), 1);
    }

    private static void firstStaggerTime() {
        BackupPower x = new BackupPower();
        for (int i = 0; i < 3; i++) {
            x.addLoad(1, 1);
            switchOffAndOn(x, i);
        }
        for (int i = 1; i <= 3; i++) {
            x.pass(1);
            CHECK.due("a load returns each minute", x.demand(), i);
        }
    }

    // "There are at most 10 loads"; promise 2: "Throws IllegalStateException if there are 10 loads".
    private static void tenLoads() {
        BackupPower x = new BackupPower();
        for (int i = 0; i < 10; i++) {
            int number = i;
            CHECK.index("not there yet", () -> x.stateOf(number));
            CHECK.due("number", x.addLoad(5, 500), i);
            CHECK.due("state", x.stateOf(i), SERVED);
            CHECK.due("demand", x.demand(), 500 * (i + 1));
        }
        CHECK.state("an 11th load", () -> x.addLoad(5, 500));
        CHECK.argument("an 11th load of rank 6", () -> x.addLoad(6, 500));
        CHECK.argument("an 11th load of power 501", () -> x.addLoad(5, 501));
        CHECK.index("no 11th load", () -> x.stateOf(10));
        CHECK.due("still ten", x.demand(), 5000);
        x.switchLoad(9, false);
        CHECK.state("an OFF load is a load too", () -> x.addLoad(1, 1));
        x.switchLoad(9, true);
        x.pass(1);
        CHECK.due("all ten are served", x.fromMains(), 5000);
        x.setMains(false);
        CHECK.due("all ten are shed", x.pass(1), 10);
        CHECK.state("a SHED load is a load too", () -> x.addLoad(1, 1));
        CHECK.due("the last one is dark", x.darkMinutes(9), 1);
        x.setMains(true);
        x.pass(9);
        CHECK.due("nine have returned", x.demand(), 4500);
        x.pass(1);
        CHECK.due("all ten have returned", x.demand(), 5000);
    }

    // "at most .. 3 batteries"; promise 3: "Throws IllegalStateException if there are 3 batteries".
    private static void threeBatteries() {
        BackupPower x = new BackupPower();
        for (int i = 0; i < 3; i++) {
            int number = i;
            CHECK.index("not there yet", () -> x.chargeOf(number));
            CHECK.due("number", x.addBattery(20000, 500, 500), i);
            CHECK.due("charge", x.chargeOf(i), 20000);
            x.addLoad(1, 500);
        }
        CHECK.state("a 4th battery", () -> x.addBattery(1, 1, 1));
        CHECK.argument("a 4th battery of capacity 0", () -> x.addBattery(0, 1, 1));
        CHECK.argument("a 4th battery of rate 0", () -> x.addBattery(1, 0, 1));
        CHECK.argument("a 4th battery of charging rate 0", () -> x.addBattery(1, 1, 0));
        CHECK.index("no 4th battery", () -> x.chargeOf(3));
        CHECK.due("all three serve all loads", x.batteryMinutes(), 40);
        x.setMains(false);
        CHECK.due("for 40 minutes", x.pass(40), 0);
        CHECK.due("given", x.fromBatteries(), 60000);
        for (int i = 0; i < 3; i++) {
            CHECK.due("empty", x.chargeOf(i), 0);
            CHECK.due("worn", x.capacityOf(i), 19999);
        }
        CHECK.state("an empty battery is a battery too", () -> x.addBattery(1, 1, 1));
        CHECK.due("and then all are shed", x.pass(1), 3);
        x.setMains(true);
        x.pass(1);
        CHECK.due("all three are charged", x.intoBatteries(), 1500);
    }

    // "at most .. 3 generators"; promise 4: "Throws IllegalStateException if there are 3 generators".
    private static void threeGenerators() {
        BackupPower x = Sites.outage(0, 1);
        for (int i = 0; i < 3; i++) {
            int number = i;
            CHECK.index("not there yet", () -> x.generatorState(number));
            CHECK.due("number", x.addGenerator(1000, 1, 1000), i);
            CHECK.due("fuel", x.fuelOf(i), 1000);
        }
        CHECK.state("a 4th generator", () -> x.addGenerator(1, 1, 1));
        CHECK.argument("a 4th generator of power 0", () -> x.addGenerator(0, 1, 1));
        CHECK.argument("a 4th generator of delay 0", () -> x.addGenerator(1, 0, 1));
        CHECK.argument("a 4th generator of tank 0", () -> x.addGenerator(1, 1, 0));
        CHECK.index("no 4th generator", () -> x.generatorState(3));
        for (int i = 0; i < 7; i++) {
            x.addLoad(1, 500);
        }
        x.pass(1);
        for (int i = 1; i <= 6; i++) {
            x.pass(1);
            CHECK.due("one load after the other", x.demand(), 500 * i);
        }
        CHECK.due("the sixth load needs all three", x.fuelOf(2), 1000 - 1 - 1 - 1 - 1 - 10 - 20);
        x.pass(1);
        CHECK.due("no room for the seventh", x.demand(), 3000);
        CHECK.due("given", x.fromGenerators(), 500 * 21 + 3000);
    }

    // "each kind numbered from 0 as they are added".
    private static void eachKindHasItsNumbers() {
        BackupPower x = new BackupPower();
        for (int i = 0; i < 3; i++) {
            CHECK.due("generator", x.addGenerator(10, 1, 5 + i), i);
            CHECK.due("load", x.addLoad(1, 20 + i), i);
            CHECK.due("battery", x.addBattery(30 + i, 1, 1), i);
        }
        for (int i = 0; i < 3; i++) {
            CHECK.due("fuel", x.fuelOf(i), 5 + i);
            CHECK.due("power", x.setPower(i, 1), 20 + i);
            CHECK.due("charge", x.chargeOf(i), 30 + i);
        }
    }

    // "a load that is added is SHED if the mains are down, otherwise SERVED", from the very call on.
    private static void addedLoadsAndTheMains() {
        BackupPower x = new BackupPower();
        x.addBattery(1000, 500, 1);
        x.addLoad(1, 1);
        CHECK.due("mains up", x.stateOf(0), SERVED);
        x.setMains(false);
        x.addLoad(1, 1);
        CHECK.due("mains down, no minute yet", x.stateOf(1), SHED);
        x.pass(3);
        x.addLoad(1, 1);
        CHECK.due("an outage of 3", x.stateOf(2), SHED);
        x.setMains(true);
        x.addLoad(1, 1);
        CHECK.due("mains up, no minute yet", x.stateOf(3), SERVED);
        x.setMains(false);
        x.addLoad(1, 1);
        CHECK.due("mains down again", x.stateOf(4), SHED);
        x.switchLoad(0, false);
        x.addLoad(1, 1);
        CHECK.due("SHED beside one that is OFF", x.stateOf(5), SHED);
    }

    // "It is STOPPED at first"; "charge, which is the capacity at first"; "fuel, which is full at first".
    private static void addedIntoALongOutage() {
        BackupPower x = Sites.outage(30, 1);
        x.addLoad(1, 10);
        x.pass(100);
        x.addBattery(70, 10, 10);
        x.addGenerator(10, 1, 7);
        CHECK.due("charge", x.chargeOf(0), 70);
        CHECK.due("capacity", x.capacityOf(0), 70);
        CHECK.due("generator", x.generatorState(0), 0);
        CHECK.due("fuel", x.fuelOf(0), 7);
        CHECK.due("failed starts", x.failedStarts(0), 0);
        CHECK.due("tests", x.tests(0), 0);
        x.pass(1);
        CHECK.due("the generator starts at once", x.generatorState(0), 1);
        CHECK.due("the battery lets no load return", x.stateOf(0), SHED);
        x.pass(1);
        CHECK.due("the generator does", x.stateOf(0), SERVED);
    }

    // Promise 2: "rank: 1 to 5".
    private static void leastAndGreatestRank() {
        BackupPower x = new BackupPower();
        x.addLoad(1, 500);
        x.addLoad(5, 1);
        x.addLoad(4, 499);
        CHECK.argument("rank 0", () -> x.addLoad(0, 1));
        CHECK.argument("rank 6", () -> x.addLoad(6, 1));
        CHECK.due("rank 5 is shed first", x.shedOrder(0), 1);
        CHECK.due("then rank 4", x.shedOrder(1), 2);
        CHECK.due("rank 1 is shed last", x.shedOrder(2), 0);
        CHECK.due("the number after refusals", x.addLoad(3, 1), 3);
    }

    // Promises 2 and 6: "power: 1 to 500".
    private static void leastAndGreatestLoad() {
        BackupPower x = new BackupPower();
        x.addLoad(1, 1);
        CHECK.argument("power 0", () -> x.addLoad(1, 0));
        CHECK.argument("power 501", () -> x.addLoad(1, 501));
        CHECK.due("power 1", x.demand(), 1);
        x.addLoad(1, 500);
        CHECK.due("power 500", x.demand(), 501);
        x.pass(1);
        CHECK.due("energy of 1", x.energyOf(0), 1);
        CHECK.due("energy of 500", x.energyOf(1), 500);
        CHECK.due("to 500", x.setPower(0, 500), 1);
        CHECK.due("to 1", x.setPower(1, 1), 500);
        CHECK.argument("to 0", () -> x.setPower(0, 0));
        CHECK.argument("to 501", () -> x.setPower(1, 501));
        CHECK.due("power", x.demand(), 501);
        x.pass(1);
        CHECK.due("energy of 1 and 500", x.energyOf(0), 501);
        CHECK.due("energy of 500 and 1", x.energyOf(1), 501);
    }

    // Promise 3: "capacity: 1 to 20000".
    private static void leastAndGreatestCapacity() {
        BackupPower x = new BackupPower();
        x.addLoad(1, 500);
        CHECK.argument("capacity 0", () -> x.addBattery(0, 1, 1));
        CHECK.argument("capacity 20001", () -> x.addBattery(20001, 1, 1));
        CHECK.due("the least", x.addBattery(1, 500, 1), 0);
        CHECK.due("its capacity", x.capacityOf(0), 1);
        CHECK.due("its charge", x.chargeOf(0), 1);
        CHECK.due("not enough for a minute", x.batteryMinutes(), 0);
        CHECK.due("the greatest", x.addBattery(20000, 500, 1), 1);
        CHECK.due("its capacity", x.capacityOf(1), 20000);
        CHECK.due("its charge", x.chargeOf(1), 20000);
        CHECK.due("40 minutes", x.batteryMinutes(), 40);
    }

    // Promise 3: "rate: 1 to 500": "a rate by which it can give power at most".
    private static void leastAndGreatestRate() {
        BackupPower x = new BackupPower();
        CHECK.argument("rate 0", () -> x.addBattery(1000, 0, 1));
        CHECK.argument("rate 501", () -> x.addBattery(1000, 501, 1));
        x.addBattery(1000, 1, 1);
        x.addLoad(1, 1);
        x.setMains(false);
        CHECK.due("1 of 1", x.pass(1), 0);
        CHECK.due("its charge", x.chargeOf(0), 999);
        x.setPower(0, 2);
        CHECK.due("2 of 1", x.pass(1), 1);
        BackupPower y = new BackupPower();
        y.addBattery(20000, 500, 1);
        y.addLoad(1, 500);
        y.addLoad(2, 1);
        y.setMains(false);
        CHECK.due("501 of 500", y.pass(1), 1);
        CHECK.due("500 of 500", y.chargeOf(0), 19500);
    }

    // Promise 3: "charging: 1 to 500: the charging rate".
    private static void leastAndGreatestCharging() {
        BackupPower x = new BackupPower();
        CHECK.argument("charging rate 0", () -> x.addBattery(1000, 500, 0));
        CHECK.argument("charging rate 501", () -> x.addBattery(1000, 500, 501));
        x.addBattery(2000, 500, 1);
        x.addBattery(2000, 500, 500);
        x.addLoad(1, 500);
        x.addLoad(1, 500);
        x.setMains(false);
        x.pass(2);
        x.setMains(true);
        x.pass(1);
        CHECK.due("1 a minute", x.chargeOf(0), 1001);
        CHECK.due("500 a minute", x.chargeOf(1), 1500);
        x.pass(1);
        CHECK.due("1 a minute", x.chargeOf(0), 1002);
        CHECK.due("500 a minute, and full", x.chargeOf(1), 2000);
    }

    // Promise 4: "power: 1 to 1000".
    private static void leastAndGreatestGenerator() {
        BackupPower x = Sites.outage(0, 1);
        CHECK.argument("power 0", () -> x.addGenerator(0, 1, 1));
        CHECK.argument("power 1001", () -> x.addGenerator(1001, 1, 1));
        x.addGenerator(1, 1, 10);
        x.addLoad(1, 2);
        x.pass(2);
        CHECK.due("2 of 1", x.demand(), 0);
        x.setPower(0, 1);
        x.pass(1);
        CHECK.due("1 of 1", x.fromGenerators(), 1);
        BackupPower y = Sites.outage(0, 1);
        y.addGenerator(1000, 1, 1000);
        y.addLoad(1, 500);
        y.addLoad(1, 500);
        y.addLoad(2, 1);
        y.pass(4);
        CHECK.due("1001 of 1000", y.demand(), 1000);
        CHECK.due("the second minute gives all it has", y.fuelOf(0), 1000 - 10 - 20 - 20);
    }

    // Promise 4: "delay: 1 to 10 minutes".
    private static void leastAndGreatestDelay() {
        BackupPower x = Sites.outage(0, 1);
        CHECK.argument("delay 0", () -> x.addGenerator(1, 0, 1));
        CHECK.argument("delay 11", () -> x.addGenerator(1, 11, 1));
        x.addGenerator(1, 1, 100);
        x.addGenerator(1, 10, 100);
        x.pass(1);
        CHECK.due("delay 1 begins", x.generatorState(0), 1);
        CHECK.due("delay 10 begins", x.generatorState(1), 1);
        x.pass(1);
        CHECK.due("delay 1 is over", x.generatorState(0), 2);
        x.pass(8);
        CHECK.due("a minute ahead of the end", x.generatorState(1), 1);
        x.pass(1);
        CHECK.due("delay 10 is over", x.generatorState(1), 2);
        CHECK.due("10 minutes of running", x.fuelOf(0), 90);
        CHECK.due("1 minute of running", x.fuelOf(1), 99);
    }

    // Promise 4: "tank: 1 to 1000 units of fuel".
    private static void leastAndGreatestTank() {
        BackupPower x = Sites.outage(0, 1);
        CHECK.argument("tank 0", () -> x.addGenerator(1, 1, 0));
        CHECK.argument("tank 1001", () -> x.addGenerator(1, 1, 1001));
        x.addGenerator(1, 1, 1);
        x.addGenerator(1, 1, 1000);
        CHECK.due("the least", x.fuelOf(0), 1);
        CHECK.due("the greatest", x.fuelOf(1), 1000);
        x.pass(2);
        CHECK.due("empty after a minute", x.generatorState(0), 0);
        x.pass(500);
        x.pass(498);
        CHECK.due("one unit is left", x.fuelOf(1), 1);
        CHECK.due("and it runs", x.generatorState(1), 2);
        x.pass(1);
        CHECK.due("empty after 1000 minutes", x.fuelOf(1), 0);
        CHECK.due("and stopped", x.generatorState(1), 0);
    }

    // Promise 5: "One that is OFF and is switched on is SHED"; "Returns its state then."
    private static void switchLoadFromEachState() {
        BackupPower x = new BackupPower();
        x.addLoad(1, 10);
        CHECK.due("SERVED, on", x.switchLoad(0, true), SERVED);
        CHECK.due("SERVED, off", x.switchLoad(0, false), OFF);
        CHECK.due("OFF, off", x.switchLoad(0, false), OFF);
        CHECK.due("OFF, on", x.switchLoad(0, true), SHED);
        CHECK.due("SHED, on", x.switchLoad(0, true), SHED);
        CHECK.due("SHED, off", x.switchLoad(0, false), OFF);
        CHECK.due("the state that is told", x.stateOf(0), OFF);
        CHECK.index("the next load", () -> x.switchLoad(1, true));
        CHECK.index("load -1", () -> x.switchLoad(-1, true));
        for (int i = 1; i < 10; i++) {
            x.addLoad(1, 10);
        }
        CHECK.due("the last load", x.switchLoad(9, false), OFF);
        CHECK.index("the 11th load", () -> x.switchLoad(10, true));
    }

    // Promise 6: "Changes the power of a load, whatever its state."
    private static void setPowerInEachState() {
        BackupPower x = new BackupPower();
        x.addLoad(1, 10);
        x.addLoad(1, 10);
        x.addLoad(1, 10);
        x.switchLoad(1, false);
        switchOffAndOn(x, 2);
        CHECK.due("SERVED", x.setPower(0, 500), 10);
        CHECK.due("OFF", x.setPower(1, 500), 10);
        CHECK.due("SHED", x.setPower(2, 500), 10);
        CHECK.due("only the SERVED one counts", x.demand(), 500);
        CHECK.due("OFF stays", x.stateOf(1), OFF);
        CHECK.due("SHED stays", x.stateOf(2), SHED);
        CHECK.due("the same power again", x.setPower(0, 500), 500);
        CHECK.index("the next load", () -> x.setPower(3, 1));
        CHECK.index("the next load with power 0", () -> x.setPower(3, 0));
        CHECK.due("the last one", x.setPower(2, 1), 500);
    }

    // Promise 7: "Returns how much goes into the tank, until it is full."
    private static void refuelFullTank() {
        BackupPower x = new BackupPower();
        x.addGenerator(1, 1, 1);
        x.addGenerator(1, 1, 1000);
        CHECK.argument("0 units", () -> x.refuel(0, 0));
        CHECK.argument("1001 units", () -> x.refuel(1, 1001));
        CHECK.due("1 unit into a full tank of 1", x.refuel(0, 1), 0);
        CHECK.due("1000 units into a full tank of 1", x.refuel(0, 1000), 0);
        CHECK.due("1 unit into a full tank of 1000", x.refuel(1, 1), 0);
        CHECK.due("1000 units into a full tank of 1000", x.refuel(1, 1000), 0);
        CHECK.due("no more than the tank holds", x.fuelOf(0), 1);
        CHECK.due("no more than the tank holds", x.fuelOf(1), 1000);
    }

    private static void refuelEmptyTank() {
        BackupPower x = Sites.outage(0, 1);
        x.addGenerator(1, 1, 1);
        x.addGenerator(1, 1, 1000);
        x.pass(500);
        x.pass(500);
        x.pass(1);
        x.setMains(true);
        CHECK.due("both are empty", x.fuelOf(0) + x.fuelOf(1), 0);
        CHECK.due("1000 units into a tank of 1", x.refuel(0, 1000), 1);
        CHECK.due("it is full", x.refuel(0, 1), 0);
        CHECK.due("the least", x.refuel(1, 1), 1);
        CHECK.due("fuel", x.fuelOf(1), 1);
        CHECK.due("the greatest", x.refuel(1, 1000), 999);
        CHECK.due("fuel", x.fuelOf(1), 1000);
        CHECK.index("the next generator", () -> x.refuel(2, 1));
        CHECK.index("the next generator with 0 units", () -> x.refuel(2, 0));
    }

    private static void refuelNearlyFullTank() {
        for (int units = 1; units <= 6; units++) {
            BackupPower x = Sites.outage(0, 1);
            x.addGenerator(1, 1, 10);
            x.pass(6);
            CHECK.due("5 are missing", x.fuelOf(0), 5);
            CHECK.due(units + " units", x.refuel(0, units), units > 5 ? 5 : units);
            CHECK.due("fuel", x.fuelOf(0), units > 5 ? 10 : 5 + units);
        }
    }

    // Promise 8: "failures: 0 to 5"; "how many of the next starts of a generator fail from now on".
    private static void leastAndGreatestFailures() {
        for (int failures = 0; failures <= 5; failures++) {
            BackupPower x = Sites.outage(0, 1);
            x.addGenerator(1, 1, 100);
            CHECK.argument("failures -1", () -> x.setFailures(0, -1));
            CHECK.argument("failures 6", () -> x.setFailures(0, 6));
            CHECK.due("none at first", x.setFailures(0, failures), 0);
            for (int i = 1; i <= failures; i++) {
                x.pass(1);
                CHECK.due("the next start", x.generatorState(0), 1);
                x.pass(1);
                CHECK.due("fails", x.generatorState(0), 0);
                CHECK.due("how often", x.failedStarts(0), i);
            }
            x.pass(2);
            CHECK.due("the one after " + failures, x.generatorState(0), 2);
            CHECK.due("failed starts", x.failedStarts(0), failures);
            CHECK.due("none to come", x.setFailures(0, 5), 0);
            CHECK.due("five to come", x.setFailures(0, 0), 5);
        }
    }

    private static void failuresAreCountedFromNowOn() {
        BackupPower x = Sites.outage(0, 1);
        x.addGenerator(1, 2, 100);
        x.setFailures(0, 1);
        x.pass(2);
        CHECK.due("none ahead of the end of a start", x.setFailures(0, 0), 1);
        x.pass(1);
        CHECK.due("this start is good", x.generatorState(0), 2);
        x.setFailures(0, 1);
        x.pass(5);
        CHECK.due("one that runs does not fail", x.generatorState(0), 2);
        x.setMains(true);
        x.pass(1);
        x.setMains(false);
        x.pass(3);
        CHECK.due("its next start does", x.failedStarts(0), 1);
        CHECK.index("the next generator", () -> x.setFailures(1, 0));
        CHECK.index("the next generator with 6", () -> x.setFailures(1, 6));
    }

    // Promise 9: "period: 1 to 10000; 0 for no tests".
    private static void leastAndGreatestPeriod() {
        BackupPower x = new BackupPower();
        for (int i = 0; i < 3; i++) {
            x.addGenerator(1, 1, 1000);
        }
        CHECK.argument("period -1", () -> x.setTests(0, -1, 1));
        CHECK.argument("period 10001", () -> x.setTests(0, 10001, 1));
        CHECK.due("none at first", x.setTests(0, 0, 1), 0);
        CHECK.due("none at first", x.setTests(1, 1, 1), 0);
        CHECK.due("none at first", x.setTests(2, 10000, 1), 0);
        x.pass(1);
        CHECK.due("period 1 in the first minute", x.generatorState(1), 11);
        for (int i = 0; i < 19; i++) {
            x.pass(500);
        }
        x.pass(498);
        CHECK.due("period 10000 at 9999", x.generatorState(2), 0);
        x.pass(1);
        CHECK.due("period 10000 at 10000", x.generatorState(2), 11);
        x.pass(2);
        CHECK.due("no test with period 0", x.fuelOf(0), 1000);
        CHECK.due("the one test with period 10000", x.tests(2), 1000);
        CHECK.due("period 1 until the tank was empty", x.tests(1), 999001);
        CHECK.due("period 0 before", x.setTests(0, 10000, 1), 0);
        CHECK.due("period 1 before", x.setTests(1, 0, 1), 1);
        CHECK.due("period 10000 before", x.setTests(2, 1, 1), 10000);
        CHECK.index("the next generator", () -> x.setTests(3, 1, 1));
        CHECK.index("the next generator with period -1", () -> x.setTests(3, -1, 1));
        CHECK.index("the next generator with length 0", () -> x.setTests(3, 1, 0));
    }

    // Promise 9: "minutes: 1 to 60: how long a test lasts".
    private static void leastAndGreatestLengthOfATest() {
        BackupPower x = new BackupPower();
        x.addGenerator(1, 1, 1000);
        x.addGenerator(1, 1, 1000);
        CHECK.argument("length 0", () -> x.setTests(0, 1, 0));
        CHECK.argument("length 61", () -> x.setTests(0, 1, 61));
        CHECK.argument("length 0 of no tests", () -> x.setTests(0, 0, 0));
        CHECK.argument("length 61 of no tests", () -> x.setTests(0, 0, 61));
        x.setTests(0, 500, 1);
        x.setTests(1, 500, 60);
        x.pass(500);
        x.pass(1);
        CHECK.due("the one minute", x.generatorState(0), 12);
        x.pass(1);
        CHECK.due("is over", x.tests(0), 1000);
        x.pass(58);
        CHECK.due("the last of 60 minutes", x.generatorState(1), 12);
        x.pass(1);
        CHECK.due("is over", x.tests(1), 1000);
        CHECK.due("stopped", x.generatorState(1), 0);
        CHECK.due("fuel for 1", x.fuelOf(0), 999);
        CHECK.due("fuel for 60", x.fuelOf(1), 940);
    }

    // Promise 10: "start: 0 to 30: how long an outage is before generators start".
    private static void leastAndGreatestStart() {
        for (int start = 0; start <= 30; start++) {
            BackupPower x = new BackupPower();
            CHECK.argument("start time -1", () -> x.setTimes(-1, 1));
            CHECK.argument("start time 31", () -> x.setTimes(31, 1));
            CHECK.due("2 at first", x.setTimes(start, 1), 2);
            x.addGenerator(1, 1, 1);
            x.setMains(false);
            if (start > 1) {
                x.pass(start - 1);
                CHECK.due("a minute ahead of " + start, x.generatorState(0), 0);
            }
            x.pass(1);
            CHECK.due("an outage of " + start, x.generatorState(0), 1);
            CHECK.due("its length", x.outage(), start == 0 ? 1 : start);
            CHECK.due("the start time before", x.setTimes(0, 1), start);
        }
    }

    // Promise 10: "stagger: 1 to 10".
    private static void leastAndGreatestStagger() {
        for (int stagger = 1; stagger <= 10; stagger++) {
            BackupPower x = new BackupPower();
            CHECK.argument("stagger time 0", () -> x.setTimes(2, 0));
            CHECK.argument("stagger time 11", () -> x.setTimes(2, 11));
            CHECK.argument("stagger time 0, start time 31", () -> x.setTimes(31, 0));
            x.setTimes(2, stagger);
            x.addLoad(1, 1);
            x.addLoad(1, 2);
            switchOffAndOn(x, 0);
            switchOffAndOn(x, 1);
            x.pass(1);
            CHECK.due("there was no return", x.demand(), 1);
            if (stagger > 1) {
                x.pass(stagger - 1);
                CHECK.due("a minute ahead of " + stagger, x.demand(), 1);
            }
            x.pass(1);
            CHECK.due("stagger time " + stagger, x.demand(), 3);
        }
    }

    // Promise 11: "Returns whether they were up before."
    private static void setMainsTellsWhatWas() {
        BackupPower x = new BackupPower();
        CHECK.due("up at first", x.setMains(true), true);
        CHECK.due("up, as set", x.setMains(false), true);
        CHECK.due("down", x.setMains(false), false);
        CHECK.due("down, as set", x.setMains(true), false);
        CHECK.due("up", x.setMains(true), true);
        CHECK.due("no minute has passed", x.time(), 0);
    }
}
