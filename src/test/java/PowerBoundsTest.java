/**
 * Steps 2 to 6 of a minute and promises 12 to 20 and 23 to 29 where the document names a bound: power
 * that is just enough and one unit too little, batteries that are full or empty, the last place of an
 * order and the next one, the greatest sums.
 */
public final class PowerBoundsTest {
    private static final Check CHECK = new Check("PowerBoundsTest");
    private static final int SERVED = BackupPower.SERVED, SHED = BackupPower.SHED;
    // Ten loads, in an order of their own when they are shed.
    private static final int[] RANKS = {3, 2, 4, 2, 5, 3, 1, 4, 3, 5};
    private static final int[] POWERS = {50, 90, 70, 80, 10, 60, 500, 69, 51, 9};

    public static void main(String[] args) {
        leastAndGreatestPass();
        outageFromItsFirstMinute();
        justEnoughIsNotShed();
        noMoreIsShedThanNeeded();
        batteriesAtRateAndCharge();
        nothingIsShedWithTheMainsUp();
        sheddingCountsGeneratorsAtOnce();
        placesOfTheOrderOfShedding();
        placesOfTheOrderOfReturning();
        ordersByPowerAndNumber();
        returnsUpToWhatGeneratorsGive();
        returnsWithTheMainsUpWhateverThePower();
        lessPowerBehindTheFirstDoesNotReturn();
        noReturnInTheMinuteOfAShedding();
        staggerFromTheLatestReturn();
        generatorsGiveAtMostTheirPower();
        batteriesGiveAtMostRateAndCharge();
        fullBatteryGetsNothing();
        missingChargeIsTheMost();
        generatorsLeaveNothingOrLittle();
        chargingCountsForFuel();
        chargingGoesByRisingNumbers();
        mainsServeAndChargeAlone();
        emptiedBatteryIsWorn();
        batteryThatWasEmptyIsNotWorn();
        capacityStaysAtLeastOne();
        numbersOfBatteries();
        numbersOfLoads();
        forecastOfNothing();
        forecastUpTo1000();
        forecastOfJustEnough();
        energyAndDarkMinutesFromTheFirstMinute();
        theLastCallsOfAll();
        CHECK.end();
    }

    private static void shedPlaces(String what, BackupPower x, int... want) {
        for (int i = 0; i < want.length; i++) {
            CHECK.due(what + ", shedOrder(" + i + ")", x.shedOrder(i), want[i]);
        }
        CHECK.index(what + ", behind the last one", () -> x.shedOrder(want.length));
        CHECK.index(what + ", ahead of the first one", () -> x.shedOrder(-1));
    }

    private static void returnPlaces(String what, BackupPower x, int... want) {
        for (int i = 0; i < want.length; i++) {
            CHECK.due(what + ", returnOrder(" + i + ")", x.returnOrder(i), want[i]);
        }
        CHECK.index(what + ", behind the last one", () -> x.returnOrder(want.length));
        CHECK.index(what + ", ahead of the first one", () -> x.returnOrder(-1));
    }

    // Promise 12: "minutes: 1 to 500"; "how often a load became SHED in them".
    private static void leastAndGreatestPass() {
        BackupPower x = Sites.withLoads(1, 100);
        CHECK.argument("0 minutes", () -> x.pass(0));
        CHECK.argument("501 minutes", () -> x.pass(501));
        CHECK.argument("-1 minute", () -> x.pass(-1));
        CHECK.due("the least", x.pass(1), 0);
        CHECK.due("time", x.time(), 1);
        CHECK.due("the greatest", x.pass(500), 0);
        CHECK.due("time", x.time(), 501);
        BackupPower y = Sites.outage(0, 1);
        y.addLoad(1, 50);
        y.addGenerator(50, 1, 2);
        CHECK.due("one that is SHED from the first did not become so", y.pass(2), 0);
        CHECK.due("one that is shed as the tank is empty did", y.pass(500), 1);
        CHECK.due("it was served for two minutes", y.energyOf(0), 100);
        CHECK.due("and dark in all others", y.darkMinutes(0), 500);
        BackupPower z = Sites.withLoads(1, 1, 2, 1, 3, 1, 4, 1, 5, 1, 1, 1, 2, 1, 3, 1, 4, 1, 5, 1);
        z.setMains(false);
        CHECK.due("ten in one minute", z.pass(1), 10);
        CHECK.due("none is left", z.pass(500), 0);
    }

    // Promise 14: "0 if the mains were up in the latest minute".
    private static void outageFromItsFirstMinute() {
        BackupPower x = new BackupPower();
        x.setMains(false);
        CHECK.due("no minute yet", x.outage(), 0);
        x.pass(1);
        CHECK.due("the first minute", x.outage(), 1);
        x.pass(500);
        CHECK.due("the last one", x.outage(), 501);
        x.setMains(true);
        CHECK.due("no minute with the mains up yet", x.outage(), 501);
        x.setMains(false);
        x.pass(1);
        CHECK.due("so that the outage goes on", x.outage(), 502);
        x.setMains(true);
        x.pass(1);
        CHECK.due("one minute with the mains up", x.outage(), 0);
        CHECK.due("time", x.time(), 503);
    }

    // Step 2: "As long as the loads that are SERVED have more power, together, than both".
    private static void justEnoughIsNotShed() {
        for (int power = 79; power <= 82; power++) {
            BackupPower x = Sites.withLoads(1, power);
            x.addBattery(1000, 30, 1);
            x.addBattery(1000, 50, 1);
            x.setMains(false);
            CHECK.due(power + " of 80", x.pass(1), power > 80 ? 1 : 0);
            CHECK.due("given for " + power, x.fromBatteries(), power > 80 ? 0 : power);
            CHECK.due("the state with " + power, x.stateOf(0), power > 80 ? SHED : SERVED);
        }
    }

    private static void noMoreIsShedThanNeeded() {
        int[] ratesOfBattery = {100, 99, 60, 59, 30, 29, 10, 9};
        int[] shed = {0, 1, 1, 2, 2, 3, 3, 4};
        for (int i = 0; i < ratesOfBattery.length; i++) {
            BackupPower x = Sites.withLoads(1, 10, 2, 20, 3, 30, 4, 40);
            x.addBattery(1000, ratesOfBattery[i], 1);
            x.setMains(false);
            CHECK.due("100 of " + ratesOfBattery[i], x.pass(1), shed[i]);
        }
    }

    // "the sum, over all, of the lesser of rate and charge".
    private static void batteriesAtRateAndCharge() {
        int[][] capacitiesRatesAndShed = {{50, 50, 0}, {49, 50, 1}, {50, 49, 1}, {51, 50, 0}, {50, 51, 0}};
        for (int[] row : capacitiesRatesAndShed) {
            BackupPower x = Sites.withLoads(1, 50);
            x.addBattery(row[0], row[1], 1);
            x.setMains(false);
            CHECK.due("50 of capacity " + row[0] + ", rate " + row[1], x.pass(1), row[2]);
            CHECK.due("its charge", x.chargeOf(0), row[2] == 1 ? row[0] : row[0] - 50);
        }
        BackupPower x = Sites.withLoads(1, 50);
        x.addBattery(50, 50, 1);
        x.addBattery(1000, 49, 1);
        x.setMains(false);
        CHECK.due("the first one is emptied", x.pass(1), 0);
        CHECK.due("empty", x.chargeOf(0), 0);
        CHECK.due("an empty one gives nothing to 50 of 49", x.pass(1), 1);
    }

    // "Shedding, if the mains are down."
    private static void nothingIsShedWithTheMainsUp() {
        BackupPower x = Sites.withLoads(1, 500, 1, 500);
        CHECK.due("no battery, no generator", x.pass(500), 0);
        x.setMains(false);
        x.setMains(true);
        CHECK.due("mains that were down for no minute", x.pass(1), 0);
        CHECK.due("both are SERVED", x.demand(), 1000);
    }

    // "those that are RUNNING and not on test": from the minute in which one becomes so.
    private static void sheddingCountsGeneratorsAtOnce() {
        BackupPower x = Sites.withLoads(1, 60);
        x.addBattery(120, 60, 1);
        x.addGenerator(60, 2, 100);
        x.setTimes(0, 1);
        x.setMains(false);
        CHECK.due("the battery lasts until the generator runs", x.pass(3), 0);
        CHECK.due("it is empty", x.chargeOf(0), 0);
        CHECK.due("the generator has given", x.fromGenerators(), 60);
        BackupPower y = Sites.withLoads(1, 60);
        y.addBattery(119, 60, 1);
        y.addGenerator(60, 2, 100);
        y.setTimes(0, 1);
        y.setMains(false);
        CHECK.due("one unit too little", y.pass(2), 1);
        y.pass(1);
        CHECK.due("it returns as the generator runs", y.stateOf(0), SERVED);
    }

    // Promise 17: "place: 0 for the first one"; "if there is no such place".
    private static void placesOfTheOrderOfShedding() {
        BackupPower x = new BackupPower();
        shedPlaces("no load", x);
        int[][] orders = {
            {0}, {0, 1}, {2, 0, 1}, {2, 0, 1, 3}, {4, 2, 0, 1, 3}, {4, 2, 5, 0, 1, 3}, {4, 2, 5, 0, 1, 3, 6},
            {4, 2, 7, 5, 0, 1, 3, 6}, {4, 2, 7, 5, 8, 0, 1, 3, 6}, {4, 9, 2, 7, 5, 8, 0, 1, 3, 6},
        };
        for (int i = 0; i < 10; i++) {
            x.addLoad(RANKS[i], POWERS[i]);
            shedPlaces((i + 1) + " loads", x, orders[i]);
            returnPlaces("none SHED of " + (i + 1), x);
        }
        x.switchLoad(4, false);
        shedPlaces("one is OFF", x, 9, 2, 7, 5, 8, 0, 1, 3, 6);
        x.switchLoad(4, true);
        shedPlaces("one is SHED", x, 9, 2, 7, 5, 8, 0, 1, 3, 6);
        for (int i = 0; i < 10; i++) {
            x.switchLoad(i, false);
        }
        shedPlaces("all are OFF", x);
    }

    // Promise 18: "place: 0 for the first one"; "if there is no such place".
    private static void placesOfTheOrderOfReturning() {
        BackupPower x = Sites.outage(30, 1);
        returnPlaces("no load", x);
        int[][] orders = {
            {0}, {1, 0}, {1, 0, 2}, {3, 1, 0, 2}, {3, 1, 0, 2, 4}, {3, 1, 0, 5, 2, 4}, {6, 3, 1, 0, 5, 2, 4},
            {6, 3, 1, 0, 5, 7, 2, 4}, {6, 3, 1, 0, 8, 5, 7, 2, 4}, {6, 3, 1, 0, 8, 5, 7, 2, 9, 4},
        };
        for (int i = 0; i < 10; i++) {
            x.addLoad(RANKS[i], POWERS[i]);
            returnPlaces((i + 1) + " loads", x, orders[i]);
            shedPlaces("none SERVED of " + (i + 1), x);
        }
        x.switchLoad(6, false);
        returnPlaces("one is OFF", x, 3, 1, 0, 8, 5, 7, 2, 9, 4);
        x.setMains(true);
        x.pass(1);
        returnPlaces("one is SERVED", x, 1, 0, 8, 5, 7, 2, 9, 4);
        shedPlaces("the one that is SERVED", x, 3);
        x.pass(8);
        returnPlaces("all are SERVED or OFF", x);
    }

    // "of several that with the greatest power, then that with the greatest number", and the opposite.
    private static void ordersByPowerAndNumber() {
        BackupPower x = Sites.withLoads(2, 20, 2, 21, 2, 20, 2, 19, 2, 20);
        shedPlaces("one rank", x, 1, 4, 2, 0, 3);
        x.setMains(false);
        CHECK.due("all are shed", x.pass(1), 5);
        returnPlaces("one rank", x, 3, 0, 2, 4, 1);
        x.setPower(3, 20);
        returnPlaces("four of one power", x, 0, 2, 3, 4, 1);
        x.setPower(1, 1);
        returnPlaces("the least power", x, 1, 0, 2, 3, 4);
        x.addLoad(1, 500);
        returnPlaces("a lesser rank and the greatest power", x, 5, 1, 0, 2, 3, 4);
    }

    // Step 3: "if the loads that are SERVED and it have no more power, together, than what generators can give".
    private static void returnsUpToWhatGeneratorsGive() {
        for (int power = 39; power <= 42; power++) {
            BackupPower x = Sites.outage(0, 1);
            x.addGenerator(70, 1, 100);
            x.addGenerator(30, 1, 100);
            x.addBattery(1000, 500, 1);
            x.addLoad(1, 60);
            x.addLoad(2, power);
            x.pass(2);
            CHECK.due("the first one", x.demand(), 60);
            x.pass(1);
            CHECK.due(power + " of the 40 that are left", x.stateOf(1), power > 40 ? SHED : SERVED);
            x.pass(5);
            CHECK.due("and so it stays", x.stateOf(1), power > 40 ? SHED : SERVED);
            CHECK.due("the battery gives nothing", x.fromBatteries(), 0);
        }
    }

    // "It becomes SERVED if the mains are up".
    private static void returnsWithTheMainsUpWhateverThePower() {
        BackupPower x = Sites.outage(30, 1);
        for (int i = 0; i < 10; i++) {
            x.addLoad(5, 500);
        }
        x.pass(1);
        CHECK.due("none returns in the outage", x.demand(), 0);
        x.setMains(true);
        for (int i = 1; i <= 10; i++) {
            x.pass(1);
            CHECK.due("one a minute", x.demand(), 500 * i);
        }
        x.pass(1);
        CHECK.due("and no more than there are", x.demand(), 5000);
    }

    // "the first of the loads that are SHED is looked at": no other one.
    private static void lessPowerBehindTheFirstDoesNotReturn() {
        BackupPower x = Sites.outage(0, 1);
        x.addGenerator(10, 1, 100);
        x.addLoad(1, 11);
        x.addLoad(2, 1);
        x.pass(20);
        CHECK.due("the second one waits", x.demand(), 0);
        x.setPower(0, 10);
        x.pass(1);
        CHECK.due("the first one returns", x.stateOf(0), SERVED);
        x.pass(20);
        CHECK.due("and there is nothing for the second one", x.stateOf(1), SHED);
        x.setPower(0, 9);
        x.pass(1);
        CHECK.due("until there is", x.stateOf(1), SERVED);
    }

    // "and no load was shed in this minute".
    private static void noReturnInTheMinuteOfAShedding() {
        BackupPower x = Sites.outage(0, 1);
        x.addGenerator(50, 1, 100);
        x.addLoad(5, 50);
        x.pass(2);
        CHECK.due("one is SERVED", x.demand(), 50);
        x.addLoad(1, 10);
        x.setPower(0, 51);
        CHECK.due("it is shed", x.pass(1), 1);
        CHECK.due("and the other one does not return yet", x.demand(), 0);
        CHECK.due("none is shed", x.pass(1), 0);
        CHECK.due("and it returns", x.demand(), 10);
    }

    // "the latest return of a load was at least as many minutes ago as the stagger time tells".
    private static void staggerFromTheLatestReturn() {
        BackupPower x = Sites.withLoads(1, 1, 1, 2, 1, 3);
        x.setTimes(2, 10);
        x.pass(40);
        for (int i = 0; i < 3; i++) {
            x.switchLoad(i, false);
            x.switchLoad(i, true);
        }
        x.pass(1);
        CHECK.due("a switch is no return", x.demand(), 1);
        x.switchLoad(0, false);
        x.pass(9);
        CHECK.due("9 minutes, though that load is OFF", x.demand(), 0);
        x.pass(1);
        CHECK.due("10 minutes", x.demand(), 2);
        x.pass(4);
        x.setTimes(2, 6);
        x.pass(1);
        CHECK.due("5 minutes of 6", x.demand(), 2);
        x.pass(1);
        CHECK.due("6 minutes of 6", x.demand(), 5);
        x.switchLoad(0, true);
        x.setTimes(2, 1);
        x.pass(1);
        CHECK.due("1 minute of 1", x.demand(), 6);
    }

    // Step 4: "by rising numbers, each as much as its power at most".
    private static void generatorsGiveAtMostTheirPower() {
        int[][] powersAndFuel = {
            {50, 1, 1, 1}, {51, 2, 1, 1}, {100, 2, 1, 1}, {101, 2, 1, 1}, {150, 2, 1, 1}, {151, 2, 2, 1},
            {200, 2, 2, 1}, {250, 2, 2, 1}, {251, 2, 2, 2}, {300, 2, 2, 2},
        };
        for (int[] row : powersAndFuel) {
            BackupPower x = Sites.outage(0, 1);
            for (int i = 0; i < 3; i++) {
                x.addGenerator(100, 1, 50);
            }
            x.addLoad(1, row[0]);
            x.pass(2);
            CHECK.due("given", x.fromGenerators(), row[0]);
            for (int i = 0; i < 3; i++) {
                CHECK.due(row[0] + " from 100 each, generator " + i, 50 - x.fuelOf(i), row[1 + i]);
            }
        }
    }

    // "then batteries, by rising numbers, each as much as the lesser of its rate and its charge".
    private static void batteriesGiveAtMostRateAndCharge() {
        int[][] powersAndCharges = {
            {1, 99, 25, 100}, {40, 60, 25, 100}, {41, 60, 24, 100}, {65, 60, 0, 100}, {66, 60, 0, 99},
            {95, 60, 0, 70},
        };
        for (int[] row : powersAndCharges) {
            BackupPower x = Sites.withLoads(1, row[0]);
            x.addBattery(100, 40, 1);
            x.addBattery(25, 40, 1);
            x.addBattery(100, 30, 1);
            x.setMains(false);
            CHECK.due(row[0] + " of 95", x.pass(1), 0);
            CHECK.due(row[0] + ", battery 0", x.chargeOf(0), row[1]);
            CHECK.due(row[0] + ", battery 1", x.chargeOf(1), row[2]);
            CHECK.due(row[0] + ", battery 2", x.chargeOf(2), row[3]);
            CHECK.due("given", x.fromBatteries(), row[0]);
        }
    }

    // Step 5: "the lesser of its charging rate and what is missing to its capacity".
    private static void fullBatteryGetsNothing() {
        BackupPower x = Sites.withLoads(1, 10);
        x.addBattery(1, 1, 500);
        x.addBattery(20000, 500, 500);
        x.pass(3);
        CHECK.due("full from the first", x.intoBatteries(), 0);
        CHECK.due("the least one", x.chargeOf(0), 1);
        CHECK.due("the greatest one", x.chargeOf(1), 20000);
        BackupPower y = Sites.outage(0, 1);
        y.addBattery(100, 1, 500);
        y.addGenerator(1000, 1, 100);
        y.pass(5);
        CHECK.due("full in an outage", y.intoBatteries(), 0);
        CHECK.due("a unit a minute for nothing", y.fuelOf(0), 96);
    }

    private static void missingChargeIsTheMost() {
        for (int missing = 1; missing <= 5; missing++) {
            BackupPower x = Sites.withLoads(1, missing);
            x.addBattery(100, 10, 3);
            x.setMains(false);
            x.pass(1);
            x.setMains(true);
            x.pass(1);
            int got = missing > 3 ? 3 : missing;
            CHECK.due(missing + " missing of a charging rate of 3", x.intoBatteries(), got);
            CHECK.due("the charge", x.chargeOf(0), 100 - missing + got);
            x.pass(1);
            CHECK.due("full a minute later", x.chargeOf(0), 100);
            x.pass(5);
            CHECK.due("and it gets no more", x.intoBatteries(), missing);
        }
    }

    // "what generators .. have left, together, goes to batteries, .. but not more than is left".
    private static void generatorsLeaveNothingOrLittle() {
        int[][] powersAndCharges = {
            {100, 900, 900}, {99, 901, 900}, {91, 909, 900}, {90, 910, 900}, {89, 910, 901}, {80, 910, 910},
            {79, 910, 910}, {1, 910, 910},
        };
        for (int[] row : powersAndCharges) {
            BackupPower x = Sites.withLoads(1, 200);
            x.addBattery(1000, 100, 10);
            x.addBattery(1000, 100, 10);
            x.addGenerator(60, 1, 1000);
            x.addGenerator(40, 1, 1000);
            x.setTimes(0, 1);
            x.setMains(false);
            x.pass(1);
            x.setPower(0, row[0]);
            x.pass(1);
            CHECK.due(row[0] + " of 100, battery 0", x.chargeOf(0), row[1]);
            CHECK.due(row[0] + " of 100, battery 1", x.chargeOf(1), row[2]);
            CHECK.due("together", x.intoBatteries(), row[1] + row[2] - 1800);
            CHECK.due("for the load", x.fromGenerators(), row[0]);
        }
    }

    // "generators give it by rising numbers as well"; step 6: "for loads or charging".
    private static void chargingCountsForFuel() {
        int[][] powersRatesAndFuel = {
            {0, 49, 1}, {0, 50, 1}, {0, 51, 2}, {0, 500, 10}, {30, 20, 1}, {30, 21, 2}, {50, 1, 2}, {60, 40, 2},
            {60, 41, 3}, {500, 500, 20},
        };
        for (int[] row : powersRatesAndFuel) {
            BackupPower x = Sites.withLoads(1, 500);
            x.addBattery(10000, 500, row[1]);
            x.addGenerator(1000, 1, 1000);
            x.setTimes(5, 1);
            x.setMains(false);
            x.pass(5);
            int charge = x.chargeOf(0);
            if (row[0] > 0) {
                x.setPower(0, row[0]);
            } else {
                x.switchLoad(0, false);
            }
            x.pass(1);
            CHECK.due("charged beside " + row[0], x.chargeOf(0) - charge, row[1]);
            CHECK.due("fuel for " + row[0] + " and " + row[1], 1000 - x.fuelOf(0), row[2]);
            x.pass(1);
            CHECK.due("twice that, for charging", x.intoBatteries(), 2 * row[1]);
            CHECK.due("twice that, for the load", x.fromGenerators(), 2 * row[0]);
            CHECK.due("twice the fuel", 1000 - x.fuelOf(0), 2 * row[2]);
        }
    }

    private static void chargingGoesByRisingNumbers() {
        int[][] ratesAndFuel = {{40, 1, 1, 1}, {41, 1, 1, 1}, {90, 1, 1, 1}, {91, 1, 2, 1}, {140, 1, 2, 1},
            {190, 1, 2, 1}, {191, 1, 2, 2}, {240, 1, 2, 2}, {241, 1, 2, 2}};
        for (int[] row : ratesAndFuel) {
            BackupPower x = Sites.withLoads(1, 500);
            x.addBattery(10000, 500, row[0]);
            x.addGenerator(50, 1, 100);
            x.addGenerator(100, 1, 100);
            x.addGenerator(90, 1, 100);
            x.setTimes(5, 1);
            x.setMains(false);
            x.pass(5);
            x.setPower(0, 10);
            x.pass(1);
            CHECK.due("charging " + row[0] + " beside 10", x.intoBatteries(), row[0] > 230 ? 230 : row[0]);
            for (int i = 0; i < 3; i++) {
                int used = 100 - x.fuelOf(i);
                CHECK.due("charging " + row[0] + ", generator " + i, used, row[1 + i]);
            }
        }
    }

    // "With the mains up they give all", and the charge: one that becomes RUNNING then gives nothing.
    private static void mainsServeAndChargeAlone() {
        BackupPower x = Sites.withLoads(1, 100);
        x.addBattery(500, 100, 10);
        x.addGenerator(1000, 2, 100);
        x.setTimes(0, 1);
        x.setMains(false);
        x.pass(1);
        x.setMains(true);
        x.pass(1);
        CHECK.due("the generator starts", x.generatorState(0), BackupPower.STARTING);
        CHECK.due("the charging rate", x.chargeOf(0), 410);
        x.pass(1);
        CHECK.due("the generator runs", x.generatorState(0), BackupPower.RUNNING);
        CHECK.due("the charging rate, once", x.chargeOf(0), 420);
        CHECK.due("charged", x.intoBatteries(), 20);
        CHECK.due("the mains serve", x.fromMains(), 200);
        CHECK.due("the generator does not", x.fromGenerators(), 0);
        CHECK.due("so that it uses 1 unit", x.fuelOf(0), 99);
    }

    // Step 6: "A battery that had a charge ahead of this minute, and has none now, has a capacity that is 1 less".
    private static void emptiedBatteryIsWorn() {
        for (int capacity = 49; capacity <= 51; capacity++) {
            BackupPower x = Sites.withLoads(1, capacity > 50 ? 50 : capacity);
            x.addBattery(capacity, 50, 50);
            x.setMains(false);
            CHECK.due("from " + capacity, x.pass(1), 0);
            CHECK.due("what is left of " + capacity, x.chargeOf(0), capacity > 50 ? 1 : 0);
            CHECK.due("capacity " + capacity, x.capacityOf(0), capacity > 50 ? 51 : capacity - 1);
            x.setMains(true);
            x.pass(2);
            CHECK.due("full again", x.chargeOf(0), x.capacityOf(0));
        }
    }

    private static void batteryThatWasEmptyIsNotWorn() {
        BackupPower x = Sites.withLoads(1, 50);
        x.addBattery(50, 50, 1);
        x.setMains(false);
        x.pass(1);
        CHECK.due("worn once", x.capacityOf(0), 49);
        x.pass(500);
        CHECK.due("not while it is empty", x.capacityOf(0), 49);
        x.setMains(true);
        x.pass(1);
        CHECK.due("nor as it is charged", x.capacityOf(0), 49);
        x.setMains(false);
        x.pass(1);
        CHECK.due("nor while its charge stays, as the load needs more", x.chargeOf(0), 1);
        CHECK.due("its capacity", x.capacityOf(0), 49);
        x.setPower(0, 1);
        x.setMains(true);
        x.pass(1);
        x.setMains(false);
        x.pass(2);
        CHECK.due("but as its last unit goes", x.capacityOf(0), 48);
    }

    // "but at least 1".
    private static void capacityStaysAtLeastOne() {
        BackupPower x = Sites.withLoads(1, 1);
        x.addBattery(3, 1, 3);
        int[] capacities = {2, 1, 1, 1};
        for (int capacity : capacities) {
            x.setMains(false);
            x.pass(4);
            CHECK.due("empty", x.chargeOf(0), 0);
            CHECK.due("capacity", x.capacityOf(0), capacity);
            x.setMains(true);
            x.pass(2);
            CHECK.due("full", x.chargeOf(0), capacity);
        }
    }

    // Promises 19 and 20: "Throws IndexOutOfBoundsException if there is no such battery".
    private static void numbersOfBatteries() {
        BackupPower x = new BackupPower();
        for (int count = 0; count <= 3; count++) {
            int next = count;
            CHECK.index("chargeOf(" + next + ")", () -> x.chargeOf(next));
            CHECK.index("capacityOf(" + next + ")", () -> x.capacityOf(next));
            CHECK.index("chargeOf(-1)", () -> x.chargeOf(-1));
            CHECK.index("capacityOf(-1)", () -> x.capacityOf(-1));
            if (count < 3) {
                x.addBattery(7 + count, 1, 1);
                CHECK.due("the last one's charge", x.chargeOf(count), 7 + count);
                CHECK.due("the last one's capacity", x.capacityOf(count), 7 + count);
            }
        }
    }

    // Promises 15, 24 and 25: "Throws IndexOutOfBoundsException if there is no such load".
    private static void numbersOfLoads() {
        BackupPower x = new BackupPower();
        for (int count = 0; count <= 10; count++) {
            int next = count;
            CHECK.index("stateOf(" + next + ")", () -> x.stateOf(next));
            CHECK.index("energyOf(" + next + ")", () -> x.energyOf(next));
            CHECK.index("darkMinutes(" + next + ")", () -> x.darkMinutes(next));
            CHECK.index("stateOf(-1)", () -> x.stateOf(-1));
            CHECK.index("energyOf(-1)", () -> x.energyOf(-1));
            CHECK.index("darkMinutes(-1)", () -> x.darkMinutes(-1));
            if (count < 10) {
                x.addLoad(1, 1 + count);
                CHECK.due("the last one's state", x.stateOf(count), SERVED);
                CHECK.due("the last one's energy", x.energyOf(count), 0);
                CHECK.due("the last one's dark minutes", x.darkMinutes(count), 0);
            }
        }
    }

    // Promise 23: "1000 if no load is SERVED".
    private static void forecastOfNothing() {
        BackupPower x = new BackupPower();
        CHECK.due("no load, no battery", x.batteryMinutes(), 1000);
        x.addBattery(1, 1, 1);
        CHECK.due("no load", x.batteryMinutes(), 1000);
        x.addLoad(1, 2);
        CHECK.due("more than the charge", x.batteryMinutes(), 0);
        x.setPower(0, 1);
        CHECK.due("just the charge", x.batteryMinutes(), 1);
        x.switchLoad(0, false);
        CHECK.due("the load is OFF", x.batteryMinutes(), 1000);
        x.switchLoad(0, true);
        CHECK.due("the load is SHED", x.batteryMinutes(), 1000);
        x.pass(1);
        CHECK.due("the load is SERVED", x.batteryMinutes(), 1);
        x.setMains(false);
        x.pass(1);
        CHECK.due("the battery is empty", x.batteryMinutes(), 0);
        x.pass(1);
        CHECK.due("and the load is SHED", x.batteryMinutes(), 1000);
    }

    // "Returns the minutes; at most 1000".
    private static void forecastUpTo1000() {
        int[][] capacitiesAndMinutes = {{998, 998}, {999, 999}, {1000, 1000}, {1001, 1000}, {20000, 1000}};
        for (int[] row : capacitiesAndMinutes) {
            BackupPower x = Sites.withLoads(1, 1);
            x.addBattery(row[0], 500, 1);
            CHECK.due("1 from " + row[0], x.batteryMinutes(), row[1]);
            x.setPower(0, 2);
            CHECK.due("2 from " + row[0], x.batteryMinutes(), row[0] == 20000 ? 1000 : row[0] / 2);
            CHECK.due("nothing is used", x.chargeOf(0), row[0]);
        }
    }

    // "how many minutes come one after the other in which they can give all".
    private static void forecastOfJustEnough() {
        BackupPower x = Sites.withLoads(1, 60);
        x.addBattery(90, 30, 1);
        x.addBattery(90, 30, 1);
        CHECK.due("60 of 30 and 30", x.batteryMinutes(), 3);
        x.setPower(0, 61);
        CHECK.due("61 of 30 and 30", x.batteryMinutes(), 0);
        x.setPower(0, 45);
        CHECK.due("45, and only the second one's 30 in the fourth minute", x.batteryMinutes(), 3);
        x.setPower(0, 30);
        CHECK.due("one after the other", x.batteryMinutes(), 6);
        x.setPower(0, 31);
        CHECK.due("31: the second one gives the one unit", x.batteryMinutes(), 3);
        x.addBattery(1, 500, 1);
        CHECK.due("31: and the third one gives it once", x.batteryMinutes(), 4);
        for (int minutes = 3; minutes >= 1; minutes--) {
            x.setMains(false);
            x.pass(1);
            CHECK.due("as it comes to pass", x.batteryMinutes(), minutes);
        }
    }

    // Promises 24 to 29: nothing yet, and the first minute.
    private static void energyAndDarkMinutesFromTheFirstMinute() {
        BackupPower x = Sites.withLoads(1, 1, 5, 500);
        x.addBattery(1, 1, 1);
        CHECK.due("no energy yet", x.energyOf(1), 0);
        x.pass(1);
        CHECK.due("energy", x.energyOf(1), 500);
        CHECK.due("from the mains", x.fromMains(), 501);
        x.setMains(false);
        CHECK.due("one is shed", x.pass(1), 1);
        CHECK.due("no energy in that minute", x.energyOf(1), 500);
        CHECK.due("but a dark minute", x.darkMinutes(1), 1);
        CHECK.due("the other one has energy", x.energyOf(0), 2);
        CHECK.due("and no dark minute", x.darkMinutes(0), 0);
        CHECK.due("from the battery", x.fromBatteries(), 1);
        CHECK.due("not from the mains", x.fromMains(), 501);
        x.setMains(true);
        x.pass(1);
        CHECK.due("into the battery", x.intoBatteries(), 1);
        CHECK.due("from generators", x.fromGenerators(), 0);
        CHECK.due("no dark minute as it returns", x.darkMinutes(1), 1);
    }

    // "An object is used for at most 512 calls": the greatest sums that they can make.
    private static void theLastCallsOfAll() {
        BackupPower x = new BackupPower();
        BackupPower y = new BackupPower();
        for (int i = 0; i < 10; i++) {
            x.addLoad(5, 500);
            y.addLoad(5, 500);
        }
        y.setMains(false);
        for (int i = 0; i < 499; i++) {
            x.pass(500);
            y.pass(500);
        }
        CHECK.due("time", x.time(), 249500);
        CHECK.due("the longest outage", y.outage(), 249500);
        CHECK.due("energy of a load", x.energyOf(9), 124750000);
        CHECK.due("dark minutes", y.darkMinutes(9), 249500);
        CHECK.due("the 512th call", x.fromMains(), 1247500000);
    }
}
