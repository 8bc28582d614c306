/** Steps 2 and 3 of a minute, as promises 11 to 18 show them. */
public final class MinutesTest {
    private static final Check CHECK = new Check("MinutesTest");

    public static void main(String[] args) {
        promise11SetMains();
        promise12Pass();
        promise12CountsEveryShedding();
        promise12WrongArguments();
        promise13Time();
        promise14Outage();
        promise15StateOf();
        promise16Demand();
        promise17ShedOrder();
        promise18ReturnOrder();
        shedsNoMoreThanNeeded();
        shedsByBatteryRateAndCharge();
        shedsForOneUnit();
        returnsBySeveralGenerators();
        batteriesDoNotLetLoadsReturn();
        onlyTheFirstIsLookedAt();
        noReturnInAMinuteOfShedding();
        staggerTime();
        staggerTimeAcrossOutages();
        CHECK.end();
    }

    private static void promise11SetMains() {
        BackupPower x = new BackupPower();
        CHECK.due("up at first", x.setMains(false), true);
        CHECK.due("down", x.setMains(false), false);
        CHECK.due("down still", x.setMains(true), false);
        CHECK.due("up again", x.setMains(true), true);
        CHECK.due("no minute passes", x.time(), 0);
        x.addLoad(1, 10);
        x.setMains(false);
        CHECK.due("no load is shed by the call", x.stateOf(0), BackupPower.SERVED);
        x.pass(1);
        CHECK.due("but by the minute", x.stateOf(0), BackupPower.SHED);
        x.setMains(true);
        CHECK.due("nor returns by the call", x.stateOf(0), BackupPower.SHED);
    }

    private static void promise12Pass() {
        BackupPower x = new BackupPower();
        x.addLoad(1, 10);
        x.addLoad(2, 10);
        CHECK.due("nothing is shed with the mains up", x.pass(500), 0);
        CHECK.due("500 minutes", x.time(), 500);
        x.setMains(false);
        CHECK.due("both are shed", x.pass(1), 2);
        CHECK.due("none is left to be shed", x.pass(10), 0);
        CHECK.due("11 minutes more", x.time(), 511);
    }

    private static void promise12CountsEveryShedding() {
        BackupPower x = new BackupPower();
        x.addLoad(1, 100);
        x.addGenerator(100, 1, 2);
        x.setTimes(0, 1);
        x.setMains(false);
        CHECK.due("shed, returned, and shed again", x.pass(3), 2);
        CHECK.due("energy of the minute between", x.energyOf(0), 100);
    }

    private static void promise12WrongArguments() {
        BackupPower x = new BackupPower();
        x.addLoad(1, 10);
        CHECK.argument("0 minutes", () -> x.pass(0));
        CHECK.argument("501 minutes", () -> x.pass(501));
        CHECK.argument("-1 minute", () -> x.pass(-1));
        CHECK.argument("far out", () -> x.pass(Integer.MAX_VALUE));
        CHECK.argument("far below", () -> x.pass(Integer.MIN_VALUE));
    }

    private static void promise13Time() {
        BackupPower x = new BackupPower();
        x.pass(1);
        CHECK.due("time", x.time(), 1);
        x.pass(41);
        x.setMains(false);
        x.pass(8);
        CHECK.due("time goes on in an outage", x.time(), 50);
    }

    private static void promise14Outage() {
        BackupPower x = new BackupPower();
        x.pass(5);
        CHECK.due("mains up", x.outage(), 0);
        x.setMains(false);
        CHECK.due("no minute down yet", x.outage(), 0);
        x.pass(1);
        CHECK.due("one minute", x.outage(), 1);
        x.pass(6);
        CHECK.due("seven minutes", x.outage(), 7);
        x.setMains(true);
        CHECK.due("no minute up yet", x.outage(), 7);
        x.pass(1);
        CHECK.due("up in the latest minute", x.outage(), 0);
        x.setMains(false);
        x.pass(2);
        CHECK.due("the next outage", x.outage(), 2);
    }

    private static void promise15StateOf() {
        BackupPower x = new BackupPower();
        x.addLoad(1, 10);
        x.addLoad(2, 10);
        x.addLoad(3, 10);
        x.switchLoad(1, false);
        x.addBattery(100, 10, 1);
        x.setMains(false);
        x.pass(1);
        CHECK.due("SERVED", x.stateOf(0), 1);
        CHECK.due("OFF", x.stateOf(1), 0);
        CHECK.due("SHED", x.stateOf(2), 2);
        for (int wrong : new int[] {-1, 3, 10, Integer.MIN_VALUE, Integer.MAX_VALUE}) {
            CHECK.index("stateOf", () -> x.stateOf(wrong));
        }
    }

    private static void promise16Demand() {
        BackupPower x = new BackupPower();
        CHECK.due("no load", x.demand(), 0);
        x.addLoad(1, 100);
        x.addLoad(2, 20);
        x.addLoad(3, 3);
        CHECK.due("all are SERVED", x.demand(), 123);
        x.switchLoad(1, false);
        CHECK.due("without the OFF one", x.demand(), 103);
        x.switchLoad(1, true);
        CHECK.due("without the SHED one", x.demand(), 103);
        x.setPower(2, 5);
        CHECK.due("with another power", x.demand(), 105);
    }

    private static void orders(BackupPower x, String what, boolean isShedding, int... want) {
        for (int i = 0; i < want.length; i++) {
            CHECK.due(what + ", place " + i, isShedding ? x.shedOrder(i) : x.returnOrder(i), want[i]);
        }
        for (int wrong : new int[] {-1, want.length, 10, Integer.MIN_VALUE, Integer.MAX_VALUE}) {
            CHECK.index(what + ", place " + wrong,
                    () -> isShedding ? x.shedOrder(wrong) : x.returnOrder(wrong));
        }
    }

    private static BackupPower siteOfSixLoads() {
        BackupPower x = new BackupPower();
        x.addLoad(2, 50);
        x.addLoad(4, 10);
        x.addLoad(2, 80);
        x.addLoad(4, 10);
        x.addLoad(1, 500);
        x.addLoad(5, 1);
        return x;
    }

    private static void promise17ShedOrder() {
        BackupPower x = siteOfSixLoads();
        orders(x, "the order of shedding", true, 5, 3, 1, 2, 0, 4);
        orders(x, "none to return", false);
        x.setPower(1, 11);
        x.switchLoad(2, false);
        x.switchLoad(5, false);
        x.switchLoad(5, true);
        orders(x, "with another power, without OFF and SHED ones", true, 1, 3, 0, 4);
        x.addBattery(1000, 500, 10);
        x.setMains(false);
        CHECK.due("shed with 571 against 500", x.pass(1), 3);
        CHECK.due("the last one stays", x.shedOrder(0), 4);
    }

    private static void promise18ReturnOrder() {
        BackupPower x = siteOfSixLoads();
        x.setMains(false);
        x.pass(1);
        orders(x, "the order of returning", false, 4, 0, 2, 1, 3, 5);
        orders(x, "none to shed", true);
        x.setPower(0, 81);
        x.switchLoad(3, false);
        orders(x, "with another power, without the OFF one", false, 4, 2, 0, 1, 5);
        x.setMains(true);
        int[] served = {4, 2, 0, 1, 5};
        for (int load : served) {
            CHECK.due("still SHED", x.stateOf(load), BackupPower.SHED);
            x.pass(1);
            CHECK.due("it has returned", x.stateOf(load), BackupPower.SERVED);
        }
        orders(x, "none is left", false);
    }

    private static void shedsNoMoreThanNeeded() {
        BackupPower x = new BackupPower();
        x.addLoad(1, 100);
        x.addLoad(2, 100);
        x.addLoad(3, 5);
        x.addBattery(1000, 50, 10);
        x.addGenerator(150, 1, 100);
        x.setTimes(0, 1);
        x.switchLoad(0, false);
        x.switchLoad(1, false);
        x.setMains(false);
        CHECK.due("5 against 50", x.pass(2), 0);
        x.setMains(true);
        x.switchLoad(0, true);
        x.switchLoad(1, true);
        x.pass(1);
        CHECK.due("the generator stops", x.generatorState(0), 0);
        x.pass(1);
        x.setPower(2, 1);
        x.setMains(false);
        CHECK.due("201 against 50", x.pass(1), 3);
        x.setMains(true);
        x.pass(5);
        x.setMains(false);
        x.setTimes(30, 1);
        x.setPower(0, 50);
        CHECK.due("two are shed, and the third has just the power", x.pass(1), 2);
        CHECK.due("it is SERVED", x.stateOf(0), BackupPower.SERVED);
    }

    private static void shedsByBatteryRateAndCharge() {
        BackupPower x = new BackupPower();
        x.addLoad(1, 50);
        x.addLoad(2, 20);
        x.addBattery(100, 50, 10);
        x.addBattery(30, 500, 10);
        x.setMains(false);
        CHECK.due("70 against 50 and 30", x.pass(1), 0);
        CHECK.due("the first gives its rate", x.chargeOf(0), 50);
        CHECK.due("the second gives the rest", x.chargeOf(1), 10);
        CHECK.due("70 against 50 and 10", x.pass(1), 1);
        CHECK.due("the first one is empty", x.chargeOf(0), 0);
        CHECK.due("the second one gives nothing", x.chargeOf(1), 10);
        CHECK.due("50 against 10", x.pass(1), 1);
        CHECK.due("a charge that is too small stays", x.chargeOf(1), 10);
    }

    private static void shedsForOneUnit() {
        BackupPower x = new BackupPower();
        x.addLoad(1, 80);
        x.addBattery(1000, 50, 10);
        x.addBattery(1000, 30, 10);
        x.setMains(false);
        CHECK.due("80 against 80", x.pass(1), 0);
        x.setPower(0, 81);
        CHECK.due("81 against 80", x.pass(1), 1);
    }

    private static void returnsBySeveralGenerators() {
        BackupPower x = new BackupPower();
        x.addGenerator(40, 1, 100);
        x.addGenerator(30, 1, 100);
        x.addGenerator(20, 1, 100);
        x.setTimes(0, 1);
        x.setMains(false);
        x.addLoad(1, 91);
        x.pass(4);
        CHECK.due("91 against 90", x.demand(), 0);
        x.setPower(0, 90);
        x.pass(1);
        CHECK.due("90 against 90", x.demand(), 90);
        CHECK.due("fuel 0", x.fuelOf(0), 96);
        CHECK.due("from all together", x.fromGenerators(), 90);
        CHECK.due("and it stays", x.pass(10), 0);
        x.setPower(0, 91);
        CHECK.due("91 against 90 again", x.pass(1), 1);
    }

    private static void batteriesDoNotLetLoadsReturn() {
        BackupPower x = new BackupPower();
        x.addBattery(1000, 500, 10);
        x.addGenerator(60, 1, 100);
        x.setMains(false);
        x.addLoad(1, 60);
        x.addLoad(2, 1);
        x.pass(2);
        CHECK.due("a battery only", x.demand(), 0);
        x.pass(1);
        CHECK.due("as much as generators can give", x.demand(), 60);
        x.pass(3);
        CHECK.due("no more than that", x.stateOf(1), BackupPower.SHED);
    }

    private static void onlyTheFirstIsLookedAt() {
        BackupPower x = new BackupPower();
        x.addGenerator(60, 1, 100);
        x.setTimes(0, 1);
        x.setMains(false);
        x.addLoad(1, 61);
        x.addLoad(2, 1);
        x.pass(5);
        CHECK.due("the small one waits for the first one", x.demand(), 0);
        x.switchLoad(0, false);
        x.pass(1);
        CHECK.due("until it is OFF", x.demand(), 1);
    }

    private static void noReturnInAMinuteOfShedding() {
        BackupPower x = new BackupPower();
        x.addLoad(3, 100);
        x.addLoad(1, 10);
        x.addGenerator(50, 1, 100);
        x.setTimes(0, 1);
        x.switchLoad(1, false);
        x.setMains(false);
        x.addBattery(100, 100, 1);
        x.pass(1);
        x.switchLoad(1, true);
        CHECK.due("100 against 50 and nothing", x.pass(1), 1);
        CHECK.due("none returns in this minute", x.stateOf(1), BackupPower.SHED);
        CHECK.due("none is shed in the next one", x.pass(1), 0);
        CHECK.due("and the load returns", x.stateOf(1), BackupPower.SERVED);
    }

    private static void staggerTime() {
        BackupPower x = new BackupPower();
        for (int i = 0; i < 4; i++) {
            x.addLoad(1, 10);
            x.switchLoad(i, false);
            x.switchLoad(i, true);
        }
        x.setTimes(2, 3);
        int[] demands = {10, 10, 10, 20, 20, 20, 30};
        for (int demand : demands) {
            x.pass(1);
            CHECK.due("with a stagger time of 3", x.demand(), demand);
        }
        x.pass(1);
        x.setTimes(2, 2);
        x.pass(1);
        CHECK.due("with a stagger time of 2 after 2 minutes", x.demand(), 40);
    }

    private static void staggerTimeAcrossOutages() {
        BackupPower x = new BackupPower();
        x.addLoad(1, 10);
        x.addLoad(2, 10);
        x.setTimes(30, 10);
        x.pass(3);
        x.setMains(false);
        x.pass(1);
        x.setMains(true);
        x.pass(1);
        CHECK.due("there was no return yet", x.demand(), 10);
        x.setMains(false);
        x.pass(8);
        x.setMains(true);
        x.pass(1);
        CHECK.due("9 minutes after the latest return", x.demand(), 0);
        x.pass(1);
        CHECK.due("10 minutes after the latest return", x.demand(), 10);
    }
}
