/** Steps 4 to 6 of a minute, as promises 19, 20 and 23 to 29 show them. */
public final class BatteriesAndAccountsTest {
    private static final Check CHECK = new Check("BatteriesAndAccountsTest");

    public static void main(String[] args) {
        promise19ChargeFromMains();
        promise19ChargeFromGenerators();
        promise19ThreeBatteriesAtMost();
        promise19LittleIsLeft();
        promise19WrongNumbers();
        promise20Wear();
        promise20WearNeedsACharge();
        promise20WearStopsAtOne();
        promise23OneBattery();
        promise23SeveralBatteries();
        promise23Bounds();
        promise23LooksOnly();
        promise24EnergyOf();
        promise25DarkMinutes();
        promises24And25WrongNumbers();
        promise26FromMains();
        promises27To29Accounts();
        testsGiveNothing();
        longUseStaysExact();
        CHECK.end();
    }

    private static void promise19ChargeFromMains() {
        BackupPower x = new BackupPower();
        x.addLoad(1, 100);
        x.addBattery(300, 60, 25);
        x.addBattery(300, 60, 40);
        x.setMains(false);
        x.pass(1);
        CHECK.due("battery 0 gives its rate", x.chargeOf(0), 240);
        CHECK.due("battery 1 gives the rest", x.chargeOf(1), 260);
        CHECK.due("given", x.fromBatteries(), 100);
        x.setMains(true);
        x.pass(1);
        CHECK.due("battery 0 gets its charging rate", x.chargeOf(0), 265);
        CHECK.due("battery 1 gets what is missing", x.chargeOf(1), 300);
        x.pass(2);
        CHECK.due("battery 0 is full", x.chargeOf(0), 300);
        x.pass(9);
        CHECK.due("and stays so", x.chargeOf(0), 300);
        CHECK.due("charged", x.intoBatteries(), 100);
        CHECK.due("charging is not for loads", x.fromMains(), 1200);
    }

    private static void promise19ChargeFromGenerators() {
        BackupPower x = new BackupPower();
        x.addLoad(1, 100);
        x.addBattery(1000, 90, 20);
        x.addBattery(1000, 90, 50);
        x.addBattery(1000, 90, 50);
        x.addGenerator(70, 1, 100);
        x.addGenerator(90, 1, 100);
        x.setTimes(0, 1);
        x.setMains(false);
        x.pass(1);
        x.setPower(0, 110);
        x.pass(1);
        CHECK.due("generators serve alone", x.fromGenerators(), 110);
        CHECK.due("battery 0 gets its charging rate", x.chargeOf(0), 930);
        CHECK.due("battery 1 gets what is missing", x.chargeOf(1), 1000);
        CHECK.due("battery 2 had all", x.chargeOf(2), 1000);
        CHECK.due("fuel for 70", x.fuelOf(0), 98);
        CHECK.due("fuel for 40 and 30", x.fuelOf(1), 98);
        x.setPower(0, 155);
        x.pass(1);
        CHECK.due("battery 0 gets what is left", x.chargeOf(0), 935);
        CHECK.due("charging is not for loads", x.fromGenerators(), 265);
        CHECK.due("charged", x.intoBatteries(), 35);
        CHECK.due("given", x.fromBatteries(), 100);
    }

    private static void promise19ThreeBatteriesAtMost() {
        BackupPower x = new BackupPower();
        for (int i = 0; i < 3; i++) {
            x.addLoad(1, 500);
            x.addBattery(20000, 500, 500);
        }
        x.setMains(false);
        x.pass(2);
        x.setMains(true);
        x.pass(1);
        CHECK.due("the mains charge all at once", x.intoBatteries(), 1500);
        CHECK.due("the last one too", x.chargeOf(2), 19500);
    }

    private static void promise19LittleIsLeft() {
        BackupPower x = new BackupPower();
        x.addLoad(1, 300);
        for (int i = 0; i < 3; i++) {
            x.addBattery(1000, 100, 40);
        }
        x.addGenerator(35, 1, 100);
        x.addGenerator(30, 1, 100);
        x.setTimes(0, 1);
        x.setMains(false);
        x.pass(1);
        x.setPower(0, 10);
        x.pass(1);
        CHECK.due("battery 0 gets its charging rate", x.chargeOf(0), 940);
        CHECK.due("battery 1 gets the rest", x.chargeOf(1), 915);
        CHECK.due("battery 2 gets nothing", x.chargeOf(2), 900);
        CHECK.due("together", x.intoBatteries(), 55);
    }

    private static void promise19WrongNumbers() {
        BackupPower x = new BackupPower();
        x.addLoad(1, 1);
        x.addLoad(1, 1);
        x.addGenerator(1, 1, 1);
        x.addGenerator(1, 1, 1);
        x.addBattery(1, 1, 1);
        for (int wrong : new int[] {-1, 1, 3, Integer.MIN_VALUE, Integer.MAX_VALUE}) {
            CHECK.index("chargeOf", () -> x.chargeOf(wrong));
            CHECK.index("capacityOf", () -> x.capacityOf(wrong));
        }
    }

    private static void promise20Wear() {
        BackupPower x = new BackupPower();
        x.addLoad(1, 50);
        x.addBattery(100, 50, 60);
        x.addBattery(500, 50, 60);
        x.setMains(false);
        x.pass(1);
        CHECK.due("not empty, no wear", x.capacityOf(0), 100);
        x.pass(1);
        CHECK.due("emptied", x.chargeOf(0), 0);
        CHECK.due("worn", x.capacityOf(0), 99);
        CHECK.due("the other one is not", x.capacityOf(1), 500);
        x.pass(3);
        CHECK.due("no charge ahead of the minute, no wear", x.capacityOf(0), 99);
        x.setMains(true);
        x.pass(2);
        CHECK.due("full at the capacity that is left", x.chargeOf(0), 99);
        x.setMains(false);
        x.pass(2);
        CHECK.due("worn again", x.capacityOf(0), 98);
    }

    private static void promise20WearNeedsACharge() {
        BackupPower x = new BackupPower();
        x.addLoad(1, 500);
        x.addBattery(40, 50, 10);
        x.setMains(false);
        CHECK.due("the load is shed", x.pass(3), 1);
        CHECK.due("the battery keeps its charge", x.chargeOf(0), 40);
        CHECK.due("and its capacity", x.capacityOf(0), 40);
    }

    private static void promise20WearStopsAtOne() {
        BackupPower x = new BackupPower();
        x.addLoad(1, 1);
        x.addBattery(2, 1, 1);
        x.setMains(false);
        x.pass(2);
        CHECK.due("from 2 to 1", x.capacityOf(0), 1);
        x.setMains(true);
        x.pass(2);
        CHECK.due("charged", x.chargeOf(0), 1);
        x.setMains(false);
        x.pass(1);
        CHECK.due("emptied", x.chargeOf(0), 0);
        CHECK.due("not below 1", x.capacityOf(0), 1);
    }

    private static void promise23OneBattery() {
        BackupPower x = new BackupPower();
        x.addLoad(1, 30);
        CHECK.due("no battery", x.batteryMinutes(), 0);
        x.addBattery(100, 30, 10);
        CHECK.due("100 by 30", x.batteryMinutes(), 3);
        x.setPower(0, 25);
        CHECK.due("100 by 25", x.batteryMinutes(), 4);
        x.setPower(0, 31);
        CHECK.due("more than the rate", x.batteryMinutes(), 0);
        x.switchLoad(0, false);
        CHECK.due("no load is SERVED", x.batteryMinutes(), 1000);
    }

    private static void promise23SeveralBatteries() {
        BackupPower x = new BackupPower();
        x.addLoad(1, 60);
        x.addBattery(100, 40, 10);
        x.addBattery(100, 40, 10);
        // 40+20, 40+20, and then 20 and 40 are just enough; 20 are left for the fourth.
        CHECK.due("the first gives as much as it can", x.batteryMinutes(), 3);
        x.setPower(0, 80);
        CHECK.due("both give their rates", x.batteryMinutes(), 2);
        x.setPower(0, 20);
        CHECK.due("one after the other", x.batteryMinutes(), 10);
        BackupPower y = new BackupPower();
        y.addLoad(1, 50);
        y.addBattery(100, 50, 10);
        y.addBattery(1000, 10, 10);
        CHECK.due("the second one's rate is too small", y.batteryMinutes(), 2);
        BackupPower z = new BackupPower();
        z.addLoad(1, 50);
        z.addBattery(1000, 10, 10);
        z.addBattery(100, 50, 10);
        CHECK.due("the small one goes first", z.batteryMinutes(), 2);
    }

    private static void promise23Bounds() {
        BackupPower x = new BackupPower();
        x.addLoad(1, 1);
        x.addBattery(999, 1, 1);
        CHECK.due("999 minutes", x.batteryMinutes(), 999);
        x.addBattery(1, 1, 1);
        CHECK.due("1000 minutes", x.batteryMinutes(), 1000);
        x.addBattery(20000, 1, 1);
        CHECK.due("at most 1000", x.batteryMinutes(), 1000);
    }

    private static void promise23LooksOnly() {
        BackupPower x = new BackupPower();
        x.addLoad(1, 50);
        x.addLoad(2, 20);
        x.addBattery(175, 100, 10);
        x.addGenerator(500, 1, 100);
        x.setTimes(0, 1);
        x.switchLoad(1, false);
        CHECK.due("the mains are up", x.batteryMinutes(), 3);
        CHECK.due("no charge is used", x.chargeOf(0), 175);
        CHECK.due("no capacity is worn", x.capacityOf(0), 175);
        x.setMains(false);
        x.pass(1);
        CHECK.due("a minute later", x.batteryMinutes(), 2);
        x.pass(3);
        CHECK.due("a generator runs", x.batteryMinutes(), 3);
        x.switchLoad(1, true);
        CHECK.due("loads that are SHED do not count", x.batteryMinutes(), 3);
    }

    private static void promise24EnergyOf() {
        BackupPower x = new BackupPower();
        x.addLoad(1, 10);
        x.addLoad(2, 100);
        CHECK.due("none yet", x.energyOf(0), 0);
        x.pass(3);
        CHECK.due("3 minutes", x.energyOf(0), 30);
        x.setPower(0, 25);
        CHECK.due("not by the call", x.energyOf(0), 30);
        x.pass(2);
        CHECK.due("2 minutes with another power", x.energyOf(0), 80);
        x.switchLoad(0, false);
        x.pass(4);
        CHECK.due("none while OFF", x.energyOf(0), 80);
        CHECK.due("the other load", x.energyOf(1), 900);
        x.addBattery(250, 100, 1);
        x.setMains(false);
        x.pass(5);
        CHECK.due("from a battery, none while SHED", x.energyOf(1), 1100);
    }

    private static void promise25DarkMinutes() {
        BackupPower x = new BackupPower();
        x.addLoad(1, 10);
        x.addLoad(2, 10);
        x.pass(4);
        CHECK.due("none while SERVED", x.darkMinutes(0), 0);
        x.setMains(false);
        x.pass(3);
        CHECK.due("the minute of shedding counts", x.darkMinutes(0), 3);
        x.switchLoad(0, false);
        x.pass(2);
        CHECK.due("none while OFF", x.darkMinutes(0), 3);
        CHECK.due("the other load", x.darkMinutes(1), 5);
        x.switchLoad(0, true);
        x.setMains(true);
        x.pass(1);
        CHECK.due("the minute of the return does not count", x.darkMinutes(0), 3);
        CHECK.due("the other one waits", x.darkMinutes(1), 6);
        x.pass(1);
        CHECK.due("and returns", x.darkMinutes(1), 6);
    }

    private static void promises24And25WrongNumbers() {
        BackupPower x = new BackupPower();
        x.addBattery(1, 1, 1);
        x.addBattery(1, 1, 1);
        x.addLoad(1, 1);
        for (int wrong : new int[] {-1, 1, 10, Integer.MIN_VALUE, Integer.MAX_VALUE}) {
            CHECK.index("energyOf", () -> x.energyOf(wrong));
            CHECK.index("darkMinutes", () -> x.darkMinutes(wrong));
        }
    }

    private static void promise26FromMains() {
        BackupPower x = new BackupPower();
        x.addLoad(1, 10);
        x.addLoad(2, 30);
        x.pass(2);
        CHECK.due("both loads", x.fromMains(), 80);
        x.setMains(false);
        x.pass(5);
        CHECK.due("none while they are down", x.fromMains(), 80);
        x.setMains(true);
        x.pass(1);
        CHECK.due("the one that returned", x.fromMains(), 90);
        x.pass(1);
        CHECK.due("both again", x.fromMains(), 130);
        CHECK.due("nothing from others", x.fromGenerators() + x.fromBatteries(), 0);
    }

    private static void promises27To29Accounts() {
        BackupPower x = new BackupPower();
        x.addLoad(1, 100);
        x.addBattery(500, 100, 30);
        x.addGenerator(70, 2, 100);
        x.setTimes(0, 1);
        x.setMains(false);
        x.pass(2);
        CHECK.due("batteries alone", x.fromBatteries(), 200);
        CHECK.due("no generator yet", x.fromGenerators(), 0);
        x.pass(1);
        CHECK.due("the generator gives all it can", x.fromGenerators(), 70);
        CHECK.due("batteries give the rest", x.fromBatteries(), 230);
        CHECK.due("nothing is left for charging", x.intoBatteries(), 0);
        x.setPower(0, 60);
        x.pass(1);
        CHECK.due("the generator alone", x.fromGenerators(), 130);
        CHECK.due("no battery", x.fromBatteries(), 230);
        CHECK.due("10 are left for charging", x.intoBatteries(), 10);
        CHECK.due("the charge", x.chargeOf(0), 280);
        CHECK.due("nothing from the mains", x.fromMains(), 0);
        x.setMains(true);
        x.pass(1);
        CHECK.due("charging from the mains", x.intoBatteries(), 40);
        CHECK.due("the mains serve alone", x.fromMains(), 60);
        CHECK.due("the generator gives no more", x.fromGenerators(), 130);
    }

    private static void testsGiveNothing() {
        BackupPower x = new BackupPower();
        x.addLoad(1, 10);
        x.addBattery(500, 100, 30);
        x.addGenerator(70, 2, 100);
        x.addGenerator(70, 1, 100);
        x.setTests(0, 2, 9);
        x.setTimes(0, 1);
        x.pass(2);
        x.setMains(false);
        x.pass(1);
        CHECK.due("the battery serves", x.chargeOf(0), 490);
        x.setPower(0, 400);
        x.pass(1);
        CHECK.due("one runs on test, one does not", x.generatorState(0) * 100 + x.generatorState(1), 1202);
        CHECK.due("the one on test does not charge", x.fuelOf(0), 99);
        CHECK.due("the other one does", x.chargeOf(0), 500);
        CHECK.due("and does not serve", x.stateOf(0), BackupPower.SHED);
    }

    private static void longUseStaysExact() {
        BackupPower x = new BackupPower();
        for (int i = 0; i < 10; i++) {
            x.addLoad(1, 500);
        }
        for (int i = 0; i < 490; i++) {
            x.pass(500);
        }
        CHECK.due("time", x.time(), 245000);
        CHECK.due("energy of a load", x.energyOf(9), 122500000);
        CHECK.due("energy of all", x.fromMains(), 1225000000);
    }
}
