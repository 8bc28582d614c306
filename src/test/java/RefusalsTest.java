/**
 * "The first line of a method's throws clause that applies decides; a call that throws changes nothing."
 * Every kind of call that the document refuses, on sites of several sizes: it throws what is due, and
 * from then on the object tells what one tells that was not called so.
 */
public final class RefusalsTest {
    private static final Check CHECK = new Check("RefusalsTest");
    private static final int LOW = Integer.MIN_VALUE, HIGH = Integer.MAX_VALUE;
    private static final Class<? extends RuntimeException> INDEX = IndexOutOfBoundsException.class;
    private static final Class<? extends RuntimeException> ARGUMENT = IllegalArgumentException.class;
    private static final Class<? extends RuntimeException> STATE = IllegalStateException.class;

    interface Site {
        BackupPower make();
    }

    interface Call {
        long call(BackupPower x);
    }

    private final String name;
    private final Site site;
    private final int loads, batteries, generators;
    private final String due;
    private int refusals;

    private RefusalsTest(String name, Site site, int loads, int batteries, int generators) {
        this.name = name;
        this.site = site;
        this.loads = loads;
        this.batteries = batteries;
        this.generators = generators;
        this.due = Shown.toTheEnd(site.make());
    }

    public static void main(String[] args) {
        new RefusalsTest("a new object", BackupPower::new, 0, 0, 0).run(0, 0);
        RefusalsTest small = new RefusalsTest("a small site on test", RefusalsTest::smallSite, 3, 1, 1);
        small.run(2, 1);
        small.everyChangeIsTold();
        new RefusalsTest("a full site", RefusalsTest::fullSite, 10, 3, 3).run(10, 0);
        new RefusalsTest("a full site in an outage", RefusalsTest::darkSite, 10, 3, 3).run(4, 5);
        new RefusalsTest("a full site after an outage", RefusalsTest::litSite, 10, 3, 3).run(5, 4);
        CHECK.end();
    }

    private static BackupPower smallSite() {
        BackupPower x = new BackupPower();
        x.addLoad(2, 30);
        x.addLoad(2, 40);
        x.addLoad(3, 60);
        x.addBattery(90, 35, 8);
        x.addGenerator(50, 2, 30);
        x.setTests(0, 4, 3);
        x.setTimes(1, 4);
        x.pass(6);
        x.switchLoad(0, false);
        x.switchLoad(0, true);
        x.pass(1);
        x.switchLoad(0, false);
        x.switchLoad(0, true);
        CHECK.due("the small site is on test", x.generatorState(0), 12);
        return x;
    }

    private static BackupPower fullSite() {
        BackupPower x = new BackupPower();
        for (int i = 0; i < 10; i++) {
            x.addLoad(1 + i % 5, 11 + 7 * i);
        }
        x.addBattery(150, 60, 20);
        x.addBattery(400, 70, 9);
        x.addBattery(70, 80, 30);
        x.addGenerator(55, 1, 60);
        x.addGenerator(80, 2, 40);
        x.addGenerator(90, 4, 50);
        x.setTests(0, 3, 2);
        x.setTests(1, 5, 1);
        x.setTests(2, 7, 4);
        x.setFailures(1, 2);
        x.setTimes(3, 2);
        return x;
    }

    private static BackupPower darkSite() {
        BackupPower x = fullSite();
        x.pass(4);
        x.setMains(false);
        x.pass(9);
        x.switchLoad(9, false);
        return x;
    }

    private static BackupPower litSite() {
        BackupPower x = darkSite();
        x.setMains(true);
        x.pass(1);
        return x;
    }

    private void run(int served, int shed) {
        adding();
        settingLoads();
        settingGenerators();
        settingTests();
        timesAndMinutes();
        statesAndAccounts();
        orders(served, shed);
        System.out.println(name + ": " + refusals + " calls refused");
    }

    /** Refused on an object of its own, so that no object is called more often than the document allows. */
    private void refuse(String call, Class<? extends RuntimeException> want, Call refused) {
        String what = name + ", " + call;
        BackupPower x = site.make();
        CHECK.throwing(what, want, () -> refused.call(x));
        String told = Shown.toTheEnd(x);
        if (!told.equals(due)) {
            CHECK.report(what + " changed what is told:\n" + due + "\ninto\n" + told);
        }
        refusals++;
    }

    /** If one of these changes could not be told, then neither could a refused call that makes it. */
    private void everyChangeIsTold() {
        changed("addLoad", x -> x.addLoad(5, 1));
        changed("addBattery", x -> x.addBattery(1, 1, 1));
        changed("addGenerator", x -> x.addGenerator(1, 10, 1));
        changed("switchLoad(0, false)", x -> x.switchLoad(0, false));
        changed("switchLoad(1, false)", x -> x.switchLoad(1, false));
        changed("setPower(0, 31)", x -> x.setPower(0, 31));
        changed("setPower(2, 61)", x -> x.setPower(2, 61));
        changed("refuel(0, 1)", x -> x.refuel(0, 1));
        changed("setFailures(0, 1)", x -> x.setFailures(0, 1));
        changed("setTests(0, 5, 3)", x -> x.setTests(0, 5, 3));
        changed("setTests(0, 0, 3)", x -> x.setTests(0, 0, 3));
        changed("setTests(0, 4, 2)", x -> x.setTests(0, 4, 2));
        changed("setTests(0, 4, 4)", x -> x.setTests(0, 4, 4));
        changed("setTimes(0, 4)", x -> x.setTimes(0, 4));
        changed("setTimes(2, 4)", x -> x.setTimes(2, 4));
        changed("setTimes(1, 3)", x -> x.setTimes(1, 3));
        changed("setTimes(1, 5)", x -> x.setTimes(1, 5));
        changed("setMains(false)", x -> x.setMains(false) ? 1 : 0);
        changed("pass(1)", x -> x.pass(1));
    }

    private void changed(String call, Call change) {
        BackupPower x = site.make();
        change.call(x);
        CHECK.due(name + ", " + call + " is not told", Shown.toTheEnd(x).equals(due), false);
    }

    private static int[] outside(int least, int most) {
        return new int[] {LOW, -1 - most, least - 1, most + 1, HIGH};
    }

    private static int[] noSuch(int count, int most) {
        return new int[] {LOW, -count - 1, -1, count, count + 1, most, HIGH};
    }

    private void adding() {
        for (int wrong : outside(1, 5)) {
            refuse("rank " + wrong, ARGUMENT, x -> x.addLoad(wrong, 10));
        }
        for (int wrong : outside(1, 500)) {
            refuse("power " + wrong, ARGUMENT, x -> x.addLoad(1, wrong));
            refuse("rank 6 and power " + wrong, ARGUMENT, x -> x.addLoad(6, wrong));
            refuse("rate " + wrong, ARGUMENT, x -> x.addBattery(10, wrong, 10));
            refuse("charging " + wrong, ARGUMENT, x -> x.addBattery(10, 10, wrong));
        }
        for (int wrong : outside(1, 20000)) {
            refuse("capacity " + wrong, ARGUMENT, x -> x.addBattery(wrong, 10, 10));
            refuse("all of a battery " + wrong, ARGUMENT, x -> x.addBattery(wrong, wrong, wrong));
        }
        for (int wrong : outside(1, 1000)) {
            refuse("generator's power " + wrong, ARGUMENT, x -> x.addGenerator(wrong, 1, 10));
            refuse("tank " + wrong, ARGUMENT, x -> x.addGenerator(10, 1, wrong));
            refuse("all of a generator " + wrong, ARGUMENT, x -> x.addGenerator(wrong, wrong, wrong));
        }
        for (int wrong : outside(1, 10)) {
            refuse("delay " + wrong, ARGUMENT, x -> x.addGenerator(10, wrong, 10));
        }
        addingTooMany();
    }

    private void addingTooMany() {
        if (loads == 10) {
            refuse("an 11th load, the least", STATE, x -> x.addLoad(1, 1));
            refuse("an 11th load, the greatest", STATE, x -> x.addLoad(5, 500));
        }
        if (batteries == 3) {
            refuse("a 4th battery, the least", STATE, x -> x.addBattery(1, 1, 1));
            refuse("a 4th battery, the greatest", STATE, x -> x.addBattery(20000, 500, 500));
        }
        if (generators == 3) {
            refuse("a 4th generator, the least", STATE, x -> x.addGenerator(1, 1, 1));
            refuse("a 4th generator, the greatest", STATE, x -> x.addGenerator(1000, 10, 1000));
        }
    }

    private void settingLoads() {
        for (int none : noSuch(loads, 10)) {
            refuse("switchLoad(" + none + ", true)", INDEX, x -> x.switchLoad(none, true));
            refuse("switchLoad(" + none + ", false)", INDEX, x -> x.switchLoad(none, false));
            refuse("setPower(" + none + ", 10)", INDEX, x -> x.setPower(none, 10));
            refuse("setPower(" + none + ", 0)", INDEX, x -> x.setPower(none, 0));
            refuse("setPower(" + none + ", 501)", INDEX, x -> x.setPower(none, 501));
        }
        for (int load = 0; load < loads; load++) {
            int there = load;
            for (int wrong : outside(1, 500)) {
                refuse("setPower(" + there + ", " + wrong + ")", ARGUMENT, x -> x.setPower(there, wrong));
            }
        }
    }

    private void settingGenerators() {
        for (int none : noSuch(generators, 3)) {
            refuse("refuel(" + none + ", 1)", INDEX, x -> x.refuel(none, 1));
            refuse("refuel(" + none + ", 0)", INDEX, x -> x.refuel(none, 0));
            refuse("refuel(" + none + ", 1001)", INDEX, x -> x.refuel(none, 1001));
            refuse("setFailures(" + none + ", 1)", INDEX, x -> x.setFailures(none, 1));
            refuse("setFailures(" + none + ", -1)", INDEX, x -> x.setFailures(none, -1));
            refuse("setFailures(" + none + ", 6)", INDEX, x -> x.setFailures(none, 6));
        }
        for (int generator = 0; generator < generators; generator++) {
            int there = generator;
            for (int wrong : outside(1, 1000)) {
                refuse("refuel(" + there + ", " + wrong + ")", ARGUMENT, x -> x.refuel(there, wrong));
            }
            for (int wrong : outside(0, 5)) {
                refuse("setFailures(" + there + ", " + wrong + ")", ARGUMENT,
                        x -> x.setFailures(there, wrong));
            }
        }
    }

    private void settingTests() {
        for (int none : noSuch(generators, 3)) {
            refuse("setTests(" + none + ", 2, 1)", INDEX, x -> x.setTests(none, 2, 1));
            refuse("setTests(" + none + ", -1, 1)", INDEX, x -> x.setTests(none, -1, 1));
            refuse("setTests(" + none + ", 2, 61)", INDEX, x -> x.setTests(none, 2, 61));
        }
        for (int generator = 0; generator < generators; generator++) {
            int there = generator;
            for (int wrong : outside(0, 10000)) {
                refuse("period " + wrong, ARGUMENT, x -> x.setTests(there, wrong, 1));
            }
            for (int wrong : outside(1, 60)) {
                refuse("length " + wrong, ARGUMENT, x -> x.setTests(there, 2, wrong));
                refuse("length " + wrong + " of no tests", ARGUMENT, x -> x.setTests(there, 0, wrong));
            }
        }
    }

    private void timesAndMinutes() {
        for (int wrong : outside(0, 30)) {
            refuse("start time " + wrong, ARGUMENT, x -> x.setTimes(wrong, 1));
        }
        for (int wrong : outside(1, 10)) {
            refuse("stagger time " + wrong, ARGUMENT, x -> x.setTimes(0, wrong));
            refuse("start time 31, stagger time " + wrong, ARGUMENT, x -> x.setTimes(31, wrong));
        }
        for (int wrong : outside(1, 500)) {
            refuse("pass(" + wrong + ")", ARGUMENT, x -> x.pass(wrong));
        }
    }

    private void statesAndAccounts() {
        for (int none : noSuch(loads, 10)) {
            refuse("stateOf(" + none + ")", INDEX, x -> x.stateOf(none));
            refuse("energyOf(" + none + ")", INDEX, x -> x.energyOf(none));
            refuse("darkMinutes(" + none + ")", INDEX, x -> x.darkMinutes(none));
        }
        for (int none : noSuch(batteries, 3)) {
            refuse("chargeOf(" + none + ")", INDEX, x -> x.chargeOf(none));
            refuse("capacityOf(" + none + ")", INDEX, x -> x.capacityOf(none));
        }
        for (int none : noSuch(generators, 3)) {
            refuse("generatorState(" + none + ")", INDEX, x -> x.generatorState(none));
            refuse("fuelOf(" + none + ")", INDEX, x -> x.fuelOf(none));
            refuse("failedStarts(" + none + ")", INDEX, x -> x.failedStarts(none));
            refuse("tests(" + none + ")", INDEX, x -> x.tests(none));
        }
    }

    /** The place behind the last one is not there, even where as many loads are. */
    private void orders(int served, int shed) {
        for (int none : noSuch(served, 10)) {
            refuse("shedOrder(" + none + ")", INDEX, x -> x.shedOrder(none));
        }
        for (int none : noSuch(shed, 10)) {
            refuse("returnOrder(" + none + ")", INDEX, x -> x.returnOrder(none));
        }
        for (int place = 0; place < served; place++) {
            CHECK.due(name + ", SERVED at place " + place,
                    stateAt(place, true), BackupPower.SERVED);
        }
        for (int place = 0; place < shed; place++) {
            CHECK.due(name + ", SHED at place " + place,
                    stateAt(place, false), BackupPower.SHED);
        }
    }

    private int stateAt(int place, boolean isShedding) {
        BackupPower x = site.make();
        return x.stateOf(isShedding ? x.shedOrder(place) : x.returnOrder(place));
    }
}
