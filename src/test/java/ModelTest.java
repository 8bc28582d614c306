import java.util.Random;

/** Random runs of calls, each made of a BackupPower and of a Model: the answers must be the same. */
public final class ModelTest {
    private static final Check CHECK = new Check("ModelTest");
    private static final int RUNS = 3000;
    private static final int CALLS = 300;

    private final Random random;
    private final BackupPower x = new BackupPower();
    private final Model m = new Model();
    private final boolean isTight;

    private ModelTest(long seed) {
        random = new Random(seed);
        isTight = random.nextBoolean();
    }

    // What happened in all runs together, so that a run that meets nothing is not taken for a proof.
    private static long shed, failedStarts, passedTests, failedTests, worn, returned, charged;

    public static void main(String[] args) {
        for (int seed = 0; seed < RUNS; seed++) {
            if (!new ModelTest(seed).run(seed)) {
                break;
            }
        }
        long[] met = {shed, failedStarts, passedTests, failedTests, worn, returned, charged};
        for (int i = 0; i < met.length; i++) {
            if (met[i] < RUNS) {
                CHECK.report("event " + i + " was met only " + met[i] + " times");
            }
        }
        CHECK.end();
    }

    private boolean run(int seed) {
        int first = isTight ? 8 : 14;
        for (int i = 0; i < CALLS; i++) {
            int kind = i < first ? random.nextInt(3) : random.nextInt(34);
            String call = call(kind);
            if (call != null) {
                CHECK.report("seed " + seed + ", call " + i + ": " + call);
                return false;
            }
        }
        shed += m.loads.stream().mapToLong(l -> l.dark).sum();
        failedStarts += m.generators.stream().mapToLong(g -> g.failed).sum();
        passedTests += m.generators.stream().mapToLong(g -> g.passedTests).sum();
        failedTests += m.generators.stream().mapToLong(g -> g.failedTests).sum();
        worn += m.batteries.stream().mapToLong(b -> b.wear).sum();
        returned += m.returns.size();
        charged += m.charged;
        return true;
    }

    /** A number that is mostly from 1 to most, and now and then at or past an end of the range. */
    private int number(int least, int most, int usual) {
        int dice = random.nextInt(40);
        if (dice == 0) {
            return least - 1;
        }
        if (dice == 1) {
            return most + 1;
        }
        if (dice == 2) {
            return most;
        }
        if (dice == 3) {
            return least;
        }
        return least + random.nextInt(Math.min(most, usual) - least + 1);
    }

    private int index(int size) {
        return random.nextInt(20) == 0 ? random.nextInt(14) - 2 : random.nextInt(Math.max(1, size));
    }

    private String call(int kind) {
        switch (kind) {
            case 0:
                return addLoad();
            case 1:
                return addBattery();
            case 2:
                return addGenerator();
            case 3:
            case 4:
                return setMains();
            case 5:
            case 6:
            case 7:
            case 8:
                return pass();
            case 9:
                return setTests();
            case 10:
                return setTimes();
            default:
                return kind < 18 ? callWithOne(kind) : callOfStates(kind);
        }
    }

    private String addLoad() {
        int rank = number(1, 5, 5);
        int power = number(1, 500, isTight ? 12 : 200);
        return same("addLoad(" + rank + ", " + power + ")", () -> x.addLoad(rank, power),
                () -> m.addLoad(rank, power));
    }

    private String addBattery() {
        int capacity = number(1, 20000, isTight ? 40 : 2000);
        int rate = number(1, 500, isTight ? 20 : 300);
        int charging = number(1, 500, isTight ? 10 : 100);
        return same("addBattery(" + capacity + ", " + rate + ", " + charging + ")",
                () -> x.addBattery(capacity, rate, charging), () -> m.addBattery(capacity, rate, charging));
    }

    private String addGenerator() {
        int power = number(1, 1000, isTight ? 30 : 400);
        int delay = number(1, 10, isTight ? 2 : 10);
        int tank = number(1, 1000, isTight ? 10 : 300);
        return same("addGenerator(" + power + ", " + delay + ", " + tank + ")",
                () -> x.addGenerator(power, delay, tank), () -> m.addGenerator(power, delay, tank));
    }

    private String setMains() {
        boolean isUp = random.nextBoolean();
        return same("setMains(" + isUp + ")", () -> x.setMains(isUp) ? 1 : 0, () -> m.setMains(isUp));
    }

    private String pass() {
        int minutes = number(1, 500, isTight ? 4 : 15);
        return same("pass(" + minutes + ")", () -> x.pass(minutes), () -> m.pass(minutes));
    }

    private String setTests() {
        int generator = index(m.generators.size());
        int period = number(0, 10000, isTight ? 5 : 40);
        int minutes = number(1, 60, isTight ? 4 : 20);
        return same("setTests(" + generator + ", " + period + ", " + minutes + ")",
                () -> x.setTests(generator, period, minutes), () -> m.setTests(generator, period, minutes));
    }

    private String setTimes() {
        int start = number(0, 30, isTight ? 3 : 10);
        int stagger = number(1, 10, isTight ? 3 : 10);
        return same("setTimes(" + start + ", " + stagger + ")", () -> x.setTimes(start, stagger),
                () -> m.setTimes(start, stagger));
    }

    private String callWithOne(int kind) {
        int load = index(m.loads.size());
        int generator = index(m.generators.size());
        boolean isOn = random.nextInt(3) > 0;
        int power = number(1, 500, isTight ? 12 : 200);
        int units = number(1, 1000, isTight ? 10 : 300);
        int failures = number(0, 5, 2);
        switch (kind) {
            case 11:
            case 12:
                return same("switchLoad(" + load + ", " + isOn + ")", () -> x.switchLoad(load, isOn),
                        () -> m.switchLoad(load, isOn));
            case 13:
                return same("setPower(" + load + ", " + power + ")", () -> x.setPower(load, power),
                        () -> m.setPower(load, power));
            case 14:
            case 15:
            case 16:
                return same("refuel(" + generator + ", " + units + ")", () -> x.refuel(generator, units),
                        () -> m.refuel(generator, units));
            default:
                return same("setFailures(" + generator + ", " + failures + ")",
                        () -> x.setFailures(generator, failures), () -> m.setFailures(generator, failures));
        }
    }

    private String callOfStates(int kind) {
        int i = index(11);
        switch (kind) {
            case 18: return same("time", x::time, () -> m.time);
            case 19: return same("outage", x::outage, () -> m.outage);
            case 20: return same("stateOf " + i, () -> x.stateOf(i), () -> m.stateOf(i));
            case 21: return same("demand", x::demand, m::demand);
            case 22: return same("shedOrder " + i, () -> x.shedOrder(i), () -> m.shedOrder(i));
            case 23: return same("returnOrder " + i, () -> x.returnOrder(i), () -> m.returnOrder(i));
            case 24: return same("batteryMinutes", x::batteryMinutes, m::batteryMinutes);
            case 25: return same("fromMains", x::fromMains, () -> m.mains);
            case 26: return same("fromGenerators", x::fromGenerators, () -> m.generated);
            case 27: return same("fromBatteries", x::fromBatteries, () -> m.discharged);
            case 28: return same("intoBatteries", x::intoBatteries, () -> m.charged);
            default: return callOfRows(kind);
        }
    }

    private String callOfRows(int kind) {
        int load = index(m.loads.size());
        int battery = index(m.batteries.size());
        int generator = index(m.generators.size());
        boolean hasLoad = load >= 0 && load < m.loads.size();
        boolean hasBattery = battery >= 0 && battery < m.batteries.size();
        boolean hasGenerator = generator >= 0 && generator < m.generators.size();
        Model.L l = hasLoad ? m.loads.get(load) : null;
        Model.B b = hasBattery ? m.batteries.get(battery) : null;
        Model.G g = hasGenerator ? m.generators.get(generator) : null;
        switch (kind) {
            case 29: return first(same("energyOf", () -> x.energyOf(load), () -> have(l).energy),
                    same("darkMinutes", () -> x.darkMinutes(load), () -> have(l).dark));
            case 30: return first(same("chargeOf", () -> x.chargeOf(battery), () -> have(b).charge),
                    same("capacityOf", () -> x.capacityOf(battery), () -> have(b).capacity));
            case 31: return first(same("fuelOf", () -> x.fuelOf(generator), () -> have(g).fuel),
                    same("tests", () -> x.tests(generator), () -> m.tests(generator)));
            case 32: return same("failedStarts", () -> x.failedStarts(generator), () -> have(g).failed);
            default: return same("generatorState", () -> x.generatorState(generator),
                    () -> m.generatorState(generator));
        }
    }

    private static <T> T have(T row) {
        if (row == null) {
            throw new IndexOutOfBoundsException();
        }
        return row;
    }

    private static String first(String one, String other) {
        return one != null ? one : other;
    }

    /** Null if both answer or throw the same, otherwise a text. */
    private static String same(String call, Check.Call real, Check.Call model) {
        String got = answer(real);
        String want = answer(model);
        return got.equals(want) ? null : call + " answered " + got + ", the model " + want;
    }

    private static String answer(Check.Call call) {
        try {
            return String.valueOf(call.run());
        } catch (RuntimeException e) {
            return e.getClass().getSimpleName();
        }
    }
}
