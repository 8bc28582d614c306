import java.util.ArrayList;
import java.util.Comparator;
import java.util.List;

/**
 * The promises once more, written from the document in another way than BackupPower: it remembers
 * points of time instead of counting down, sorts lists, and keeps the state ahead of a minute.
 */
final class Model {
    static final class L {
        int number, rank, power, state;
        long energy, dark;
    }

    static final class B {
        int capacity, charge, rate, charging, wear;
    }

    static final class G {
        int power, delay, tank, fuel, failures, period, length, failed, passedTests, failedTests;
        int state;
        boolean test;
        int startedAt, runningSince;
        int gave;
    }

    private static final Comparator<L> SHEDDING = Comparator.<L>comparingInt(l -> -l.rank)
            .thenComparingInt(l -> -l.power).thenComparingInt(l -> -l.number);

    final List<L> loads = new ArrayList<>();
    final List<B> batteries = new ArrayList<>();
    final List<G> generators = new ArrayList<>();
    boolean up = true;
    int time, outage, start = 2, stagger = 1;
    final List<Integer> returns = new ArrayList<>();
    long mains, generated, discharged, charged;

    private static void argument(boolean isRight) {
        if (!isRight) {
            throw new IllegalArgumentException();
        }
    }

    private static void room(boolean isThere) {
        if (!isThere) {
            throw new IllegalStateException();
        }
    }

    private static <T> T at(List<T> list, int i) {
        if (i < 0 || i >= list.size()) {
            throw new IndexOutOfBoundsException();
        }
        return list.get(i);
    }

    long addLoad(int rank, int power) {
        argument(rank >= 1 && rank <= 5 && power >= 1 && power <= 500);
        room(loads.size() < 10);
        L l = new L();
        l.number = loads.size();
        l.rank = rank;
        l.power = power;
        l.state = up ? 1 : 2;
        loads.add(l);
        return l.number;
    }

    long addBattery(int capacity, int rate, int charging) {
        argument(capacity >= 1 && capacity <= 20000 && rate >= 1 && rate <= 500);
        argument(charging >= 1 && charging <= 500);
        room(batteries.size() < 3);
        B b = new B();
        b.capacity = b.charge = capacity;
        b.rate = rate;
        b.charging = charging;
        batteries.add(b);
        return batteries.size() - 1;
    }

    long addGenerator(int power, int delay, int tank) {
        argument(power >= 1 && power <= 1000 && delay >= 1 && delay <= 10 && tank >= 1 && tank <= 1000);
        room(generators.size() < 3);
        G g = new G();
        g.power = power;
        g.delay = delay;
        g.tank = g.fuel = tank;
        generators.add(g);
        return generators.size() - 1;
    }

    long switchLoad(int load, boolean on) {
        L l = at(loads, load);
        l.state = on ? (l.state == 0 ? 2 : l.state) : 0;
        return l.state;
    }

    long setPower(int load, int power) {
        L l = at(loads, load);
        argument(power >= 1 && power <= 500);
        int old = l.power;
        l.power = power;
        return old;
    }

    long refuel(int generator, int units) {
        G g = at(generators, generator);
        argument(units >= 1 && units <= 1000);
        int old = g.fuel;
        g.fuel = Math.min(g.tank, g.fuel + units);
        return g.fuel - old;
    }

    long setFailures(int generator, int failures) {
        G g = at(generators, generator);
        argument(failures >= 0 && failures <= 5);
        int old = g.failures;
        g.failures = failures;
        return old;
    }

    long setTests(int generator, int period, int minutes) {
        G g = at(generators, generator);
        argument(period >= 0 && period <= 10000 && minutes >= 1 && minutes <= 60);
        int old = g.period;
        g.period = period;
        g.length = minutes;
        return old;
    }

    long setTimes(int newStart, int newStagger) {
        argument(newStart >= 0 && newStart <= 30 && newStagger >= 1 && newStagger <= 10);
        int old = start;
        start = newStart;
        stagger = newStagger;
        return old;
    }

    long setMains(boolean isUp) {
        boolean old = up;
        up = isUp;
        return old ? 1 : 0;
    }

    long pass(int minutes) {
        argument(minutes >= 1 && minutes <= 500);
        long shed = 0;
        for (int i = 0; i < minutes; i++) {
            shed += minute();
        }
        return shed;
    }

    long stateOf(int load) {
        return at(loads, load).state;
    }

    long demand() {
        return in(1).stream().mapToLong(l -> l.power).sum();
    }

    long shedOrder(int place) {
        List<L> list = in(1);
        list.sort(SHEDDING);
        return at(list, place).number;
    }

    long returnOrder(int place) {
        List<L> list = in(2);
        list.sort(SHEDDING.reversed());
        return at(list, place).number;
    }

    long generatorState(int generator) {
        G g = at(generators, generator);
        return g.state + (g.test ? 10 : 0);
    }

    long tests(int generator) {
        G g = at(generators, generator);
        return 1000L * g.passedTests + g.failedTests;
    }

    long batteryMinutes() {
        List<Integer> charges = new ArrayList<>();
        batteries.forEach(b -> charges.add(b.charge));
        for (int minute = 0; minute < 1000; minute++) {
            long missing = demand();
            for (int i = 0; i < charges.size(); i++) {
                long part = Math.min(missing, Math.min(batteries.get(i).rate, charges.get(i)));
                charges.set(i, (int) (charges.get(i) - part));
                missing -= part;
            }
            if (missing > 0) {
                return minute;
            }
        }
        return 1000;
    }

    private List<L> in(int state) {
        List<L> list = new ArrayList<>();
        for (L l : loads) {
            if (l.state == state) {
                list.add(l);
            }
        }
        return list;
    }

    private boolean gives(G g) {
        return g.state == 2 && !g.test;
    }

    private long minute() {
        time++;
        outage = up ? 0 : outage + 1;
        List<Boolean> charged = new ArrayList<>();
        batteries.forEach(b -> charged.add(b.charge > 0));
        generators.forEach(this::turn);
        long shed = up ? 0 : shed();
        if (shed == 0) {
            giveBack();
        }
        long need = demand();
        in(1).forEach(l -> l.energy += l.power);
        in(2).forEach(l -> l.dark++);
        if (up) {
            mains += need;
            for (B b : batteries) {
                charge(b, b.charging);
            }
        } else {
            serve(need);
        }
        generators.forEach(this::burn);
        for (int i = 0; i < batteries.size(); i++) {
            B b = batteries.get(i);
            if (charged.get(i) && b.charge == 0) {
                b.capacity = Math.max(1, b.capacity - 1);
                b.wear++;
            }
        }
        return shed;
    }

    private void turn(G g) {
        g.gave = 0;
        if (g.state == 0) {
            boolean forOutage = !up && outage >= start;
            boolean forTest = up && g.period != 0 && time % g.period == 0;
            if (g.fuel > 0 && (forOutage || forTest)) {
                g.state = 1;
                g.startedAt = time;
                g.test = forTest;
            }
        } else if (g.state == 1) {
            if (time == g.startedAt + g.delay) {
                finishStart(g);
            }
        } else if (!up) {
            g.test = false;
        } else if (!g.test || time - g.runningSince >= g.length) {
            g.passedTests += g.test ? 1 : 0;
            g.test = false;
            g.state = 0;
        }
    }

    private void finishStart(G g) {
        if (g.failures == 0) {
            g.state = 2;
            g.runningSince = time;
            return;
        }
        g.failures--;
        g.failed++;
        g.failedTests += g.test ? 1 : 0;
        g.test = false;
        g.state = 0;
    }

    private long canGenerate() {
        return generators.stream().filter(this::gives).mapToLong(g -> g.power).sum();
    }

    private long shed() {
        long can = canGenerate() + batteries.stream().mapToLong(b -> Math.min(b.rate, b.charge)).sum();
        long count = 0;
        while (demand() > can) {
            loads.get((int) shedOrder(0)).state = 2;
            count++;
        }
        return count;
    }

    private void giveBack() {
        boolean isTime = returns.isEmpty() || returns.get(returns.size() - 1) + stagger <= time;
        if (!isTime || in(2).isEmpty()) {
            return;
        }
        L first = loads.get((int) returnOrder(0));
        if (up || demand() + first.power <= canGenerate()) {
            first.state = 1;
            returns.add(time);
        }
    }

    private void serve(long need) {
        // One unit after the other: for loads from generators, then from batteries.
        long missing = need;
        for (G g : generators) {
            while (gives(g) && g.gave < g.power && missing > 0) {
                g.gave++;
                generated++;
                missing--;
            }
        }
        for (B b : batteries) {
            for (int given = 0; given < b.rate && b.charge > 0 && missing > 0; given++) {
                b.charge--;
                discharged++;
                missing--;
            }
        }
        if (missing > 0) {
            throw new AssertionError("loads without power");
        }
        for (B b : batteries) {
            int got = 0;
            for (G g : generators) {
                while (gives(g) && g.gave < g.power && got < b.charging && b.charge < b.capacity) {
                    g.gave++;
                    got++;
                    charge(b, 1);
                }
            }
        }
    }

    private void charge(B b, int most) {
        int part = Math.min(most, b.capacity - b.charge);
        b.charge += part;
        charged += part;
    }

    private void burn(G g) {
        if (g.state != 2) {
            return;
        }
        int units = g.gave / 50 + (g.gave % 50 > 0 || g.gave == 0 ? 1 : 0);
        g.fuel -= Math.min(g.fuel, units);
        if (g.fuel == 0) {
            g.failedTests += g.test ? 1 : 0;
            g.test = false;
            g.state = 0;
        }
    }
}
