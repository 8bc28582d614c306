/**
 * A manager of backup power for a site: mains, batteries, generators and ranked loads, moved on
 * minute by minute. ../shared/DOC.md says what each call promises.
 */
public final class BackupPower {
    public static final int NONE = -1;
    public static final int OFF = 0, SERVED = 1, SHED = 2;
    public static final int STOPPED = 0, STARTING = 1, RUNNING = 2;

    private static final int MAX_LOADS = 10, MAX_BATTERIES = 3, MAX_GENERATORS = 3;
    private static final int MAX_RANK = 5, MAX_POWER = 500;
    private static final int MAX_CAPACITY = 20000, MAX_RATE = 500;
    private static final int MAX_OUTPUT = 1000, MAX_DELAY = 10, MAX_FUEL = 1000, MAX_FAILURES = 5;
    private static final int MAX_PERIOD = 10000, MAX_TEST_MINUTES = 60;
    private static final int MAX_START = 30, MAX_STAGGER = 10, MAX_PASS = 500;
    private static final int MAX_CHARGE = MAX_BATTERIES * MAX_RATE;
    private static final int POWER_PER_FUEL = 50;
    private static final int MAX_FORECAST = 1000;
    private static final int ON_TEST = 10;
    private static final int PASSED_TEST = 1000;

    // Every row is made once, here. One that has not been added yet is OFF or STOPPED and empty:
    // it needs, gives and takes nothing, and so the loops of a minute may go over all rows.
    private final Load[] loads = new Load[MAX_LOADS];
    private final Battery[] batteries = new Battery[MAX_BATTERIES];
    private final Generator[] generators = new Generator[MAX_GENERATORS];
    private int loadCount;
    private int batteryCount;
    private int generatorCount;

    private boolean mainsUp = true;
    private int minutesPassed;
    private int outageMinutes;
    private int startTime = 2;
    private int staggerTime = 1;
    private int latestReturn = NONE;

    private int mainsEnergy;
    private int generatorEnergy;
    private int batteryEnergy;
    private int chargedEnergy;

    public BackupPower() {
        for (int i = 0; i < loads.length; i++) {
            loads[i] = new Load(i);
        }
        for (int i = 0; i < batteries.length; i++) {
            batteries[i] = new Battery();
        }
        for (int i = 0; i < generators.length; i++) {
            generators[i] = new Generator();
        }
    }

    // ---- devices

    public int addLoad(int rank, int power) throws IllegalArgumentException, IllegalStateException {
        if (isOutside(rank, 1, MAX_RANK) || isOutside(power, 1, MAX_POWER)) {
            throw new IllegalArgumentException("rank or power is out of range");
        }
        if (loadCount >= loads.length) {
            throw new IllegalStateException("there are 10 loads");
        }
        loads[loadCount].install(rank, power, mainsUp ? SERVED : SHED);
        loadCount++;
        return loadCount - 1;
    }

    public int addBattery(int capacity, int rate, int charging)
            throws IllegalArgumentException, IllegalStateException {
        if (isOutside(capacity, 1, MAX_CAPACITY) || isOutside(rate, 1, MAX_RATE)
                || isOutside(charging, 1, MAX_RATE)) {
            throw new IllegalArgumentException("capacity, rate or charging is out of range");
        }
        if (batteryCount >= batteries.length) {
            throw new IllegalStateException("there are 3 batteries");
        }
        batteries[batteryCount].install(capacity, rate, charging);
        batteryCount++;
        return batteryCount - 1;
    }

    public int addGenerator(int power, int delay, int tank)
            throws IllegalArgumentException, IllegalStateException {
        if (isOutside(power, 1, MAX_OUTPUT) || isOutside(delay, 1, MAX_DELAY)
                || isOutside(tank, 1, MAX_FUEL)) {
            throw new IllegalArgumentException("power, delay or tank is out of range");
        }
        if (generatorCount >= generators.length) {
            throw new IllegalStateException("there are 3 generators");
        }
        generators[generatorCount].install(power, delay, tank);
        generatorCount++;
        return generatorCount - 1;
    }

    public int switchLoad(int load, boolean isOn) throws IndexOutOfBoundsException {
        Load row = findLoad(load);
        if (!isOn) {
            row.state = OFF;
        } else if (row.state == OFF) {
            row.state = SHED;
        }
        return row.state;
    }

    public int setPower(int load, int power)
            throws IndexOutOfBoundsException, IllegalArgumentException {
        Load row = findLoad(load);
        if (isOutside(power, 1, MAX_POWER)) {
            throw new IllegalArgumentException("power is out of range");
        }
        int before = row.power;
        row.power = power;
        return before;
    }

    public int refuel(int generator, int units)
            throws IndexOutOfBoundsException, IllegalArgumentException {
        Generator row = findGenerator(generator);
        if (isOutside(units, 1, MAX_FUEL)) {
            throw new IllegalArgumentException("units is out of range");
        }
        int filled = Math.min(units, row.tank - row.fuel);
        row.fuel += filled;
        return filled;
    }

    public int setFailures(int generator, int failures)
            throws IndexOutOfBoundsException, IllegalArgumentException {
        Generator row = findGenerator(generator);
        if (isOutside(failures, 0, MAX_FAILURES)) {
            throw new IllegalArgumentException("failures is out of range");
        }
        int before = row.failuresToCome;
        row.failuresToCome = failures;
        return before;
    }

    public int setTests(int generator, int period, int minutes)
            throws IndexOutOfBoundsException, IllegalArgumentException {
        Generator row = findGenerator(generator);
        if (isOutside(period, 0, MAX_PERIOD) || isOutside(minutes, 1, MAX_TEST_MINUTES)) {
            throw new IllegalArgumentException("period or minutes is out of range");
        }
        int before = row.testPeriod;
        row.testPeriod = period;
        row.testMinutes = minutes;
        return before;
    }

    public int setTimes(int start, int stagger) throws IllegalArgumentException {
        if (isOutside(start, 0, MAX_START) || isOutside(stagger, 1, MAX_STAGGER)) {
            throw new IllegalArgumentException("start or stagger is out of range");
        }
        int before = startTime;
        startTime = start;
        staggerTime = stagger;
        return before;
    }

    // ---- what happens

    public boolean setMains(boolean isUp) {
        boolean before = mainsUp;
        mainsUp = isUp;
        return before;
    }

    public int pass(int minutes) throws IllegalArgumentException {
        if (isOutside(minutes, 1, MAX_PASS)) {
            throw new IllegalArgumentException("minutes is out of range");
        }
        int shed = 0;
        for (int i = 0; i < minutes; i++) {
            shed += passOneMinute();
        }
        return shed;
    }

    // ---- states

    public int time() {
        return minutesPassed;
    }

    public int outage() {
        return outageMinutes;
    }

    public int stateOf(int load) throws IndexOutOfBoundsException {
        return findLoad(load).state;
    }

    public int demand() {
        int sum = 0;
        for (Load load : loads) {
            if (load.state == SERVED) {
                sum += load.power;
            }
        }
        return sum;
    }

    public int shedOrder(int place) throws IndexOutOfBoundsException {
        return findInOrder(SERVED, place).number;
    }

    public int returnOrder(int place) throws IndexOutOfBoundsException {
        return findInOrder(SHED, place).number;
    }

    public int chargeOf(int battery) throws IndexOutOfBoundsException {
        return findBattery(battery).charge;
    }

    public int capacityOf(int battery) throws IndexOutOfBoundsException {
        return findBattery(battery).capacity;
    }

    public int generatorState(int generator) throws IndexOutOfBoundsException {
        Generator row = findGenerator(generator);
        return row.onTest ? row.state + ON_TEST : row.state;
    }

    public int fuelOf(int generator) throws IndexOutOfBoundsException {
        return findGenerator(generator).fuel;
    }

    public int batteryMinutes() {
        int need = demand();
        for (Battery battery : batteries) {
            battery.forecast = battery.charge;
        }
        int minutes = 0;
        while (minutes < MAX_FORECAST && forecastOneMinute(need)) {
            minutes++;
        }
        return minutes;
    }

    // ---- accounts

    public int energyOf(int load) throws IndexOutOfBoundsException {
        return findLoad(load).energy;
    }

    public int darkMinutes(int load) throws IndexOutOfBoundsException {
        return findLoad(load).minutesShed;
    }

    public int fromMains() {
        return mainsEnergy;
    }

    public int fromGenerators() {
        return generatorEnergy;
    }

    public int fromBatteries() {
        return batteryEnergy;
    }

    public int intoBatteries() {
        return chargedEnergy;
    }

    public int failedStarts(int generator) throws IndexOutOfBoundsException {
        return findGenerator(generator).startsFailed;
    }

    public int tests(int generator) throws IndexOutOfBoundsException {
        Generator row = findGenerator(generator);
        return PASSED_TEST * row.testsPassed + row.testsFailed;
    }

    // ---- arguments

    private static boolean isOutside(int value, int least, int most) {
        return value < least || value > most;
    }

    private Load findLoad(int load) {
        if (load < 0 || load >= loadCount) {
            throw new IndexOutOfBoundsException("there is no such load");
        }
        return loads[load];
    }

    private Battery findBattery(int battery) {
        if (battery < 0 || battery >= batteryCount) {
            throw new IndexOutOfBoundsException("there is no such battery");
        }
        return batteries[battery];
    }

    private Generator findGenerator(int generator) {
        if (generator < 0 || generator >= generatorCount) {
            throw new IndexOutOfBoundsException("there is no such generator");
        }
        return generators[generator];
    }

    private Load findInOrder(int state, int place) {
        for (Load load : loads) {
            if (load.state == state && countAheadOf(load) == place) {
                return load;
            }
        }
        throw new IndexOutOfBoundsException("there is no such place");
    }

    // ---- a minute

    private int passOneMinute() {
        for (Battery battery : batteries) {
            battery.chargeAhead = battery.charge;
        }
        minutesPassed++;
        outageMinutes = mainsUp ? 0 : outageMinutes + 1;
        moveGenerators();
        int shed = mainsUp ? 0 : shedLoads();
        if (shed == 0) {
            returnLoad();
        }
        serveLoads();
        chargeBatteries();
        for (Generator generator : generators) {
            generator.burnFuel();
        }
        for (Battery battery : batteries) {
            battery.wearOut();
        }
        return shed;
    }

    private void moveGenerators() {
        for (Generator generator : generators) {
            generator.given = 0;
            switch (generator.state) {
                case STOPPED:
                    beginStart(generator);
                    break;
                case STARTING:
                    generator.goOnStarting();
                    break;
                default:
                    generator.goOnRunning(mainsUp);
                    break;
            }
        }
    }

    private void beginStart(Generator generator) {
        if (generator.fuel == 0) {
            return;
        }
        boolean isNeeded = !mainsUp && outageMinutes >= startTime;
        boolean isTestDue = mainsUp && generator.testPeriod > 0
                && minutesPassed % generator.testPeriod == 0;
        if (isNeeded || isTestDue) {
            generator.state = STARTING;
            generator.onTest = isTestDue;
            generator.minutesToGo = generator.delay;
        }
    }

    private int shedLoads() {
        int supply = sumGeneratorPower() + sumBatteryPower();
        int need = demand();
        int shed = 0;
        while (need > supply && shed < MAX_LOADS) {
            Load first = firstInOrder(SERVED);
            if (first == null) {
                break;
            }
            first.state = SHED;
            need -= first.power;
            shed++;
        }
        return shed;
    }

    private void returnLoad() {
        if (latestReturn != NONE && minutesPassed - latestReturn < staggerTime) {
            return;
        }
        Load first = firstInOrder(SHED);
        if (first == null) {
            return;
        }
        if (mainsUp || demand() + first.power <= sumGeneratorPower()) {
            first.state = SERVED;
            latestReturn = minutesPassed;
        }
    }

    private void serveLoads() {
        int need = 0;
        for (Load load : loads) {
            if (load.state == SERVED) {
                load.energy += load.power;
                need += load.power;
            } else if (load.state == SHED) {
                load.minutesShed++;
            }
        }
        if (mainsUp) {
            mainsEnergy += need;
            return;
        }
        int given = drawFromGenerators(need);
        generatorEnergy += given;
        batteryEnergy += drawFromBatteries(need - given);
    }

    private void chargeBatteries() {
        if (mainsUp) {
            chargedEnergy += fillBatteries(MAX_CHARGE);
            return;
        }
        int left = 0;
        for (Generator generator : generators) {
            left += generator.powerLeft();
        }
        int charged = fillBatteries(left);
        drawFromGenerators(charged);
        chargedEnergy += charged;
    }

    private int drawFromGenerators(int need) {
        int drawn = 0;
        for (Generator generator : generators) {
            int part = Math.min(generator.powerLeft(), need - drawn);
            generator.given += part;
            drawn += part;
        }
        return drawn;
    }

    private int drawFromBatteries(int need) {
        int drawn = 0;
        for (Battery battery : batteries) {
            int part = Math.min(battery.canGive(), need - drawn);
            battery.charge -= part;
            drawn += part;
        }
        return drawn;
    }

    private int fillBatteries(int most) {
        int filled = 0;
        for (Battery battery : batteries) {
            int part = Math.min(battery.canTake(), most - filled);
            battery.charge += part;
            filled += part;
        }
        return filled;
    }

    /** Gives a minute's need from the forecast charges; false, and nothing given, if they can't. */
    private boolean forecastOneMinute(int need) {
        int supply = 0;
        for (Battery battery : batteries) {
            supply += Math.min(battery.rate, battery.forecast);
        }
        if (supply < need) {
            return false;
        }
        int left = need;
        for (Battery battery : batteries) {
            int part = Math.min(Math.min(battery.rate, battery.forecast), left);
            battery.forecast -= part;
            left -= part;
        }
        return true;
    }

    // ---- sums and orders

    private int sumGeneratorPower() {
        int sum = 0;
        for (Generator generator : generators) {
            if (generator.isSupplying()) {
                sum += generator.power;
            }
        }
        return sum;
    }

    private int sumBatteryPower() {
        int sum = 0;
        for (Battery battery : batteries) {
            sum += battery.canGive();
        }
        return sum;
    }

    /** The first load of a state in the order of that state; null if no load is in it. */
    private Load firstInOrder(int state) {
        Load first = null;
        for (Load load : loads) {
            if (load.state == state && (first == null || load.goesAheadOf(first))) {
                first = load;
            }
        }
        return first;
    }

    private int countAheadOf(Load load) {
        int count = 0;
        for (Load other : loads) {
            if (other.state == load.state && other.goesAheadOf(load)) {
                count++;
            }
        }
        return count;
    }

    private static final class Load {
        final int number;
        int rank;
        int power;
        int state = OFF;
        int energy;
        int minutesShed;

        Load(int number) {
            this.number = number;
        }

        void install(int newRank, int newPower, int newState) {
            rank = newRank;
            power = newPower;
            state = newState;
        }

        /** Compares two loads of one state: SERVED ones as they are shed, SHED ones as they return. */
        boolean goesAheadOf(Load other) {
            return state == SERVED ? isShedAheadOf(other) : other.isShedAheadOf(this);
        }

        private boolean isShedAheadOf(Load other) {
            if (rank != other.rank) {
                return rank > other.rank;
            }
            if (power != other.power) {
                return power > other.power;
            }
            return number > other.number;
        }
    }

    private static final class Battery {
        int capacity;
        int charge;
        int rate;
        int chargingRate;
        int chargeAhead;
        int forecast;

        void install(int newCapacity, int newRate, int newChargingRate) {
            capacity = newCapacity;
            charge = newCapacity;
            rate = newRate;
            chargingRate = newChargingRate;
        }

        int canGive() {
            return Math.min(rate, charge);
        }

        int canTake() {
            return Math.min(chargingRate, capacity - charge);
        }

        void wearOut() {
            if (chargeAhead > 0 && charge == 0 && capacity > 1) {
                capacity--;
            }
        }
    }

    private static final class Generator {
        int power;
        int delay;
        int tank;
        int fuel;
        int state = STOPPED;
        boolean onTest;
        int minutesToGo;
        int minutesRun;
        int given;
        int failuresToCome;
        int startsFailed;
        int testPeriod;
        int testMinutes;
        int testsPassed;
        int testsFailed;

        void install(int newPower, int newDelay, int newTank) {
            power = newPower;
            delay = newDelay;
            tank = newTank;
            fuel = newTank;
        }

        boolean isSupplying() {
            return state == RUNNING && !onTest;
        }

        int powerLeft() {
            return isSupplying() ? power - given : 0;
        }

        void goOnStarting() {
            minutesToGo--;
            if (minutesToGo > 0) {
                return;
            }
            if (failuresToCome > 0) {
                failuresToCome--;
                startsFailed++;
                stopFailing();
            } else {
                state = RUNNING;
                minutesRun = 1;
            }
        }

        void goOnRunning(boolean isMainsUp) {
            if (!isMainsUp) {
                onTest = false;
            } else if (!onTest) {
                state = STOPPED;
            } else if (minutesRun >= testMinutes) {
                state = STOPPED;
                onTest = false;
                testsPassed++;
            } else {
                minutesRun++;
            }
        }

        void burnFuel() {
            if (state != RUNNING) {
                return;
            }
            int burnt = Math.max(1, (given + POWER_PER_FUEL - 1) / POWER_PER_FUEL);
            fuel = Math.max(0, fuel - burnt);
            if (fuel == 0) {
                stopFailing();
            }
        }

        private void stopFailing() {
            if (onTest) {
                testsFailed++;
            }
            state = STOPPED;
            onTest = false;
        }
    }
}
