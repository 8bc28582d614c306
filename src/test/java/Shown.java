/** What an object tells, as one text. */
final class Shown {
    private static final int MINUTES = 12;

    private Shown() {
    }

    /**
     * What the object shows now, in an outage and after it, and what it was set to: all that the state
     * inside it can be told by. Takes some 370 of the 512 calls that an object is made for.
     */
    static String toTheEnd(BackupPower x) {
        StringBuilder text = new StringBuilder(of(x));
        text.append("\nmains were up: ").append(x.setMains(false));
        minutes(text, x);
        text.append("\nmains were up: ").append(x.setMains(true));
        minutes(text, x);
        text.append('\n').append(of(x));
        settings(text, x);
        return text.toString();
    }

    /** All that the object shows now. */
    static String of(BackupPower x) {
        StringBuilder text = new StringBuilder();
        text.append("time ").append(x.time()).append(" outage ").append(x.outage());
        text.append(" demand ").append(x.demand()).append(" forecast ").append(x.batteryMinutes());
        text.append(" mains ").append(x.fromMains()).append(" generators ").append(x.fromGenerators());
        text.append(" batteries ").append(x.fromBatteries()).append(" into ").append(x.intoBatteries());
        for (int i = 0; i <= 10; i++) {
            int n = i;
            row(text, "load", n, () -> x.stateOf(n), () -> x.energyOf(n), () -> x.darkMinutes(n));
            row(text, "place", n, () -> x.shedOrder(n), () -> x.returnOrder(n));
        }
        for (int i = 0; i <= 3; i++) {
            int n = i;
            row(text, "battery", n, () -> x.chargeOf(n), () -> x.capacityOf(n));
            row(text, "generator", n, () -> x.generatorState(n), () -> x.fuelOf(n),
                    () -> x.failedStarts(n), () -> x.tests(n));
        }
        return text.toString();
    }

    private static void minutes(StringBuilder text, BackupPower x) {
        for (int i = 0; i < MINUTES; i++) {
            row(text, "minute", i, () -> x.pass(1), x::demand, x::fromBatteries, x::intoBatteries,
                    () -> x.generatorState(0), () -> x.generatorState(1), () -> x.generatorState(2));
        }
    }

    private static void settings(StringBuilder text, BackupPower x) {
        for (int i = 0; i < 10; i++) {
            int n = i;
            row(text, "power", n, () -> x.setPower(n, 1));
        }
        for (int i = 0; i < 3; i++) {
            int n = i;
            row(text, "failures and period", n, () -> x.setFailures(n, 0), () -> x.setTests(n, 0, 1));
        }
        row(text, "start time", 0, () -> x.setTimes(0, 1));
    }

    private static void row(StringBuilder text, String name, int number, Check.Call... calls) {
        text.append('\n').append(name).append(' ').append(number);
        for (Check.Call call : calls) {
            text.append(' ').append(answer(call));
        }
    }

    private static String answer(Check.Call call) {
        try {
            return String.valueOf(call.run());
        } catch (IndexOutOfBoundsException e) {
            return "none";
        }
    }
}
