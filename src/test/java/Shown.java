/** All that an object shows, as one text. */
final class Shown {
    private Shown() {
    }

    static String of(BackupPower x) {
        StringBuilder text = new StringBuilder();
        text.append("time ").append(x.time()).append(" outage ").append(x.outage());
        text.append(" demand ").append(x.demand()).append(" forecast ").append(x.batteryMinutes());
        text.append(" mains ").append(x.fromMains()).append(" generators ").append(x.fromGenerators());
        text.append(" batteries ").append(x.fromBatteries()).append(" into ").append(x.intoBatteries());
        for (int i = 0; i <= 10; i++) {
            int n = i;
            row(text, "load", n, () -> x.stateOf(n), () -> x.energyOf(n), () -> x.darkMinutes(n));
            row(text, "place", n, () -> x.shedOrder(n), () -> x.returnOrder(n));
        }
        for (int i = 0; i <= 3; i++) {
            int n = i;
            row(text, "battery", n, () -> x.chargeOf(n), () -> x.capacityOf(n));
            row(text, "generator", n, () -> x.generatorState(n), () -> x.fuelOf(n),
                    () -> x.failedStarts(n), () -> x.tests(n));
        }
        return text.toString();
    }

    private static void row(StringBuilder text, String name, int number, Check.Call... calls) {
        text.append('\n').append(name).append(' ').append(number);
        for (Check.Call call : calls) {
            text.append(' ').append(answer(call));
        }
    }

    private static String answer(Check.Call call) {
        try {
            return String.valueOf(call.run());
        } catch (IndexOutOfBoundsException e) {
            return "none";
        }
    }
}
