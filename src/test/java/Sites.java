/** Objects that several tests begin with. */
final class Sites {
    private Sites() {
    }

    /** No device yet, the mains down for no minute yet. */
    static BackupPower outage(int start, int stagger) {
        BackupPower x = new BackupPower();
        x.setTimes(start, stagger);
        x.setMains(false);
        return x;
    }

    /** The mains up, and loads that are SERVED: each a rank and a power. */
    static BackupPower withLoads(int... ranksAndPowers) {
        BackupPower x = new BackupPower();
        for (int i = 0; i < ranksAndPowers.length; i += 2) {
            x.addLoad(ranksAndPowers[i], ranksAndPowers[i + 1]);
        }
        return x;
    }
}
