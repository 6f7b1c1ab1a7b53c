/** Counties that several tests begin with. */
final class County {
    private County() {
    }

    /** TRIPS of 50 minutes at the DEPOT, each an hour behind the one ahead, from 480. */
    static Blockduty hourly(int trips) {
        Blockduty x = new Blockduty();
        for (int i = 0; i < trips; i++) {
            x.trip(0, 0, 0, 480 + 60 * i, 50);
        }
        return x;
    }

    /** Three hourly TRIPS in one BLOCK, with one PIECE, that the one DRIVER has. */
    static Blockduty running() {
        Blockduty x = hourly(3);
        runInOneBlock(x);
        return x;
    }

    /** Puts all TRIPS, in their order, into a first BLOCK with one PIECE, that a DRIVER gets. */
    static void runInOneBlock(Blockduty x) {
        x.block(999);
        for (int i = 0; i < x.many(0); i++) {
            x.append(0, i);
        }
        x.cut(0);
        x.driver();
        x.give(0, 0, 0);
    }
}
