/** Counties that several tests begin with. */
final class County {
    private County() {
    }

    /** TRIPS of 50 minutes at the DEPOT, each an hour behind the one ahead, from 480. */
    static Blockduty hourly(int trips) {
        Blockduty x = new Blockduty();
        for (int i = 0; i < trips; i++) {
            x.trip(0, 0, 0, 480 + 60 * i, 50);
        }
        return x;
    }

    /** Three hourly TRIPS in one BLOCK, with one PIECE, that the one DRIVER has. */
    static Blockduty running() {
        Blockduty x = hourly(3);
        x.block(999);
        for (int i = 0; i < 3; i++) {
            x.append(0, i);
        }
        x.cut(0);
        x.driver();
        x.give(0, 0, 0);
        return x;
    }
}
