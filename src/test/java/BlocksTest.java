/** Promises 8 to 12: blocks, and what is put into them. */
public final class BlocksTest {
    public static void main(String[] args) {
        block();
        append();
        canFollow();
        takeOff();
        uncutting();
        buildOrder();
        buildNearest();
        buildFlat();
        buildLimits();
        swap();
        swapFollow();
        swapUncuts();
        Check.end();
    }

    private static void block() {
        Blockduty x = new Blockduty();
        Check.illegal("8: CAPACITY below", x, () -> x.block(49));
        Check.illegal("8: CAPACITY above", x, () -> x.block(1000));
        for (int number = 0; number < 8; number++) {
            Check.is("8: number", number, x.block(number == 0 ? 50 : 999));
        }
        Check.is("8: CAPACITY", 50, x.ofBlock(0, 0));
        Check.is("8: no TRIPS", 0, x.ofBlock(0, 1));
        Check.is("8: no BREAKDOWN", -1, x.ofBlock(0, 2));
        Check.notNow("8: there are 8", x, () -> x.block(50));
        Check.illegal("8: CAPACITY ahead of 8", x, () -> x.block(49));
    }

    private static void append() {
        Blockduty x = County.hourly(3);
        x.block(500);
        x.block(500);
        Check.outside("9: BLOCK below", x, () -> x.append(-1, 0));
        Check.outside("9: BLOCK above", x, () -> x.append(2, 0));
        Check.outside("9: TRIP below", x, () -> x.append(0, -1));
        Check.outside("9: TRIP above", x, () -> x.append(0, 3));
        Check.is("9: one", 1, x.append(0, 0));
        Check.is("9: its BLOCK", 0, x.ofTrip(0, 6));
        Check.is("9: two", 2, x.append(0, 2));
        Check.notNow("9: in the BLOCK", x, () -> x.append(0, 0));
        Check.notNow("9: in another BLOCK", x, () -> x.append(1, 2));
        Check.notNow("9: can not FOLLOW", x, () -> x.append(0, 1));
        Check.outside("9: no BLOCK ahead of in one", x, () -> x.append(2, 2));
        Check.is("9: into the other BLOCK", 1, x.append(1, 1));
        Check.is("9: its BLOCK", 1, x.ofTrip(1, 6));
        Check.is("9: in the row", 2, x.at(0, 1));
    }

    private static void canFollow() {
        for (int wait = 3; wait <= 4; wait++) {
            Blockduty x = new Blockduty();
            x.place(1, 12, 0, false);
            x.place(2, 5, 0, false);
            x.trip(0, 0, 1, 100, 30);
            x.trip(0, 2, 0, 130 + 7 + wait, 30);
            x.delay(0, 120);
            x.block(500);
            x.append(0, 0);
            if (wait == 4) {
                Check.is("9: 4 minutes", 2, x.append(0, 1));
            } else {
                Check.notNow("9: 3 minutes", x, () -> x.append(0, 1));
            }
        }
    }

    private static void takeOff() {
        Blockduty x = County.hourly(2);
        Check.outside("10: no BLOCK", x, () -> x.takeOff(0));
        x.block(500);
        Check.notNow("10: no TRIPS", x, () -> x.takeOff(0));
        x.append(0, 0);
        x.append(0, 1);
        Check.outside("10: below", x, () -> x.takeOff(-1));
        Check.is("10: the last", 1, x.takeOff(0));
        Check.is("10: without a BLOCK", -1, x.ofTrip(1, 6));
        Check.is("10: the other", 0, x.takeOff(0));
        Check.notNow("10: no TRIPS any more", x, () -> x.takeOff(0));
        Check.is("10: put in again", 1, x.append(0, 1));
    }

    private static void uncutting() {
        Blockduty x = County.running();
        x.takeOff(0);
        Check.is("10: not CUT", 0, x.ofBlock(0, 3));
        Check.is("10: nobody's", 0, x.ofDriver(0, 0));
        Check.is("10: of no PIECE", -1, x.ofTrip(0, 7));
        Check.is("10: nor the TRIP itself", -1, x.ofTrip(2, 7));
        x.cut(0);
        x.give(0, 0, 0);
        x.append(0, 2);
        Check.is("9: not CUT", 0, x.ofBlock(0, 3));
        Check.is("9: nobody's", 0, x.ofDriver(0, 0));
        x.cut(0);
        Check.is("9: given again", 170, x.give(0, 0, 0));
        x.trip(0, 0, 0, 660, 20);
        Check.is("11: one", 1, x.build(500));
        Check.is("11: not CUT", 0, x.ofBlock(0, 3));
        Check.is("11: nobody's", 0, x.ofDriver(0, 0));
    }

    private static void buildOrder() {
        Blockduty x = new Blockduty();
        x.trip(0, 0, 0, 300, 30);
        x.trip(0, 0, 0, 200, 30);
        x.trip(0, 0, 0, 200, 40);
        x.trip(0, 0, 0, 100, 30);
        Check.illegal("11: CAPACITY below", x, () -> x.build(49));
        Check.illegal("11: CAPACITY above", x, () -> x.build(1000));
        Check.is("11: all", 4, x.build(600));
        Check.is("11: BLOCKS", 2, x.many(1));
        int[] first = {3, 1, 0, -1};
        for (int k = 0; k < first.length; k++) {
            Check.is("11: the first BLOCK", first[k], x.at(0, k));
        }
        Check.is("11: the second BLOCK", 2, x.at(1, 0));
        Check.is("11: CAPACITY", 600, x.ofBlock(1, 0));
        Check.is("11: nothing left", 0, x.build(600));
        Check.is("11: and no new BLOCKS", 2, x.many(1));
    }

    private static void buildNearest() {
        Blockduty x = new Blockduty();
        x.place(1, 20, 0, false);
        x.place(2, 25, 0, false);
        x.trip(0, 0, 0, 100, 30);
        x.trip(0, 0, 2, 100, 30);
        x.trip(0, 0, 2, 100, 30);
        x.trip(0, 1, 1, 200, 30);
        x.trip(0, 1, 1, 240, 30);
        x.block(999);
        for (int b = 1; b < 4; b++) {
            x.block(999);
            x.append(b, b - 1);
        }
        Check.is("11: two", 2, x.build(999));
        Check.is("11: the least EMPTY, the smallest number", 2, x.ofTrip(3, 6));
        Check.is("11: then the nearer one", 2, x.ofTrip(4, 6));
        Check.is("11: a BLOCK without TRIPS is left", 0, x.ofBlock(0, 1));
        Check.is("11: no new ones", 4, x.many(1));
    }

    private static void buildFlat() {
        Blockduty x = new Blockduty();
        x.place(1, 10, 0, false);
        x.trip(0, 0, 0, 100, 40);
        x.trip(0, 0, 0, 150, 10);
        x.trip(0, 0, 0, 190, 11);
        x.trip(0, 1, 1, 300, 45);
        Check.is("11: all but the longest", 3, x.build(100));
        Check.is("11: 0 is not FLAT", 0, x.ofBlock(0, 5));
        Check.is("11: FLAT with it", 1, x.ofTrip(2, 6));
        Check.is("11: FLAT alone", -1, x.ofTrip(3, 6));
        Check.is("11: no BLOCK for it", 2, x.many(1));
        Check.is("11: the CAPACITY of the new BLOCK", 1, x.build(110));
        Check.is("11: into that", 2, x.ofTrip(3, 6));
    }

    private static void buildLimits() {
        Blockduty x = new Blockduty();
        for (int i = 0; i < 9; i++) {
            x.trip(0, 0, 0, 500, 20);
        }
        Check.is("11: 8 BLOCKS", 8, x.build(100));
        Check.is("11: no ninth", 8, x.many(1));
        Check.is("11: it stays without", -1, x.ofTrip(8, 6));
        x.trip(0, 0, 0, 600, 20);
        Check.is("11: behind another one", 1, x.build(50));
        Check.is("11: of the smallest number", 0, x.ofTrip(9, 6));
        Check.is("11: with its own CAPACITY", 100, x.ofBlock(0, 0));
    }

    /** BLOCK 0 with TRIPS 0, 2, 4, and BLOCK 1 with 1, 3, that each can FOLLOW at another hour. */
    private static Blockduty two() {
        Blockduty x = County.hourly(5);
        x.block(999);
        x.block(998);
        for (int i = 0; i < 5; i++) {
            x.append(i % 2, i);
        }
        return x;
    }

    private static void swap() {
        Blockduty x = two();
        Check.outside("12: one below", x, () -> x.swap(-1, 0, 1, 0));
        Check.outside("12: one above", x, () -> x.swap(2, 0, 1, 0));
        Check.outside("12: other below", x, () -> x.swap(0, 0, -1, 0));
        Check.outside("12: other above", x, () -> x.swap(0, 0, 2, 0));
        Check.outside("12: ahead of how many", x, () -> x.swap(0, -1, 2, 0));
        Check.outside("12: ahead of the same", x, () -> x.swap(2, 0, 2, 0));
        Check.illegal("12: the same", x, () -> x.swap(1, 0, 1, 0));
        Check.illegal("12: first below", x, () -> x.swap(0, -1, 1, 0));
        Check.illegal("12: first above", x, () -> x.swap(0, 4, 1, 0));
        Check.illegal("12: others below", x, () -> x.swap(0, 0, 1, -1));
        Check.illegal("12: others above", x, () -> x.swap(0, 0, 1, 3));
        Check.is("12: moved", 3, x.swap(0, 1, 1, 1));
        row(x, 0, 0, 3);
        row(x, 1, 1, 2, 4);
        Check.is("12: CAPACITY stays", 999, x.ofBlock(0, 0));
        Check.is("12: nothing moved", 0, x.swap(0, 2, 1, 3));
        Check.is("12: all moved", 5, x.swap(0, 0, 1, 0));
        row(x, 0, 1, 2, 4);
        row(x, 1, 0, 3);
        Check.is("12: one tail only", 1, x.swap(0, 2, 1, 2));
        row(x, 0, 1, 2);
        row(x, 1, 0, 3, 4);
        x.block(50);
        Check.is("12: into a BLOCK without TRIPS", 2, x.swap(2, 0, 1, 1));
        row(x, 1, 0);
        row(x, 2, 3, 4);
    }

    private static void row(Blockduty x, int block, int... trips) {
        for (int k = 0; k < trips.length; k++) {
            Check.is("12: row of " + block, trips[k], x.at(block, k));
            if (trips[k] >= 0) {
                Check.is("12: its BLOCK", block, x.ofTrip(trips[k], 6));
            }
        }
        Check.is("12: row of " + block + " ends", -1, x.at(block, trips.length));
    }

    private static void swapFollow() {
        Blockduty x = two();
        x.cut(0);
        Check.notNow("12: behind the first", x, () -> x.swap(0, 2, 1, 0));
        Check.notNow("12: behind the other", x, () -> x.swap(0, 0, 1, 1));
        Check.is("12: still CUT", 1, x.ofBlock(0, 3));
        row(x, 0, 0, 2, 4);
        row(x, 1, 1, 3);
        // FLAT BLOCKS do not hinder.
        Blockduty flat = County.hourly(2);
        flat.block(50);
        flat.block(999);
        flat.append(1, 0);
        flat.append(1, 1);
        Check.is("12: FLAT then", 2, flat.swap(0, 0, 1, 0));
        Check.is("12: it is FLAT", 1, flat.ofBlock(0, 4));
    }

    private static void swapUncuts() {
        Blockduty x = two();
        x.driver();
        x.driver();
        x.cut(0);
        x.cut(1);
        x.give(0, 0, 0);
        x.give(1, 0, 1);
        Check.is("12: all run", 5, x.many(4));
        Check.is("12: nothing moves", 0, x.swap(0, 3, 1, 2));
        for (int b = 0; b < 2; b++) {
            Check.is("12: not CUT", 0, x.ofBlock(b, 3));
            Check.is("12: nobody's", 0, x.ofDriver(b, 0));
        }
        for (int t = 0; t < 5; t++) {
            Check.is("12: of no PIECE", -1, x.ofTrip(t, 7));
        }
        Check.is("12: nobody drives", 5, x.lost(4));
        x.cut(0);
        x.give(0, 0, 0);
        Check.is("12: one moves", 1, x.swap(1, 2, 0, 2));
        Check.is("12: the other one is not CUT either", 0, x.ofBlock(0, 3));
        Check.is("12: nobody's", 0, x.ofDriver(0, 1));
    }
}
