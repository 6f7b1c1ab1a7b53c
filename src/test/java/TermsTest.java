/** The sentences of "Terms", each at its boundary and at the value on the other side of it. */
public final class TermsTest {
    public static void main(String[] args) {
        placesAtFirst();
        powerEnds();
        emptyBetweenPlaces();
        endGoesOnBehindMidnight();
        followByFourMinutes();
        followSameStart();
        batteryAtAnEnd();
        batteryBehindAnEmpty();
        batteryAtLast();
        batteryGains();
        batteryOfCold();
        buildByStart();
        buildIntoBlocksWithTrips();
        buildNotFlat();
        buildNextNearest();
        buildNewBlocks();
        buildGoesOn();
        spread();
        drive();
        waitEndsSpell();
        longestPiece();
        numbersOfPieces();
        uncutsOnlyThat();
        givenMinutes();
        givenGap();
        realStart();
        brokenDown();
        lateByThirty();
        behindMidnight();
        payOfLateTrips();
        fines();
        worked();
        paid();
        mayDelayToItsEnd();
        mayDelayBeyond();
        mayDelayFromNought();
        bestSwapOfMany();
        Check.end();
    }

    /** All TRIPS, in their order, into a new BLOCK; answers that. */
    private static int intoOne(Blockduty x, int capacity) {
        int block = x.block(capacity);
        for (int trip = 0; trip < x.many(0); trip++) {
            x.append(block, trip);
        }
        return block;
    }

    private static int pieces(Blockduty x, int spread, int drive) {
        x.rules(spread, drive);
        return x.cut(intoOne(x, 999));
    }

    private static void notCut(String label, Blockduty x, int spread, int drive) {
        x.rules(spread, drive);
        int block = intoOne(x, 999);
        Check.notNow(label, x, () -> x.cut(block));
        Check.is(label + ": not CUT", 0, x.ofBlock(block, 3));
    }

    // ---- 1 PLACES, LINES and TRIPS

    private static void placesAtFirst() {
        for (int place = 0; place < 8; place++) {
            Blockduty x = new Blockduty();
            x.trip(0, 0, place, 100, 50);
            x.trip(0, place, 0, 160, 50);
            intoOne(x, 250);
            Check.is("X of " + place, 0, x.ofBlock(0, 6));
            Check.is("POWER of " + place, 250 - 200, x.ofBlock(0, 5));
            x.rules(100, 60);
            int at = place;
            if (place == 0) {
                Check.is("a RELIEF place is " + at, 2, x.cut(0));
            } else {
                Check.notNow("no RELIEF place is " + at, x, () -> x.cut(0));
            }
        }
    }

    private static void powerEnds() {
        for (int power = 0; power <= 5; power++) {
            Blockduty x = new Blockduty();
            x.place(7, 0, power, false);
            x.trip(0, 0, 0, 100, 20);
            x.trip(0, 7, 0, 124, 20);
            intoOne(x, 200);
            Check.is("4 minutes of POWER " + power, 200 - 40 + 4 * power - 40, x.ofBlock(0, 5));
        }
    }

    private static void emptyBetweenPlaces() {
        int[][] ends = {{0, 60}, {60, 0}, {60, 60}, {0, 0}, {31, 30}, {30, 31}};
        int[] due = {60, 60, 0, 0, 1, 1};
        for (int i = 0; i < ends.length; i++) {
            Blockduty x = new Blockduty();
            x.place(0, ends[i][0], 0, true);
            x.place(7, ends[i][1], 0, true);
            x.trip(0, 7, 7, 100, 20);
            intoOne(x, 999);
            Check.is("EMPTY to and from, pair " + i, 2 * due[i], x.ofBlock(0, 6));
            Check.is("its battery, pair " + i, 999 - 40 - 2 * due[i], x.ofBlock(0, 5));
        }
    }

    private static void endGoesOnBehindMidnight() {
        Blockduty x = new Blockduty();
        x.trip(0, 0, 0, 1439, 120);
        x.trip(0, 0, 0, 1200, 120);
        x.trip(0, 0, 0, 0, 5);
        Check.is("END", 1559, x.ofTrip(0, 4));
        Check.is("the first minutes are no FOLLOWERS", 1, x.leastBlocks());
        x.block(999);
        x.append(0, 0);
        Check.notNow("1439 to 0", x, () -> x.append(0, 2));
        x.takeOff(0);
        x.append(0, 2);
        x.append(0, 1);
        x.append(0, 0);
        Check.is("in the order of time", 2, x.cut(0));
        Check.is("behind midnight", 1559 - 1200, x.ofPiece(0, 1, 3));
    }

    /** A TRIP that ends 7 EMPTY minutes away from where the other one begins, and so much later. */
    private static Blockduty twoTrips(int wait) {
        Blockduty x = new Blockduty();
        x.place(1, 12, 0, false);
        x.place(2, 5, 0, false);
        x.trip(0, 0, 1, 100, 30);
        x.trip(0, 2, 0, 130 + 7 + wait, 30);
        return x;
    }

    private static void followByFourMinutes() {
        for (int wait = 3; wait <= 5; wait++) {
            boolean follows = wait >= 4;
            Check.is("leastBlocks " + wait, follows ? 1 : 2, twoTrips(wait).leastBlocks());
            Blockduty built = twoTrips(wait);
            Check.is("build " + wait, 2, built.build(999));
            Check.is("BLOCKS of build " + wait, follows ? 1 : 2, built.many(1));
            Blockduty x = twoTrips(wait);
            x.block(999);
            x.block(999);
            x.append(0, 0);
            if (!follows) {
                Check.notNow("append 3", x, () -> x.append(0, 1));
            }
            x.append(1, 1);
            // 12 and 5 apart; 7 in one BLOCK.
            Check.is("bestSwap " + wait, follows ? 20 : 0, x.bestSwap(0, 1));
            Check.is("bestSwap back " + wait, follows ? 1 : 0, x.bestSwap(1, 0));
            if (follows) {
                Check.is("swap " + wait, 1, x.swap(0, 1, 1, 0));
                Check.is("append " + wait, 2, appendedAgain(x));
            } else {
                Check.notNow("swap 3", x, () -> x.swap(0, 1, 1, 0));
                Check.notNow("swap 3 back", x, () -> x.swap(1, 0, 0, 1));
            }
        }
    }

    private static int appendedAgain(Blockduty x) {
        return x.append(0, x.takeOff(0));
    }

    private static void followSameStart() {
        Blockduty x = new Blockduty();
        x.trip(0, 0, 0, 100, 5);
        x.trip(0, 0, 0, 100, 5);
        x.block(999);
        x.append(0, 0);
        Check.notNow("at the same time", x, () -> x.append(0, 1));
        Check.notNow("itself", x, () -> x.append(0, 0));
        Check.is("neither FOLLOWS", 2, x.leastBlocks());
    }

    // ---- 2 BLOCKS and TO BUILD

    private static void flat(String label, Blockduty x, int capacity, int least) {
        int block = intoOne(x, capacity);
        Check.is(label + ": least with " + capacity, least, x.ofBlock(block, 5));
        Check.is(label + ": FLAT with " + capacity, least < 0 ? 1 : 0, x.ofBlock(block, 4));
    }

    /** 51 for the first TRIP; the PLACE where it ends loads the battery to the brim. */
    private static Blockduty lowAtAnEnd() {
        Blockduty x = new Blockduty();
        x.place(1, 0, 5, true);
        x.winter(1, 5);
        x.trip(0, 0, 1, 100, 17);
        x.trip(0, 1, 0, 300, 5);
        return x;
    }

    private static void batteryAtAnEnd() {
        flat("END", lowAtAnEnd(), 52, 1);
        flat("END", lowAtAnEnd(), 51, 0);
        flat("END", lowAtAnEnd(), 50, -1);
    }

    /** 40 for the first TRIP, and then the EMPTY to a PLACE that loads the battery to the brim. */
    private static Blockduty lowBehind(int empty) {
        Blockduty x = new Blockduty();
        x.place(1, empty, 5, true);
        x.trip(0, 0, 0, 100, 20);
        x.trip(0, 1, 1, 300, 5);
        return x;
    }

    private static void batteryBehindAnEmpty() {
        flat("EMPTY", lowBehind(9), 50, 1);
        flat("EMPTY", lowBehind(10), 50, 0);
        flat("EMPTY", lowBehind(11), 50, -1);
        // The first EMPTY alone is too much already.
        Blockduty far = new Blockduty();
        far.place(0, 60, 5, true);
        far.trip(0, 1, 0, 1000, 5);
        flat("first EMPTY", far, 69, -1);
        Blockduty near = new Blockduty();
        near.place(0, 60, 5, true);
        near.trip(0, 1, 0, 1000, 5);
        flat("first EMPTY", near, 70, 0);
    }

    private static void batteryAtLast() {
        for (int home = 9; home <= 11; home++) {
            Blockduty x = new Blockduty();
            x.place(1, home, 5, true);
            x.trip(0, 0, 1, 100, 20);
            flat("at last", x, 50, 10 - home);
        }
        Blockduty without = new Blockduty();
        without.winter(3, 5);
        flat("without TRIPS", without, 50, 50);
    }

    /** 50 of 100 are gone, the wait brings 5 a minute, and then 80 go. */
    private static void batteryGains() {
        int[] due = {15, 20, 20};
        for (int wait = 9; wait <= 11; wait++) {
            Blockduty x = new Blockduty();
            x.place(0, 0, 5, true);
            x.trip(0, 0, 0, 100, 25);
            x.trip(0, 0, 0, 125 + wait, 40);
            flat("a gain of " + wait, x, 100, due[wait - 9]);
        }
        // DELAY lets no time to load be lost, nor does it drain.
        Blockduty late = new Blockduty();
        late.place(0, 0, 5, true);
        late.trip(0, 0, 0, 100, 25);
        late.trip(0, 0, 0, 134, 40);
        late.delay(0, 120);
        late.delay(1, 120);
        flat("with DELAY", late, 100, 15);
        // Where the last one ends, and ahead of the first, nothing is gained.
        Blockduty elsewhere = new Blockduty();
        elsewhere.place(1, 0, 5, true);
        elsewhere.place(2, 10, 0, true);
        elsewhere.trip(0, 2, 1, 1000, 10);
        elsewhere.trip(0, 2, 0, 1100, 10);
        flat("none elsewhere", elsewhere, 100, 100 - 10 - 20 - 10 - 20);
        Blockduty first = new Blockduty();
        first.place(0, 0, 5, true);
        first.place(1, 10, 5, true);
        first.trip(0, 1, 0, 1000, 5);
        flat("none ahead of the first", first, 50, 30);
    }

    private static void batteryOfCold() {
        for (int cold = 0; cold <= 3; cold++) {
            Blockduty x = County.hourly(1);
            x.winter(cold, 5);
            flat("COLD " + cold, x, 300, 300 - 50 * (2 + cold));
        }
        flat("at first", County.hourly(1), 300, 200);
    }

    private static void buildByStart() {
        Blockduty x = new Blockduty();
        x.trip(0, 0, 0, 201, 30);
        x.trip(0, 0, 0, 200, 30);
        x.trip(0, 0, 0, 200, 30);
        Check.is("all", 3, x.build(999));
        Check.is("the earliest", 1, x.at(0, 0));
        Check.is("of several the smallest number", 2, x.at(1, 0));
        Check.is("then the later one", 0, x.at(2, 0));
        // What has a BLOCK stays in it.
        Check.is("none", 0, x.build(999));
        x.takeOff(1);
        x.takeOff(0);
        Check.is("two new BLOCKS", 2, x.build(998));
        Check.is("not into those without TRIPS", -1, x.at(0, 0));
        Check.is("by numbers", 1, x.at(3, 0));
        Check.is("by numbers", 2, x.at(4, 0));
        Check.is("with that CAPACITY", 998, x.ofBlock(4, 0));
    }

    private static void buildIntoBlocksWithTrips() {
        for (int told = 7; told <= 8; told++) {
            Blockduty x = County.hourly(2);
            for (int i = 0; i < told; i++) {
                x.block(999);
            }
            // 7 of them leave one more; 8 without TRIPS take none.
            Check.is("with " + told + " BLOCKS", told == 7 ? 2 : 0, x.build(999));
            Check.is("then", 8, x.many(1));
            Check.is("the last one", told == 7 ? 2 : 0, x.ofBlock(7, 1));
        }
    }

    private static void buildNotFlat() {
        for (int capacity = 98; capacity <= 100; capacity++) {
            Blockduty x = new Blockduty();
            x.winter(1, 5);
            x.trip(0, 0, 0, 100, 20);
            x.block(capacity);
            x.append(0, 0);
            x.trip(0, 0, 0, 200, 13);
            // 60 and 39: the TRIP alone would not make it FLAT.
            Check.is("built", 1, x.build(50));
            Check.is("with " + capacity, capacity < 99 ? 1 : 0, x.ofTrip(1, 6));
        }
        buildFlatOnTheWayHome();
        for (int home = 9; home <= 11; home++) {
            Blockduty x = new Blockduty();
            x.place(1, home, 0, true);
            x.trip(0, 0, 1, 100, 20);
            Check.is("alone, and home by " + home, home > 10 ? 0 : 1, x.build(50));
            Check.is("its BLOCK", home > 10 ? 0 : 1, x.many(1));
        }
    }

    /** It goes home from another place then, and the wait ahead of that loads the battery. */
    private static void buildFlatOnTheWayHome() {
        for (int minutes = 25; minutes <= 26; minutes++) {
            Blockduty x = new Blockduty();
            x.place(1, 11, 5, true);
            x.trip(0, 0, 1, 100, 20);
            x.block(50);
            x.append(0, 0);
            Check.is("FLAT without it", 1, x.ofBlock(0, 4));
            x.trip(0, 1, 0, 300, minutes);
            // 50 again, and 50 or 52 for the TRIP: alone it is FLAT by the EMPTY to it, too.
            Check.is("built", minutes == 25 ? 1 : 0, x.build(50));
            Check.is("FLAT with it or not", minutes == 25 ? 0 : -1, x.ofTrip(1, 6));
            Check.is("then", minutes == 25 ? 0 : 1, x.ofBlock(0, 4));
        }
    }

    /** The nearest BLOCK, if its CAPACITY lets it; otherwise the next one. */
    private static void buildNextNearest() {
        for (int capacity = 79; capacity <= 80; capacity++) {
            Blockduty x = new Blockduty();
            x.place(1, 5, 0, true);
            x.trip(0, 0, 1, 100, 20);
            x.trip(0, 0, 0, 100, 20);
            x.trip(0, 0, 0, 100, 20);
            x.block(999);
            x.block(capacity);
            x.block(999);
            for (int i = 0; i < 3; i++) {
                x.append(i, i);
            }
            int number = x.trip(0, 0, 0, 200, 20);
            Check.is("built", 1, x.build(50));
            Check.is("with " + capacity, capacity < 80 ? 2 : 1, x.ofTrip(number, 6));
        }
        // One minute of EMPTY more or less decides ahead of the number.
        for (int x2 = 4; x2 <= 6; x2++) {
            Blockduty x = new Blockduty();
            x.place(1, 5, 0, true);
            x.place(2, x2, 0, true);
            x.trip(0, 0, 1, 100, 20);
            x.trip(0, 0, 2, 100, 20);
            x.block(999);
            x.block(999);
            x.append(0, 0);
            x.append(1, 1);
            x.trip(0, 0, 0, 200, 20);
            x.build(50);
            Check.is("EMPTY of 5 and " + x2, x2 < 5 ? 1 : 0, x.ofTrip(2, 6));
        }
    }

    private static void buildNewBlocks() {
        Blockduty x = new Blockduty();
        for (int i = 0; i < 9; i++) {
            x.trip(0, 0, 0, 500, 20);
        }
        for (int i = 0; i < 6; i++) {
            x.block(500);
        }
        Check.is("up to 8", 2, x.build(100));
        Check.is("BLOCKS", 8, x.many(1));
        Check.is("the last one with a BLOCK", 7, x.ofTrip(1, 6));
        Check.is("the first without", -1, x.ofTrip(2, 6));
        Check.is("without a BLOCK", 7, x.many(3));
    }

    private static void buildGoesOn() {
        Blockduty x = new Blockduty();
        x.trip(0, 0, 0, 100, 26);
        x.trip(0, 0, 0, 200, 25);
        x.trip(0, 0, 0, 300, 26);
        x.trip(0, 0, 0, 400, 25);
        // 52 is too much for 50, and another one behind 50 too.
        Check.is("those that can be", 2, x.build(50));
        Check.is("BLOCKS", 2, x.many(1));
        Check.is("too long", -1, x.ofTrip(0, 6));
        Check.is("the first BLOCK", 0, x.ofTrip(1, 6));
        Check.is("too long", -1, x.ofTrip(2, 6));
        Check.is("the second BLOCK", 1, x.ofTrip(3, 6));
    }

    // ---- 3 WORK and DRIVERS

    /** From 100 to so many minutes later, with a long wait between. */
    private static Blockduty lasting(int minutes) {
        Blockduty x = new Blockduty();
        x.trip(0, 0, 0, 100, 30);
        x.trip(0, 0, 0, 100 + minutes - 30, 30);
        return x;
    }

    private static void spread() {
        for (int minutes : new int[] {100, 101, 600, 601, 900, 901}) {
            for (int most : new int[] {100, 600, 900}) {
                Check.is(minutes + " by a SPREAD of " + most, minutes <= most ? 1 : 2,
                        pieces(lasting(minutes), most, 240));
            }
            Blockduty x = lasting(minutes);
            Check.is(minutes + " by the first SPREAD", minutes <= 600 ? 1 : 2,
                    x.cut(intoOne(x, 999)));
        }
        Blockduty alone = new Blockduty();
        alone.trip(0, 0, 0, 100, 100);
        Check.is("one TRIP of 100", 1, pieces(alone, 100, 300));
        Blockduty longer = new Blockduty();
        longer.trip(0, 0, 0, 100, 101);
        notCut("one TRIP of 101", longer, 100, 300);
        Blockduty late = lasting(600);
        late.delay(1, 120);
        Check.is("without DELAY", 1, pieces(late, 600, 240));
    }

    /** TRIPS of 100, 100 and 40 and more, with waits of 19 between. */
    private static Blockduty driven(int more) {
        Blockduty x = new Blockduty();
        x.trip(0, 0, 0, 100, 100);
        x.trip(0, 0, 0, 219, 100);
        x.trip(0, 0, 0, 338, 40 + more);
        return x;
    }

    private static void drive() {
        Blockduty first = driven(0);
        Check.is("240 by the first DRIVE", 1, first.cut(intoOne(first, 999)));
        Blockduty more = driven(1);
        Check.is("241 by the first DRIVE", 2, more.cut(intoOne(more, 999)));
        Check.is("300 by 300", 1, pieces(driven(60), 900, 300));
        Check.is("301 by 300", 2, pieces(driven(61), 900, 300));
        Check.is("300 by 299", 2, pieces(driven(60), 900, 299));
        Blockduty alone = new Blockduty();
        alone.trip(0, 0, 0, 100, 60);
        Check.is("60 by 60", 1, pieces(alone, 900, 60));
        Blockduty longer = new Blockduty();
        longer.trip(0, 0, 0, 100, 61);
        notCut("61 by 60", longer, 900, 60);
        Blockduty late = driven(0);
        late.delay(0, 120);
        Check.is("without DELAY", 1, pieces(late, 600, 240));
    }

    private static void waitEndsSpell() {
        for (int wait = 19; wait <= 21; wait++) {
            // No EMPTY at all, and EMPTY of 15 that is no part of the wait.
            for (int empty = 0; empty <= 15; empty += 15) {
                Blockduty x = new Blockduty();
                x.place(1, empty, 0, false);
                x.trip(0, 0, 0, 100, 60);
                x.trip(0, 1, 1, 160 + empty + wait, 60);
                Check.is("a wait of " + wait + " behind " + empty, wait < 20 ? 2 : 1,
                        pieces(x, 900, 60 + empty));
            }
        }
        // The EMPTY is in the SPELL that the wait ends: a minute of it too many.
        Blockduty x = new Blockduty();
        x.place(1, 15, 0, false);
        x.trip(0, 0, 0, 100, 60);
        x.trip(0, 1, 1, 300, 60);
        Check.is("60 and 15 by 74", 2, pieces(x, 900, 74));
        // The EMPTY behind the last TRIP of a PIECE is in no SPELL.
        Blockduty last = new Blockduty();
        last.place(1, 15, 0, false);
        last.trip(0, 0, 0, 100, 60);
        last.trip(0, 1, 1, 300, 60);
        Check.is("60, and 15 between PIECES", 2, pieces(last, 900, 60));
    }

    private static void longestPiece() {
        // The third TRIP ends at no RELIEF place; 230 minutes are all of them.
        Blockduty x = new Blockduty();
        x.trip(0, 0, 0, 100, 50);
        x.trip(0, 0, 0, 160, 50);
        x.trip(0, 0, 7, 220, 50);
        x.trip(0, 7, 0, 280, 50);
        Check.is("229 are too few for all", 2, pieces(x, 229, 300));
        Check.is("so up to the RELIEF", 2, x.ofPiece(0, 0, 2));
        Check.is("and the rest", 2, x.ofPiece(0, 1, 2));
        Check.is("230 for all", 1, recut(x, 230));
        Check.is("110 for two and two", 2, recut(x, 110));
        x.rules(109, 300);
        Check.notNow("109 for the rest", x, () -> x.cut(0));
        Check.is("so it stays", 2, x.ofBlock(0, 3));
    }

    private static int recut(Blockduty x, int spread) {
        x.rules(spread, 300);
        return x.cut(0);
    }

    private static void numbersOfPieces() {
        Blockduty x = County.hourly(4);
        x.rules(100, 60);
        x.block(999);
        x.block(999);
        for (int trip = 0; trip < 4; trip++) {
            x.append(trip % 2, trip);
        }
        Check.is("two", 2, x.cut(1));
        Check.is("none there", 0, x.ofBlock(0, 3));
        Check.is("two too", 2, x.cut(0));
        for (int trip = 0; trip < 4; trip++) {
            Check.is("PIECE of " + trip, trip / 2, x.ofTrip(trip, 7));
            Check.is("TRIP of it", trip, x.ofPiece(trip % 2, trip / 2, 0));
        }
    }

    private static void uncutsOnlyThat() {
        Blockduty x = County.hourly(6);
        x.block(999);
        x.block(999);
        x.block(999);
        for (int trip = 0; trip < 5; trip++) {
            x.append(trip % 2, trip);
        }
        x.driver();
        x.cut(0);
        x.cut(1);
        x.give(0, 0, 0);
        x.takeOff(1);
        cutBlocks("takeOff", x, 1, 0);
        x.cut(1);
        x.append(1, 3);
        cutBlocks("append", x, 1, 0);
        x.cut(1);
        x.takeOff(1);
        x.cut(1);
        // TRIP 3 can FOLLOW only that of BLOCK 1, TRIP 5 the others too.
        x.build(999);
        cutBlocks("build", x, 0, 0);
        Blockduty y = County.hourly(4);
        for (int b = 0; b < 3; b++) {
            y.block(999);
            y.append(b, b);
            y.cut(b);
        }
        y.swap(0, 1, 1, 1);
        cutBlocks("swap", y, 0, 0);
        Check.is("but not the third", 1, y.ofBlock(2, 3));
    }

    private static void cutBlocks(String label, Blockduty x, int first, int second) {
        Check.is(label + ": BLOCK 0", first, x.ofBlock(0, 3));
        Check.is(label + ": BLOCK 1", second, x.ofBlock(1, 3));
        Check.is(label + ": DRIVER 0", first, x.many(2) == 0 ? 0 : x.ofDriver(0, 0));
    }

    private static void givenMinutes() {
        for (int minutes = 599; minutes <= 601; minutes++) {
            Blockduty x = lasting(minutes);
            pieces(x, 900, 300);
            x.driver();
            if (minutes <= 600) {
                Check.is("one PIECE", minutes, x.give(0, 0, 0));
            } else {
                Check.notNow("one PIECE of 601", x, () -> x.give(0, 0, 0));
            }
        }
        // Not by what is WORKED: DELAY does not count.
        Blockduty late = lasting(600);
        pieces(late, 900, 300);
        late.driver();
        late.delay(1, 120);
        Check.is("without DELAY", 600, late.give(0, 0, 0));
    }

    /** BLOCK 0 from 300 to 400 with a long wait, that a DRIVER has, and a TRIP in BLOCK 1. */
    private static Blockduty withGap(int start, int minutes) {
        Blockduty x = new Blockduty();
        x.trip(0, 0, 0, 300, 10);
        x.trip(0, 0, 0, 390, 10);
        intoOne(x, 999);
        x.cut(0);
        x.driver();
        x.give(0, 0, 0);
        x.trip(0, 0, 0, start, minutes);
        x.block(999);
        x.append(1, 2);
        x.cut(1);
        return x;
    }

    private static void givenGap() {
        int[][] refused = {{410, 5}, {410, 120}, {285, 5}, {170, 120}, {340, 5}, {290, 120},
            {300, 100}};
        for (int[] trip : refused) {
            Blockduty x = withGap(trip[0], trip[1]);
            Check.notNow("beside 300 to 400: " + trip[0], x, () -> x.give(1, 0, 0));
        }
        int[][] given = {{411, 5}, {284, 5}, {411, 120}, {169, 120}};
        for (int[] trip : given) {
            Check.is("beside 300 to 400: " + trip[0], 100 + trip[1],
                    withGap(trip[0], trip[1]).give(1, 0, 0));
        }
        // Not by REAL ENDS, of either one.
        Blockduty late = withGap(411, 5);
        late.delay(1, 120);
        Check.is("without DELAY", 105, late.give(1, 0, 0));
        Blockduty ahead = withGap(284, 5);
        ahead.delay(2, 120);
        Check.is("without its own DELAY", 105, ahead.give(1, 0, 0));
    }

    // ---- 4 THE DAY

    private static void realStart() {
        for (int delay = 9; delay <= 11; delay++) {
            Blockduty x = County.running();
            x.delay(0, delay);
            Check.is("LATE by " + delay, Math.max(0, delay - 10), x.ofTrip(1, 9));
            Check.is("REAL END by " + delay, 590 + Math.max(0, delay - 10), x.ofTrip(1, 10));
        }
        // EMPTY counts too, and only from the last one that RAN.
        Blockduty x = new Blockduty();
        x.place(1, 5, 0, true);
        x.trip(0, 0, 1, 100, 20);
        x.trip(1, 0, 0, 140, 20);
        x.trip(0, 0, 0, 180, 20);
        County.runInOneBlock(x);
        x.delay(0, 16);
        Check.is("behind the EMPTY", 1, x.ofTrip(1, 9));
        x.delay(0, 56);
        Check.is("too LATE", 6, x.ofTrip(1, 8));
        Check.is("from the one that RAN", 1, x.ofTrip(2, 9));
        x.delay(0, 55);
        Check.is("just in time", 0, x.ofTrip(2, 9));
    }

    private static void brokenDown() {
        int[] minutes = {-1, 0, 479, 480, 481, 540, 541, 600, 601, 1600};
        int[] due = {0, 3, 3, 3, 2, 2, 1, 1, 0, 0};
        for (int i = 0; i < minutes.length; i++) {
            Blockduty x = County.running();
            x.breakdown(0, minutes[i]);
            Check.is("BREAKDOWN " + minutes[i], due[i], x.lost(3));
            Check.is("the others RUN", 3 - due[i], x.many(4));
            Check.is("those of the BLOCK", 3 - due[i], x.ofBlock(0, 7));
        }
        Blockduty early = new Blockduty();
        early.trip(0, 0, 0, 0, 5);
        County.runInOneBlock(early);
        Check.is("none at 0", 0, early.ofTrip(0, 8));
        early.breakdown(0, 0);
        Check.is("in the minute 0", 3, early.ofTrip(0, 8));
        early.breakdown(0, 1);
        Check.is("in the minute 1", 0, early.ofTrip(0, 8));
        Blockduty x = County.running();
        x.block(999);
        x.breakdown(1, 0);
        Check.is("another BLOCK", 0, x.lost(3));
    }

    private static void lateByThirty() {
        for (int late = 29; late <= 31; late++) {
            Blockduty x = County.hourly(2);
            County.runInOneBlock(x);
            x.delay(0, 10 + late);
            Check.is("LATE " + late, late > 30 ? 6 : 0, x.ofTrip(1, 8));
            Check.is("how LATE " + late, late > 30 ? -1 : late, x.ofTrip(1, 9));
            Check.is("REAL END " + late, late > 30 ? -1 : 590 + late, x.ofTrip(1, 10));
            Check.is("LOST " + late, late > 30 ? 1 : 0, x.lost(6));
            Check.is("the greatest " + late, late > 30 ? 0 : late, x.many(8));
            Check.is("the mean " + late, late > 30 ? 0 : late / 2.0, x.meanLate());
        }
    }

    private static void behindMidnight() {
        Blockduty x = new Blockduty();
        x.trip(0, 0, 0, 1315, 120);
        x.trip(0, 0, 0, 1439, 5);
        County.runInOneBlock(x);
        x.delay(0, 120);
        Check.is("REAL END", 1555, x.ofTrip(0, 10));
        int[] minutes = {1554, 1555, 1556, 1600, -1};
        int[] due = {3, 3, 6, 6, 6};
        for (int i = 0; i < minutes.length; i++) {
            x.breakdown(0, minutes[i]);
            Check.is("by a BREAKDOWN of " + minutes[i], due[i], x.ofTrip(1, 8));
        }
        x.delay(0, 34);
        x.delay(1, 120);
        Check.is("REAL END behind midnight", 1469 + 5 + 120, x.ofTrip(1, 10));
        Check.is("WORKED", 1594 - 1315 + 10, x.ofPiece(0, 0, 5));
        x.breakdown(0, 1469);
        Check.is("in the minute 1469", 3, x.ofTrip(1, 8));
        x.breakdown(0, 1470);
        Check.is("in the minute 1470", 0, x.ofTrip(1, 8));
    }

    private static void payOfLateTrips() {
        for (int fee : new int[] {0, 10, 99}) {
            for (int late = 0; late <= 31; late++) {
                Blockduty x = County.hourly(2);
                County.runInOneBlock(x);
                x.line(0, fee, false);
                x.delay(0, 10 + late);
                int second = late > 30 ? -5 : fee - late / 2;
                Check.is("FEE " + fee + " LATE " + late, fee + second, x.many(5));
            }
        }
        // Each TRIP by itself: 1 and 1 are not 2.
        Blockduty x = new Blockduty();
        x.trip(0, 0, 0, 480, 50);
        x.trip(0, 0, 0, 540, 60);
        x.trip(0, 0, 0, 604, 50);
        County.runInOneBlock(x);
        x.delay(0, 11);
        x.delay(1, 4);
        Check.is("LATE 1", 1, x.ofTrip(1, 9));
        Check.is("LATE 1 too", 1, x.ofTrip(2, 9));
        Check.is("all FEES", 30, x.many(5));
    }

    /** One TRIP of LINE 2, with a FINE of 7, as LOST as it is told. */
    private static void fines() {
        Blockduty x = new Blockduty();
        x.line(2, 40, false);
        x.winter(0, 7);
        x.trip(2, 0, 0, 480, 50);
        lost("no BLOCK", x, 1, -7);
        x.block(999);
        x.append(0, 0);
        lost("not CUT", x, 4, -7);
        x.cut(0);
        lost("nobody's", x, 4, -7);
        x.driver();
        x.sick(0, true);
        x.give(0, 0, 0);
        lost("SICK", x, 5, -7);
        x.breakdown(0, 480);
        lost("BREAKDOWN", x, 3, -7);
        x.line(2, 40, true);
        lost("CLOSED", x, 2, 0);
        x.line(2, 40, false);
        x.breakdown(0, 481);
        x.sick(0, false);
        lost("RUNS", x, 0, 40);
        Blockduty late = County.hourly(2);
        County.runInOneBlock(late);
        late.delay(0, 41);
        late.winter(0, 99);
        Check.is("too LATE", 10 - 99, late.many(5));
        late.winter(0, 0);
        Check.is("FINE 0", 10, late.many(5));
        Blockduty closed = County.hourly(1);
        closed.line(0, 10, true);
        lost("no BLOCK, and CLOSED", closed, 1, -5);
    }

    private static void lost(String label, Blockduty x, int cause, int pays) {
        Check.is(label + ": CAUSE", cause, x.ofTrip(0, 8));
        Check.is(label + ": pays", pays, x.many(5));
        for (int other = 1; other <= 6; other++) {
            Check.is(label + ": LOST by " + other, other == cause ? 1 : 0, x.lost(other));
        }
    }

    private static void worked() {
        for (int minutes = 5; minutes <= 6; minutes++) {
            Blockduty x = new Blockduty();
            x.trip(0, 0, 0, 0, minutes);
            County.runInOneBlock(x);
            Check.is("the shortest", minutes + 10, x.ofPiece(0, 0, 5));
            Check.is("paid", (minutes + 10) / 4, x.ofDriver(0, 4));
            x.line(0, 10, true);
            Check.is("none RAN: no 10 either", 0, x.ofPiece(0, 0, 5));
            Check.is("nor paid", 0, x.ofDriver(0, 4));
        }
        // Two PIECES: what is LATE in the first begins the second one later, but that counts
        // from its START.
        Blockduty x = County.hourly(2);
        x.rules(100, 60);
        intoOne(x, 999);
        x.cut(0);
        x.driver();
        x.driver();
        x.give(0, 0, 0);
        x.give(0, 1, 1);
        x.delay(0, 30);
        Check.is("the first PIECE", 50 + 30 + 10, x.ofPiece(0, 0, 5));
        Check.is("the second PIECE", 20 + 50 + 10, x.ofPiece(0, 1, 5));
        x.sick(0, true);
        Check.is("of a SICK one", 0, x.ofPiece(0, 0, 5));
        Check.is("nobody is waited for", 50 + 10, x.ofPiece(0, 1, 5));
        Check.is("all are paid", 15, x.many(6));
    }

    /** One PIECE, that has WORKED so long. */
    private static void paid() {
        for (int minutes = 476; minutes <= 492; minutes++) {
            Blockduty x = lasting(minutes - 10);
            pieces(x, 900, 300);
            x.driver();
            x.give(0, 0, 0);
            Check.is("WORKED", minutes, x.ofDriver(0, 3));
            int more = minutes < 484 ? 0 : (minutes - 480) / 4;
            Check.is("paid for " + minutes, minutes / 4 + more, x.ofDriver(0, 4));
        }
        // By all that is WORKED, with DELAY: more than 600 too.
        Blockduty x = lasting(600);
        pieces(x, 900, 300);
        x.driver();
        x.give(0, 0, 0);
        x.delay(1, 120);
        Check.is("WORKED", 730, x.ofDriver(0, 3));
        Check.is("paid", 182 + 62, x.ofDriver(0, 4));
        Check.is("its minutes", 600, x.ofDriver(0, 1));
    }

    // ---- what would be

    private static void mayDelayToItsEnd() {
        // A first TRIP of 480 to 530, and so much time up to the second one.
        int[] waits = {4, 88, 89, 90, 91};
        int[] due = {34, 118, 119, 120, 120};
        for (int i = 0; i < waits.length; i++) {
            Blockduty x = new Blockduty();
            x.trip(0, 0, 0, 480, 50);
            x.trip(0, 0, 0, 530 + waits[i], 50);
            County.runInOneBlock(x);
            Check.is("a wait of " + waits[i], due[i], x.mayDelay(0));
            x.delay(0, 120);
            Check.is("with a DELAY told", due[i], x.mayDelay(0));
            x.delay(0, due[i]);
            Check.is("with that one all RUN", 2, x.many(4));
            x.delay(0, Math.min(120, due[i] + 1));
            Check.is("with one more", waits[i] < 90 ? 1 : 2, x.many(4));
        }
    }

    /** The third TRIP is LOST anyway; from 15 the fourth one is too, from 41 just the second. */
    private static void mayDelayBeyond() {
        Blockduty x = new Blockduty();
        x.trip(0, 0, 0, 480, 50);
        x.trip(0, 0, 0, 540, 50);
        x.trip(0, 0, 0, 600, 5);
        x.trip(0, 0, 0, 609, 50);
        County.runInOneBlock(x);
        x.delay(1, 45);
        int[] delays = {0, 14, 15, 40, 41, 100, 101, 110, 120};
        int[] due = {1, 1, 2, 2, 1, 1, 2, 3, 3};
        for (int i = 0; i < delays.length; i++) {
            x.delay(0, delays[i]);
            Check.is("LOST with " + delays[i], due[i], x.lost(6));
            Check.is("the greatest, not the first", 100, x.mayDelay(0));
        }
    }

    /** What a DELAY of 0 loses just so is no more with any other one. */
    private static void mayDelayFromNought() {
        int[] minutes = {600, 601, 602, 603};
        int[] due = {120, 120, 0, 1};
        for (int i = 0; i < minutes.length; i++) {
            Blockduty x = County.running();
            x.delay(0, 21);
            // The second TRIP ends at 601 without a DELAY, and then the third begins.
            x.breakdown(0, minutes[i]);
            Check.is("LOST with 0 by " + minutes[i], minutes[i] <= 601 ? 1 : 0, x.lost(3));
            Check.is("a BREAKDOWN in " + minutes[i], due[i], x.mayDelay(1));
        }
    }

    private static void bestSwapOfMany() {
        Blockduty x = County.hourly(16);
        intoOne(x, 999);
        x.block(50);
        // 16 times 100 are too much; so is a tail of one TRIP for the other BLOCK.
        Check.is("always FLAT", -1, x.bestSwap(0, 1));
        Blockduty full = new Blockduty();
        for (int i = 0; i < 16; i++) {
            full.trip(0, 0, 0, 60 * i, 26);
        }
        intoOne(full, 999);
        full.block(50);
        Check.is("16 stay, and none", 320, full.bestSwap(0, 1));
        Check.is("none stays, and 16", 16, full.bestSwap(1, 0));
        full.block(52);
        Check.is("a tail of one is not FLAT, but no better", 300, full.bestSwap(0, 2));
        Check.is("from the other side", 15, full.bestSwap(2, 0));
        full.block(51);
        Check.is("a minute less", 320, full.bestSwap(0, 3));
        full.block(832);
        Check.is("all of them", 0, full.bestSwap(0, 4));
        full.block(831);
        Check.is("all but one", 20, full.bestSwap(0, 5));
    }
}
