import java.util.function.Supplier;

/** What each promise refuses: both ends of each range, what comes first, that nothing changes. */
public final class RefusedTest {
    private static final Class<?> OUTSIDE = IndexOutOfBoundsException.class;
    private static final Class<?> ILLEGAL = IllegalArgumentException.class;
    private static final Class<?> NOT_NOW = IllegalStateException.class;

    private interface Told {
        double answer(Blockduty x, int value);
    }

    private interface Call {
        double answer(Blockduty x);
    }

    public static void main(String[] args) {
        newObject();
        endsOfPlaces();
        endsOfTelling();
        endsOfBlocks();
        endsOfWork();
        endsOfHappening();
        endsOfAsking(RefusedTest::few);
        endsOfAsking(RefusedTest::full);
        ends("22: BLOCK with PIECES", 0, 1, OUTSIDE, RefusedTest::few,
                (x, v) -> x.ofPiece(v, 0, 5));
        ends("22: BLOCK of 8", 0, 7, OUTSIDE, RefusedTest::full, (x, v) -> x.ofPiece(v, 0, 5));
        endsOfSupposing(RefusedTest::few);
        endsOfSupposing(RefusedTest::full);
        howMany();
        notNowOfBlocks();
        notNowOfWork();
        firstOfTelling();
        firstOfBlocks();
        firstOfAsking();
        Check.end();
    }

    /** PLACES and LINES are told, and there are DRIVERS and BLOCKS, but no TRIPS. */
    private static Blockduty bare() {
        Blockduty x = new Blockduty();
        for (int place = 0; place < 8; place++) {
            x.place(place, 7 * place, place % 6, place % 2 == 1);
        }
        for (int line = 0; line < 4; line++) {
            x.line(line, 20 + line, line == 3);
        }
        x.rules(500, 200);
        x.winter(1, 9);
        x.driver();
        x.block(400);
        return x;
    }

    /** Two of three BLOCKS have TRIPS: one is CUT and given, and its second TRIP is LATE. */
    private static Blockduty few() {
        Blockduty x = bare();
        x.trip(0, 0, 1, 400, 30);
        x.trip(1, 1, 2, 450, 30);
        x.trip(2, 2, 0, 520, 30);
        x.trip(0, 3, 3, 500, 20);
        x.trip(1, 3, 0, 600, 20);
        x.trip(3, 4, 4, 700, 20);
        x.driver();
        x.block(300);
        x.block(200);
        for (int trip = 0; trip < 5; trip++) {
            x.append(trip < 3 ? 0 : 1, trip);
        }
        x.cut(0);
        x.cut(1);
        x.give(0, 0, 1);
        x.delay(0, 40);
        x.breakdown(1, 600);
        return x;
    }

    /** As many TRIPS, BLOCKS and DRIVERS as there can be. */
    private static Blockduty full() {
        Blockduty x = new Blockduty();
        for (int i = 0; i < 16; i++) {
            x.trip(i % 4, 0, 0, 480 + 60 * i, 50);
        }
        for (int i = 0; i < 8; i++) {
            x.block(500 + i);
            x.append(i, i);
            x.append(i, 8 + i);
            x.cut(i);
        }
        for (int i = 0; i < 6; i++) {
            x.driver();
            x.give(i, 0, i);
        }
        x.sick(5, true);
        return x;
    }

    /** The call throws just this, and then the county is as one that was never asked. */
    private static void refused(String label, Class<?> thrown, Supplier<Blockduty> made,
            Call call) {
        Blockduty x = made.get();
        Check.refuses(label, x, thrown, () -> call.answer(x));
        Check.isTrue(label + ": leaves no trace",
                Picture.of(x).equals(Picture.of(made.get())));
    }

    private static void answers(String label, Supplier<Blockduty> made, Call call) {
        boolean answered = true;
        try {
            call.answer(made.get());
        } catch (RuntimeException e) {
            answered = false;
        }
        Check.isTrue(label + ": answers", answered);
    }

    /** Both ends of a range are taken, and what is beside them, or far from them, is refused. */
    private static void ends(String label, int least, int most, Class<?> thrown,
            Supplier<Blockduty> made, Told told) {
        for (int value : new int[] {least, most}) {
            answers(label + " " + value, made, x -> told.answer(x, value));
        }
        for (int value : new int[] {least - 1, most + 1, Integer.MIN_VALUE, Integer.MAX_VALUE}) {
            refused(label + " " + value, thrown, made, x -> told.answer(x, value));
        }
    }

    /** Nothing has the number 0 yet, but PLACES and LINES. */
    private static void newObject() {
        Call[] outside = {
            x -> x.append(0, 0), x -> x.takeOff(0), x -> x.swap(0, 0, 1, 0), x -> x.cut(0),
            x -> x.give(0, 0, 0), x -> x.takeBack(0, 0), x -> x.delay(0, 0),
            x -> x.breakdown(0, -1), x -> x.sick(0, true) ? 1 : 0, x -> x.ofTrip(0, 0),
            x -> x.ofBlock(0, 0), x -> x.at(0, 0), x -> x.ofPiece(0, 0, 0),
            x -> x.ofDriver(0, 0), x -> x.wouldLose(0, 0), x -> x.mayDelay(0),
            x -> x.bestSwap(0, 1),
        };
        for (int i = 0; i < outside.length; i++) {
            refused("a new object, call " + i, OUTSIDE, Blockduty::new, outside[i]);
        }
        Check.is("11: nothing to BUILD", 0, new Blockduty().build(50));
        refused("30: one BLOCK alone", OUTSIDE, RefusedTest::bare, x -> x.bestSwap(0, 1));
        refused("12: one BLOCK alone", OUTSIDE, RefusedTest::bare, x -> x.swap(0, 0, 1, 0));
        refused("9: no TRIPS", OUTSIDE, RefusedTest::bare, x -> x.append(0, 0));
        refused("10: no TRIPS", NOT_NOW, RefusedTest::bare, x -> x.takeOff(0));
        refused("13: no TRIPS", NOT_NOW, RefusedTest::bare, x -> x.cut(0));
    }

    private static void endsOfPlaces() {
        ends("2: PLACE", 0, 7, OUTSIDE, RefusedTest::bare, (x, v) -> x.place(v, 9, 1, true));
        ends("2: X", 0, 60, ILLEGAL, RefusedTest::bare, (x, v) -> x.place(2, v, 1, true));
        ends("2: X of the DEPOT", 0, 60, ILLEGAL, RefusedTest::bare,
                (x, v) -> x.place(0, v, 1, true));
        ends("2: POWER", 0, 5, ILLEGAL, RefusedTest::bare, (x, v) -> x.place(2, 9, v, true));
    }

    private static void endsOfTelling() {
        ends("3: LINE", 0, 3, OUTSIDE, RefusedTest::few, (x, v) -> x.line(v, 5, true));
        ends("3: FEE", 0, 99, ILLEGAL, RefusedTest::few, (x, v) -> x.line(1, v, true));
        ends("4: LINE", 0, 3, OUTSIDE, RefusedTest::few, (x, v) -> x.trip(v, 1, 2, 300, 20));
        ends("4: FROM", 0, 7, OUTSIDE, RefusedTest::few, (x, v) -> x.trip(1, v, 2, 300, 20));
        ends("4: TO", 0, 7, OUTSIDE, RefusedTest::few, (x, v) -> x.trip(1, 1, v, 300, 20));
        ends("4: START", 0, 1439, ILLEGAL, RefusedTest::few, (x, v) -> x.trip(1, 1, 2, v, 20));
        ends("4: MINUTES", 5, 120, ILLEGAL, RefusedTest::few, (x, v) -> x.trip(1, 1, 2, 300, v));
        ends("5: SPREAD", 100, 900, ILLEGAL, RefusedTest::few, (x, v) -> x.rules(v, 100));
        ends("5: DRIVE", 60, 300, ILLEGAL, RefusedTest::few, (x, v) -> x.rules(300, v));
        ends("6: COLD", 0, 3, ILLEGAL, RefusedTest::few, (x, v) -> x.winter(v, 50));
        ends("6: FINE", 0, 99, ILLEGAL, RefusedTest::few, (x, v) -> x.winter(2, v));
    }

    private static void endsOfBlocks() {
        ends("8: CAPACITY", 50, 999, ILLEGAL, RefusedTest::few, (x, v) -> x.block(v));
        ends("9: BLOCK", 0, 7, OUTSIDE, RefusedTest::freeTrips, (x, v) -> x.append(v, 3));
        ends("9: TRIP", 0, 15, OUTSIDE, RefusedTest::freeTrips, (x, v) -> x.append(7, v));
        ends("10: BLOCK", 0, 7, OUTSIDE, RefusedTest::full, (x, v) -> x.takeOff(v));
        ends("11: CAPACITY", 50, 999, ILLEGAL, RefusedTest::few, (x, v) -> x.build(v));
        ends("12: one", 0, 7, OUTSIDE, RefusedTest::full, (x, v) -> x.swap(v, 2, 3, 2));
        ends("12: other", 0, 7, OUTSIDE, RefusedTest::full, (x, v) -> x.swap(3, 2, v, 2));
        ends("12: first", 0, 3, ILLEGAL, RefusedTest::few, (x, v) -> x.swap(0, v, 2, 0));
        ends("12: others", 0, 3, ILLEGAL, RefusedTest::few, (x, v) -> x.swap(2, 0, 0, v));
        ends("12: first of none", 0, 0, ILLEGAL, RefusedTest::few, (x, v) -> x.swap(2, v, 0, 0));
        ends("12: others of none", 0, 0, ILLEGAL, RefusedTest::few, (x, v) -> x.swap(0, 0, 2, v));
        refused("12: the same", ILLEGAL, RefusedTest::few, x -> x.swap(0, 3, 0, 3));
        refused("12: the same without TRIPS", ILLEGAL, RefusedTest::few, x -> x.swap(2, 0, 2, 0));
    }

    /** 16 TRIPS and 8 BLOCKS, none of them in one. */
    private static Blockduty freeTrips() {
        Blockduty x = County.hourly(16);
        for (int i = 0; i < 8; i++) {
            x.block(500 + i);
        }
        return x;
    }

    private static void endsOfWork() {
        ends("13: BLOCK", 0, 7, OUTSIDE, RefusedTest::full, (x, v) -> x.cut(v));
        ends("14: BLOCK", 0, 7, OUTSIDE, RefusedTest::takenBack, (x, v) -> x.give(v, 0, 0));
        ends("14: PIECE", 0, 0, OUTSIDE, RefusedTest::takenBack, (x, v) -> x.give(6, v, 0));
        ends("14: DRIVER", 0, 5, OUTSIDE, RefusedTest::takenBack, (x, v) -> x.give(6, 0, v));
        ends("15: BLOCK", 0, 7, OUTSIDE, RefusedTest::full, (x, v) -> x.takeBack(v, 0));
        ends("15: PIECE", 0, 0, OUTSIDE, RefusedTest::full, (x, v) -> x.takeBack(1, v));
        ends("14: PIECE of 16", 0, 15, OUTSIDE, RefusedTest::sixteenPieces,
                (x, v) -> x.give(0, v, 0));
        ends("15: PIECE of 16", 0, 15, OUTSIDE, RefusedTest::sixteenPieces,
                (x, v) -> x.takeBack(0, v));
        ends("22: PIECE of 16", 0, 15, OUTSIDE, RefusedTest::sixteenPieces,
                (x, v) -> x.ofPiece(0, v, 0));
    }

    private static Blockduty takenBack() {
        Blockduty x = full();
        for (int i = 0; i < 6; i++) {
            x.takeBack(i, 0);
        }
        return x;
    }

    /** One BLOCK of 16 TRIPS, each of them a PIECE. */
    private static Blockduty sixteenPieces() {
        Blockduty x = County.hourly(16);
        x.block(999);
        for (int trip = 0; trip < 16; trip++) {
            x.append(0, trip);
        }
        x.rules(100, 60);
        x.cut(0);
        x.driver();
        return x;
    }

    private static void endsOfHappening() {
        ends("16: TRIP", 0, 5, OUTSIDE, RefusedTest::few, (x, v) -> x.delay(v, 7));
        ends("16: TRIP of 16", 0, 15, OUTSIDE, RefusedTest::full, (x, v) -> x.delay(v, 7));
        ends("16: DELAY", 0, 120, ILLEGAL, RefusedTest::few, (x, v) -> x.delay(0, v));
        ends("17: BLOCK", 0, 2, OUTSIDE, RefusedTest::few, (x, v) -> x.breakdown(v, 450));
        ends("17: BLOCK of 8", 0, 7, OUTSIDE, RefusedTest::full, (x, v) -> x.breakdown(v, 450));
        ends("17: minute", -1, 1600, ILLEGAL, RefusedTest::few, (x, v) -> x.breakdown(1, v));
        ends("18: DRIVER", 0, 1, OUTSIDE, RefusedTest::few, (x, v) -> x.sick(v, true) ? 1 : 0);
        ends("18: DRIVER of 6", 0, 5, OUTSIDE, RefusedTest::full,
                (x, v) -> x.sick(v, true) ? 1 : 0);
    }

    private static void endsOfAsking(Supplier<Blockduty> made) {
        int trips = made.get().many(0);
        int blocks = made.get().many(1);
        int drivers = made.get().many(2);
        ends("19: TRIP", 0, trips - 1, OUTSIDE, made, (x, v) -> x.ofTrip(v, 8));
        ends("19: what", 0, 10, ILLEGAL, made, (x, v) -> x.ofTrip(0, v));
        ends("20: BLOCK", 0, blocks - 1, OUTSIDE, made, (x, v) -> x.ofBlock(v, 5));
        ends("20: what", 0, 7, ILLEGAL, made, (x, v) -> x.ofBlock(0, v));
        ends("21: BLOCK", 0, blocks - 1, OUTSIDE, made, (x, v) -> x.at(v, 0));
        refused("21: k", ILLEGAL, made, x -> x.at(0, -1));
        refused("21: k", ILLEGAL, made, x -> x.at(0, Integer.MIN_VALUE));
        ends("22: PIECE", 0, 0, OUTSIDE, made, (x, v) -> x.ofPiece(1, v, 5));
        ends("22: what", 0, 5, ILLEGAL, made, (x, v) -> x.ofPiece(0, 0, v));
        ends("23: DRIVER", 0, drivers - 1, OUTSIDE, made, (x, v) -> x.ofDriver(v, 4));
        ends("23: what", 0, 4, ILLEGAL, made, (x, v) -> x.ofDriver(0, v));
        ends("24: what", 0, 8, ILLEGAL, made, (x, v) -> x.many(v));
        ends("25: CAUSE", 1, 6, OUTSIDE, made, (x, v) -> x.lost(v));
    }

    private static void endsOfSupposing(Supplier<Blockduty> made) {
        int trips = made.get().many(0);
        int blocks = made.get().many(1);
        ends("28: BLOCK", 0, blocks - 1, OUTSIDE, made, (x, v) -> x.wouldLose(v, 500));
        ends("28: minute", 0, 1600, ILLEGAL, made, (x, v) -> x.wouldLose(0, v));
        ends("29: TRIP", 0, trips - 1, OUTSIDE, made, (x, v) -> x.mayDelay(v));
        ends("30: one", 0, blocks - 1, OUTSIDE, made, (x, v) -> x.bestSwap(v, 1));
        ends("30: other", 0, blocks - 1, OUTSIDE, made, (x, v) -> x.bestSwap(1, v));
        refused("30: the same", ILLEGAL, made, x -> x.bestSwap(1, 1));
        refused("30: the same and last", ILLEGAL, made, x -> x.bestSwap(blocks - 1, blocks - 1));
    }

    private static void howMany() {
        Check.is("4: the last TRIP", 15, County.hourly(15).trip(0, 0, 0, 1439, 120));
        refused("4: above 16", NOT_NOW, RefusedTest::full, x -> x.trip(0, 0, 0, 1439, 120));
        Blockduty x = new Blockduty();
        for (int number = 0; number < 8; number++) {
            Check.is("8: number", number, x.block(50));
        }
        refused("8: above 8", NOT_NOW, RefusedTest::full, y -> y.block(50));
        for (int number = 0; number < 6; number++) {
            Check.is("7: number", number, x.driver());
        }
        refused("7: above 6", NOT_NOW, RefusedTest::full, y -> y.driver());
        Check.is("2: without a TRIP", 14, bare().place(2, 9, 1, true));
        refused("2: with one TRIP", NOT_NOW, () -> County.hourly(1), y -> y.place(2, 9, 1, true));
        refused("2: with TRIPS", NOT_NOW, RefusedTest::few, y -> y.place(0, 9, 1, true));
    }

    private static void notNowOfBlocks() {
        refused("9: in that BLOCK", NOT_NOW, RefusedTest::few, x -> x.append(1, 4));
        refused("9: in another BLOCK", NOT_NOW, RefusedTest::few, x -> x.append(2, 0));
        refused("9: can not FOLLOW", NOT_NOW, RefusedTest::oneFree, x -> x.append(0, 2));
        answers("9: can FOLLOW", RefusedTest::oneFree, x -> x.append(1, 2));
        refused("10: no TRIPS", NOT_NOW, RefusedTest::few, x -> x.takeOff(2));
        answers("10: TRIPS", RefusedTest::few, x -> x.takeOff(1));
        refused("12: can not FOLLOW in one", NOT_NOW, RefusedTest::few, x -> x.swap(0, 3, 1, 0));
        refused("12: nor in the other", NOT_NOW, RefusedTest::few, x -> x.swap(1, 0, 0, 3));
        refused("12: in the other alone", NOT_NOW, RefusedTest::few, x -> x.swap(0, 0, 1, 1));
        answers("12: in both", RefusedTest::few, x -> x.swap(0, 3, 1, 1));
    }

    /** A free TRIP 2 can FOLLOW the TRIP of BLOCK 1, but not that of BLOCK 0. */
    private static Blockduty oneFree() {
        Blockduty x = new Blockduty();
        x.trip(0, 0, 0, 481, 50);
        x.trip(0, 0, 0, 480, 50);
        x.trip(0, 0, 0, 534, 50);
        x.driver();
        for (int i = 0; i < 2; i++) {
            x.block(999);
            x.append(i, i);
            x.cut(i);
        }
        x.give(0, 0, 0);
        return x;
    }

    private static void notNowOfWork() {
        refused("13: no TRIPS", NOT_NOW, RefusedTest::few, x -> x.cut(2));
        refused("13: can not be CUT", NOT_NOW, RefusedTest::tooLong, x -> x.cut(0));
        answers("13: can be CUT", RefusedTest::tooLong, x -> x.rules(600, 61) + x.cut(0));
        refused("14: given", NOT_NOW, RefusedTest::few, x -> x.give(0, 0, 0));
        refused("14: given to that DRIVER", NOT_NOW, RefusedTest::few, x -> x.give(0, 0, 1));
        refused("14: of no time", NOT_NOW, RefusedTest::few, x -> x.give(1, 0, 1));
        answers("14: of another DRIVER", RefusedTest::few, x -> x.give(1, 0, 0));
        answers("14: taken back", RefusedTest::few, x -> x.takeBack(0, 0) + x.give(1, 0, 1));
    }

    /** CUT and given when its second TRIP was not too long yet. */
    private static Blockduty tooLong() {
        Blockduty x = new Blockduty();
        x.trip(0, 0, 0, 100, 60);
        x.trip(0, 0, 0, 170, 61);
        County.runInOneBlock(x);
        x.rules(600, 60);
        return x;
    }

    private static void firstOfTelling() {
        refused("2: PLACE, X, TRIP", OUTSIDE, RefusedTest::few, x -> x.place(8, -1, 6, true));
        refused("2: PLACE, POWER", OUTSIDE, RefusedTest::bare, x -> x.place(-1, 1, 6, true));
        refused("2: PLACE, TRIP", OUTSIDE, RefusedTest::few, x -> x.place(-1, 1, 1, true));
        refused("2: X, TRIP", ILLEGAL, RefusedTest::few, x -> x.place(1, 61, 1, true));
        refused("2: POWER, TRIP", ILLEGAL, RefusedTest::few, x -> x.place(1, 1, 6, true));
        refused("3: LINE, FEE", OUTSIDE, RefusedTest::few, x -> x.line(-1, 100, true));
        refused("4: LINE, START", OUTSIDE, RefusedTest::few, x -> x.trip(4, 0, 0, -1, 20));
        refused("4: FROM, MINUTES", OUTSIDE, RefusedTest::few, x -> x.trip(0, 8, 0, 1, 121));
        refused("4: TO, START", OUTSIDE, RefusedTest::few, x -> x.trip(0, 0, -1, 1440, 4));
        refused("4: LINE, 16", OUTSIDE, RefusedTest::full, x -> x.trip(-1, 0, 0, 1, 20));
        refused("4: FROM, 16", OUTSIDE, RefusedTest::full, x -> x.trip(0, -1, 0, 1, 20));
        refused("4: TO, 16", OUTSIDE, RefusedTest::full, x -> x.trip(0, 0, 8, 1, 20));
        refused("4: START, 16", ILLEGAL, RefusedTest::full, x -> x.trip(0, 0, 0, 1440, 20));
        refused("4: MINUTES, 16", ILLEGAL, RefusedTest::full, x -> x.trip(0, 0, 0, 1, 4));
        refused("16: TRIP, DELAY", OUTSIDE, RefusedTest::few, x -> x.delay(-1, -1));
        refused("17: BLOCK, minute", OUTSIDE, RefusedTest::few, x -> x.breakdown(3, -2));
    }

    private static void firstOfBlocks() {
        refused("8: CAPACITY, 8", ILLEGAL, RefusedTest::full, x -> x.block(1000));
        refused("9: BLOCK, in a BLOCK", OUTSIDE, RefusedTest::few, x -> x.append(3, 0));
        refused("12: BLOCK, the same", OUTSIDE, RefusedTest::few, x -> x.swap(3, 0, 3, 0));
        refused("12: BLOCK, first", OUTSIDE, RefusedTest::few, x -> x.swap(0, 4, 3, 0));
        refused("12: BLOCK, others", OUTSIDE, RefusedTest::few, x -> x.swap(-1, 0, 0, -1));
        // Where the other tail would go, its TRIPS could not FOLLOW.
        refused("12: first, FOLLOW", ILLEGAL, RefusedTest::few, x -> x.swap(0, 4, 1, 0));
        refused("12: others, FOLLOW", ILLEGAL, RefusedTest::few, x -> x.swap(0, 0, 1, 3));
        refused("12: the same, FOLLOW", ILLEGAL, RefusedTest::few, x -> x.swap(0, 3, 0, 0));
        refused("14: DRIVER, given", OUTSIDE, RefusedTest::few, x -> x.give(0, 0, 2));
        refused("14: no PIECES", OUTSIDE, RefusedTest::few, x -> x.give(2, 0, 0));
        refused("15: no PIECES", OUTSIDE, RefusedTest::few, x -> x.takeBack(2, 0));
        refused("22: no PIECES", OUTSIDE, RefusedTest::few, x -> x.ofPiece(2, 0, 0));
    }

    private static void firstOfAsking() {
        refused("19: TRIP, what", OUTSIDE, RefusedTest::few, x -> x.ofTrip(6, 11));
        refused("20: BLOCK, what", OUTSIDE, RefusedTest::few, x -> x.ofBlock(3, -1));
        refused("21: BLOCK, k", OUTSIDE, RefusedTest::few, x -> x.at(3, -1));
        refused("22: BLOCK, what", OUTSIDE, RefusedTest::few, x -> x.ofPiece(3, 0, 6));
        refused("22: PIECE, what", OUTSIDE, RefusedTest::few, x -> x.ofPiece(0, 1, -1));
        refused("23: DRIVER, what", OUTSIDE, RefusedTest::few, x -> x.ofDriver(2, 5));
        refused("28: BLOCK, minute", OUTSIDE, RefusedTest::few, x -> x.wouldLose(3, 1601));
        refused("30: one, the same", OUTSIDE, RefusedTest::few, x -> x.bestSwap(3, 3));
    }
}
