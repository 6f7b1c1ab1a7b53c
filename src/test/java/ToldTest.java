/** Promises 1 to 7: what is told. */
public final class ToldTest {
    public static void main(String[] args) {
        newObject();
        place();
        placeShowsInTrips();
        line();
        trip();
        rules();
        winter();
        driver();
        Check.end();
    }

    private static void newObject() {
        Blockduty x = new Blockduty();
        for (int what = 0; what <= 8; what++) {
            Check.is("1: many " + what, 0, x.many(what));
        }
        for (int cause = 1; cause <= 6; cause++) {
            Check.is("1: lost " + cause, 0, x.lost(cause));
        }
        Check.is("1: meanLate", 0, x.meanLate());
        Check.is("1: leastBlocks", 0, x.leastBlocks());
        for (int place = 0; place < 8; place++) {
            Check.is("1: X of " + place, 0, x.place(place, 0, 0, true));
        }
        for (int line = 0; line < 4; line++) {
            Check.is("1: FEE of " + line, 10, x.line(line, 10, false));
        }
        Check.is("1: SPREAD", 600, x.rules(600, 240));
        Check.is("1: COLD", 0, x.winter(0, 5));
    }

    private static void place() {
        Blockduty x = new Blockduty();
        Check.is("2: first X", 0, x.place(3, 60, 5, true));
        Check.is("2: X before", 60, x.place(3, 0, 0, false));
        Check.is("2: X before", 0, x.place(3, 17, 0, false));
        Check.is("2: of the DEPOT", 0, x.place(0, 9, 0, false));
        Check.is("2: of the DEPOT before", 9, x.place(0, 8, 0, false));
        Check.is("2: the last PLACE", 0, x.place(7, 1, 1, false));
        Check.outside("2: below", x, () -> x.place(-1, 0, 0, true));
        Check.outside("2: above", x, () -> x.place(8, 0, 0, true));
        Check.outside("2: first the PLACE", x, () -> x.place(8, 61, 6, true));
        Check.illegal("2: X below", x, () -> x.place(3, -1, 0, true));
        Check.illegal("2: X above", x, () -> x.place(3, 61, 0, true));
        Check.illegal("2: POWER below", x, () -> x.place(3, 1, -1, true));
        Check.illegal("2: POWER above", x, () -> x.place(3, 1, 6, true));
        Check.is("2: nothing changed", 17, x.place(3, 17, 0, false));
        x.trip(0, 0, 0, 0, 5);
        Check.notNow("2: a TRIP", x, () -> x.place(3, 1, 1, true));
        Check.illegal("2: X ahead of a TRIP", x, () -> x.place(3, 61, 1, true));
        Check.outside("2: PLACE ahead of a TRIP", x, () -> x.place(8, 1, 1, true));
    }

    private static void placeShowsInTrips() {
        Blockduty x = new Blockduty();
        x.place(0, 5, 0, false);
        x.place(1, 40, 3, false);
        x.place(2, 50, 0, true);
        x.trip(0, 1, 2, 100, 10);
        x.trip(0, 1, 2, 130, 10);
        x.block(100);
        x.append(0, 0);
        x.append(0, 1);
        Check.is("2: EMPTY", 90, x.ofBlock(0, 6));
        Check.is("2: least battery", 100 - 35 - 20 - 10 + 30 - 20 - 45, x.ofBlock(0, 5));
        Check.is("2: RELIEF", 2, pieces(2, true));
        Check.is("2: no RELIEF", 1, pieces(2, false));
        Check.is("2: the DEPOT all the same", 2, pieces(0, false));
    }

    /** Two TRIPS to the PLACE; at a RELIEF place the DRIVE lets each be a PIECE of its own only. */
    private static int pieces(int place, boolean isRelief) {
        Blockduty x = new Blockduty();
        x.place(place, 0, 0, isRelief);
        x.rules(900, isRelief || place == 0 ? 60 : 120);
        x.trip(0, place, place, 0, 60);
        x.trip(0, place, place, 70, 60);
        x.block(999);
        x.append(0, 0);
        x.append(0, 1);
        return x.cut(0);
    }

    private static void line() {
        Blockduty x = new Blockduty();
        Check.is("3: first FEE", 10, x.line(0, 99, false));
        Check.is("3: FEE before", 99, x.line(0, 0, true));
        Check.is("3: FEE before", 0, x.line(0, 7, false));
        Check.is("3: the last LINE", 10, x.line(3, 1, false));
        Check.outside("3: below", x, () -> x.line(-1, 0, true));
        Check.outside("3: above", x, () -> x.line(4, 0, true));
        Check.outside("3: first the LINE", x, () -> x.line(4, 100, true));
        Check.illegal("3: FEE below", x, () -> x.line(0, -1, true));
        Check.illegal("3: FEE above", x, () -> x.line(0, 100, true));
        Check.is("3: nothing changed", 7, x.line(0, 7, false));
        Blockduty run = County.running();
        Check.is("3: open", 3 * 10, run.many(5));
        Check.illegal("3: FEE above", run, () -> run.line(0, 100, true));
        run.line(0, 20, false);
        Check.is("3: FEE", 3 * 20, run.many(5));
        run.line(0, 20, true);
        Check.is("3: CLOSED", 3, run.lost(2));
        run.line(0, 20, false);
        Check.is("3: open again", 0, run.lost(2));
        run.line(1, 20, true);
        Check.is("3: another LINE", 0, run.lost(2));
    }

    private static void trip() {
        Blockduty x = new Blockduty();
        Check.outside("4: LINE below", x, () -> x.trip(-1, 0, 0, 0, 5));
        Check.outside("4: LINE above", x, () -> x.trip(4, 0, 0, 0, 5));
        Check.outside("4: FROM below", x, () -> x.trip(0, -1, 0, 0, 5));
        Check.outside("4: FROM above", x, () -> x.trip(0, 8, 0, 0, 5));
        Check.outside("4: TO below", x, () -> x.trip(0, 0, -1, 0, 5));
        Check.outside("4: TO above", x, () -> x.trip(0, 0, 8, 0, 5));
        Check.outside("4: first the PLACES", x, () -> x.trip(0, 0, 8, -1, 4));
        Check.illegal("4: START below", x, () -> x.trip(0, 0, 0, -1, 5));
        Check.illegal("4: START above", x, () -> x.trip(0, 0, 0, 1440, 5));
        Check.illegal("4: MINUTES below", x, () -> x.trip(0, 0, 0, 0, 4));
        Check.illegal("4: MINUTES above", x, () -> x.trip(0, 0, 0, 0, 121));
        Check.is("4: none so far", 0, x.many(0));
        Check.is("4: the first", 0, x.trip(3, 7, 6, 1439, 120));
        Check.is("4: the second", 1, x.trip(0, 0, 0, 0, 5));
        for (int what = 0; what <= 5; what++) {
            Check.is("4: " + what, new int[] {3, 7, 6, 1439, 1559, 0}[what], x.ofTrip(0, what));
        }
        for (int number = 2; number < 16; number++) {
            Check.is("4: number", number, x.trip(0, 0, 0, 0, 5));
        }
        Check.notNow("4: there are 16", x, () -> x.trip(0, 0, 0, 0, 5));
        Check.illegal("4: MINUTES ahead of 16", x, () -> x.trip(0, 0, 0, 0, 4));
        Check.outside("4: PLACE ahead of 16", x, () -> x.trip(0, 8, 0, 0, 4));
        Check.is("4: 16", 16, x.many(0));
    }

    private static void rules() {
        Blockduty x = new Blockduty();
        Check.is("5: first SPREAD", 600, x.rules(100, 60));
        Check.is("5: SPREAD before", 100, x.rules(900, 300));
        Check.is("5: SPREAD before", 900, x.rules(500, 200));
        Check.illegal("5: SPREAD below", x, () -> x.rules(99, 200));
        Check.illegal("5: SPREAD above", x, () -> x.rules(901, 200));
        Check.illegal("5: DRIVE below", x, () -> x.rules(500, 59));
        Check.illegal("5: DRIVE above", x, () -> x.rules(500, 301));
        Check.is("5: nothing changed", 500, x.rules(600, 240));
        Blockduty run = County.running();
        run.rules(100, 60);
        Check.is("5: no PIECES changed", 1, run.ofBlock(0, 3));
        Check.is("5: still given", 0, run.ofPiece(0, 0, 4));
        Check.is("5: but CUT anew", 3, run.cut(0));
    }

    private static void winter() {
        Blockduty x = County.running();
        Check.is("6: first COLD", 0, x.winter(3, 99));
        Check.is("6: COLD before", 3, x.winter(1, 0));
        Check.is("6: COLD before", 1, x.winter(2, 30));
        Check.illegal("6: COLD below", x, () -> x.winter(-1, 30));
        Check.illegal("6: COLD above", x, () -> x.winter(4, 30));
        Check.illegal("6: FINE below", x, () -> x.winter(2, -1));
        Check.illegal("6: FINE above", x, () -> x.winter(2, 100));
        Check.is("6: nothing changed", 2, x.winter(2, 30));
        Check.is("6: with COLD", 999 - 3 * 50 * 4, x.ofBlock(0, 5));
        x.sick(0, true);
        Check.is("6: FINES", -3 * 30, x.many(5));
        Blockduty first = County.running();
        first.sick(0, true);
        Check.is("6: the first FINE", -3 * 5, first.many(5));
    }

    private static void driver() {
        Blockduty x = new Blockduty();
        for (int number = 0; number < 6; number++) {
            Check.is("7: number", number, x.driver());
            Check.is("7: not SICK", 0, x.ofDriver(number, 2));
        }
        Check.notNow("7: there are 6", x, () -> x.driver());
        Check.is("7: 6", 6, x.many(2));
    }
}
