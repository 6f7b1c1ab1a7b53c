/** Promises 19 to 26: what is asked. */
public final class AskedTest {
    public static void main(String[] args) {
        wrongInputs();
        causesInOrder();
        late();
        lostAreNotWaitedFor();
        ofTrip();
        battery();
        batteryEdges();
        at();
        worked();
        pay();
        county();
        many();
        meanLate();
        Check.end();
    }

    private static void wrongInputs() {
        Blockduty x = County.running();
        Check.outside("19: below", x, () -> x.ofTrip(-1, 0));
        Check.outside("19: above", x, () -> x.ofTrip(3, 0));
        Check.outside("19: TRIP ahead of what", x, () -> x.ofTrip(3, 11));
        Check.illegal("19: what below", x, () -> x.ofTrip(0, -1));
        Check.illegal("19: what above", x, () -> x.ofTrip(0, 11));
        Check.outside("20: below", x, () -> x.ofBlock(-1, 0));
        Check.outside("20: above", x, () -> x.ofBlock(1, 0));
        Check.outside("20: BLOCK ahead of what", x, () -> x.ofBlock(1, 8));
        Check.illegal("20: what below", x, () -> x.ofBlock(0, -1));
        Check.illegal("20: what above", x, () -> x.ofBlock(0, 8));
        Check.outside("21: below", x, () -> x.at(-1, 0));
        Check.outside("21: above", x, () -> x.at(1, 0));
        Check.outside("21: BLOCK ahead of k", x, () -> x.at(1, -1));
        Check.illegal("21: k below", x, () -> x.at(0, -1));
        Check.outside("22: BLOCK below", x, () -> x.ofPiece(-1, 0, 0));
        Check.outside("22: BLOCK above", x, () -> x.ofPiece(1, 0, 0));
        Check.outside("22: PIECE below", x, () -> x.ofPiece(0, -1, 0));
        Check.outside("22: PIECE above", x, () -> x.ofPiece(0, 1, 0));
        Check.outside("22: PIECE ahead of what", x, () -> x.ofPiece(0, 1, 6));
        Check.illegal("22: what below", x, () -> x.ofPiece(0, 0, -1));
        Check.illegal("22: what above", x, () -> x.ofPiece(0, 0, 6));
        Check.outside("23: below", x, () -> x.ofDriver(-1, 0));
        Check.outside("23: above", x, () -> x.ofDriver(1, 0));
        Check.outside("23: DRIVER ahead of what", x, () -> x.ofDriver(1, 5));
        Check.illegal("23: what below", x, () -> x.ofDriver(0, -1));
        Check.illegal("23: what above", x, () -> x.ofDriver(0, 5));
        Check.illegal("24: below", x, () -> x.many(-1));
        Check.illegal("24: above", x, () -> x.many(9));
        Check.outside("25: below", x, () -> x.lost(0));
        Check.outside("25: above", x, () -> x.lost(7));
    }

    /** Each cause is put right, from the first one on, so that the next one shows. */
    private static void causesInOrder() {
        Blockduty x = new Blockduty();
        x.trip(1, 0, 0, 300, 60);
        x.trip(1, 0, 0, 370, 60);
        x.delay(0, 41);
        x.line(0, 10, true);
        x.line(1, 10, true);
        cause(x, 1);
        x.block(999);
        x.append(0, 0);
        x.append(0, 1);
        x.breakdown(0, 370);
        cause(x, 2);
        x.line(1, 10, false);
        cause(x, 3);
        x.breakdown(0, 371);
        // The TRIP ahead does not run either, so this one would begin at 370.
        cause(x, 4);
        x.cut(0);
        cause(x, 4);
        x.driver();
        x.sick(0, true);
        x.give(0, 0, 0);
        cause(x, 5);
        x.sick(0, false);
        // Now that runs, and this one would begin at 401.
        cause(x, 3);
        x.breakdown(0, 401);
        cause(x, 3);
        x.breakdown(0, 402);
        cause(x, 6);
        Check.is("19: not LATE, but LOST", -1, x.ofTrip(1, 9));
        Check.is("19: no REAL END", -1, x.ofTrip(1, 10));
        x.delay(0, 40);
        cause(x, 0);
        Check.is("19: 30 minutes LATE", 30, x.ofTrip(1, 9));
        Check.is("19: REAL END", 460, x.ofTrip(1, 10));
    }

    private static void cause(Blockduty x, int due) {
        Check.is("19: the CAUSE", due, x.ofTrip(1, 8));
        for (int cause = 1; cause <= 6; cause++) {
            int count = 0;
            for (int t = 0; t < x.many(0); t++) {
                count += x.ofTrip(t, 8) == cause ? 1 : 0;
            }
            Check.is("25: " + cause, count, x.lost(cause));
        }
        Check.isTrue("25: by the CAUSE", due == 0 || x.lost(due) > 0);
    }

    private static void late() {
        Blockduty x = new Blockduty();
        x.place(1, 10, 0, true);
        x.place(2, 17, 0, true);
        x.trip(0, 0, 1, 100, 30);
        x.trip(0, 2, 0, 141, 20);
        x.trip(0, 0, 0, 170, 20);
        County.runInOneBlock(x);
        x.delay(0, 4);
        Check.is("19: just in time", 0, x.ofTrip(1, 9));
        x.delay(0, 5);
        Check.is("19: 100 + 30 + 5 + 7 - 141", 1, x.ofTrip(1, 9));
        Check.is("19: REAL END", 162, x.ofTrip(1, 10));
        x.delay(1, 30);
        Check.is("19: REAL END with its own DELAY", 192, x.ofTrip(1, 10));
        Check.is("19: the third", 22, x.ofTrip(2, 9));
        Check.is("24: the greatest", 22, x.many(8));
        Blockduty first = new Blockduty();
        first.trip(0, 0, 0, 200, 30);
        first.trip(0, 0, 0, 100, 90);
        first.block(999);
        first.append(0, 1);
        first.append(0, 0);
        first.cut(0);
        first.driver();
        first.give(0, 0, 0);
        first.delay(1, 16);
        Check.is("24: the greatest is of the first TRIP", 6, first.many(8));
    }

    private static void lostAreNotWaitedFor() {
        Blockduty x = new Blockduty();
        x.place(1, 60, 0, true);
        x.place(2, 30, 0, true);
        x.trip(0, 0, 0, 100, 30);
        x.trip(1, 1, 1, 200, 30);
        x.trip(0, 2, 2, 265, 30);
        County.runInOneBlock(x);
        x.delay(0, 110);
        // 240 and 60 to the second; without it 240 and 30 to the third.
        Check.is("19: too LATE", 6, x.ofTrip(1, 8));
        Check.is("19: from the one that RAN", 5, x.ofTrip(2, 9));
        x.line(1, 10, true);
        Check.is("19: behind a CLOSED one", 5, x.ofTrip(2, 9));
    }

    private static void ofTrip() {
        Blockduty x = new Blockduty();
        x.place(1, 10, 0, true);
        x.place(2, 20, 0, false);
        x.trip(2, 1, 2, 400, 25);
        x.trip(3, 2, 1, 450, 20);
        int[] due = {2, 1, 2, 400, 425, 0, -1, -1, 1, -1, -1};
        for (int what = 0; what <= 10; what++) {
            Check.is("19: alone " + what, due[what], x.ofTrip(0, what));
        }
        x.block(999);
        x.block(999);
        x.append(1, 1);
        x.append(0, 0);
        x.cut(0);
        x.cut(1);
        x.driver();
        x.give(1, 0, 0);
        x.delay(1, 7);
        due = new int[] {3, 2, 1, 450, 470, 7, 1, 0, 0, 0, 477};
        for (int what = 0; what <= 10; what++) {
            Check.is("19: running " + what, due[what], x.ofTrip(1, what));
        }
        due = new int[] {2, 1, 2, 400, 425, 0, 0, 0, 4, -1, -1};
        for (int what = 0; what <= 10; what++) {
            Check.is("19: LOST " + what, due[what], x.ofTrip(0, what));
        }
    }

    private static void battery() {
        Blockduty x = new Blockduty();
        x.place(0, 10, 5, true);
        x.place(1, 30, 2, true);
        x.place(2, 25, 1, true);
        x.trip(0, 1, 2, 400, 20);
        x.trip(0, 1, 2, 440, 20);
        x.trip(0, 2, 0, 500, 10);
        x.block(200);
        int[] empty = {200, 0, -1, 0, 0, 200, 0, 0};
        for (int what = 0; what <= 7; what++) {
            Check.is("20: without TRIPS " + what, empty[what], x.ofBlock(0, what));
        }
        x.append(0, 0);
        // 200 - 20 - 40 - 15
        Check.is("20: least", 125, x.ofBlock(0, 5));
        Check.is("20: EMPTY", 35, x.ofBlock(0, 6));
        x.append(0, 1);
        // 140 - 5, a wait of 15 with POWER 2, - 40, - 15 back
        Check.is("20: least", 110, x.ofBlock(0, 5));
        Check.is("20: EMPTY", 40, x.ofBlock(0, 6));
        x.append(0, 2);
        // 125, a wait of 40 with POWER 1, - 20, 0 back: the least is 125 of the END before.
        Check.is("20: least in the middle", 125, x.ofBlock(0, 5));
        Check.is("20: EMPTY", 25, x.ofBlock(0, 6));
        x.winter(1, 5);
        // 200 - 20 - 60 - 5 + 30 - 60
        Check.is("20: with COLD", 85, x.ofBlock(0, 5));
        x.cut(0);
        x.driver();
        x.give(0, 0, 0);
        x.breakdown(0, 450);
        int[] due = {200, 3, 450, 1, 0, 85, 25, 2};
        for (int what = 0; what <= 7; what++) {
            Check.is("20: " + what, due[what], x.ofBlock(0, what));
        }
    }

    private static void batteryEdges() {
        Blockduty full = new Blockduty();
        full.place(1, 5, 5, true);
        full.trip(0, 1, 1, 100, 10);
        full.trip(0, 1, 1, 200, 20);
        full.trip(0, 1, 1, 230, 20);
        full.block(70);
        full.append(0, 0);
        full.append(0, 1);
        // Full again with 70, and no more: 70 - 40 - 5
        Check.is("20: up to the CAPACITY", 25, full.ofBlock(0, 5));
        full.append(0, 2);
        // 30, a wait of 10 with 5, up to 70: - 40 - 5
        Check.is("20: up to the CAPACITY again", 25, full.ofBlock(0, 5));
        full.winter(3, 5);
        // 70 - 5 - 50, full, 70 - 100, a gain of 50, - 100, - 5
        Check.is("20: below 0 at an END", -30 + 50 - 100 - 5, full.ofBlock(0, 5));
        Check.is("20: FLAT", 1, full.ofBlock(0, 4));
        Blockduty back = new Blockduty();
        back.place(1, 10, 0, true);
        back.trip(0, 0, 1, 100, 20);
        back.block(50);
        back.append(0, 0);
        Check.is("20: 0 at last", 0, back.ofBlock(0, 5));
        Check.is("20: not FLAT", 0, back.ofBlock(0, 4));
        Blockduty flat = new Blockduty();
        flat.place(1, 11, 0, true);
        flat.trip(0, 0, 1, 100, 20);
        flat.block(50);
        flat.append(0, 0);
        Check.is("20: below 0 at last", -1, flat.ofBlock(0, 5));
        Check.is("20: FLAT", 1, flat.ofBlock(0, 4));
        // Below 0 behind the EMPTY, full again behind the wait.
        Blockduty behind = new Blockduty();
        behind.place(1, 20, 5, true);
        behind.trip(0, 0, 0, 100, 20);
        behind.trip(0, 1, 0, 200, 5);
        behind.block(55);
        behind.append(0, 0);
        behind.append(0, 1);
        Check.is("20: behind an EMPTY", -5, behind.ofBlock(0, 5));
        Check.is("20: FLAT behind an EMPTY", 1, behind.ofBlock(0, 4));
    }

    private static void at() {
        Blockduty x = County.hourly(3);
        x.block(999);
        Check.is("21: none", -1, x.at(0, 0));
        x.append(0, 0);
        x.append(0, 2);
        Check.is("21: the first", 0, x.at(0, 0));
        Check.is("21: the second", 2, x.at(0, 1));
        Check.is("21: none there", -1, x.at(0, 2));
        Check.is("21: nor there", -1, x.at(0, 16));
        Check.is("21: nor there", -1, x.at(0, Integer.MAX_VALUE));
    }

    private static void worked() {
        Blockduty x = County.running();
        Check.is("22: from 480 to 650, and 10", 180, x.ofPiece(0, 0, 5));
        Check.is("23: all", 180, x.ofDriver(0, 3));
        x.delay(2, 9);
        Check.is("22: to the REAL END", 189, x.ofPiece(0, 0, 5));
        x.breakdown(0, 600);
        Check.is("22: of the last that RAN", 120, x.ofPiece(0, 0, 5));
        x.breakdown(0, 0);
        Check.is("22: none RAN", 0, x.ofPiece(0, 0, 5));
        x.breakdown(0, -1);
        x.sick(0, true);
        Check.is("22: SICK", 0, x.ofPiece(0, 0, 5));
        Check.is("22: it has it all the same", 0, x.ofPiece(0, 0, 4));
        Check.is("23: SICK", 0, x.ofDriver(0, 3));
        Check.is("23: not paid", 0, x.ofDriver(0, 4));
        Check.is("23: minutes all the same", 170, x.ofDriver(0, 1));
        x.sick(0, false);
        x.takeBack(0, 0);
        Check.is("22: without a DRIVER", 0, x.ofPiece(0, 0, 5));
        // The first TRIP of the PIECE is LOST, and counts from its START.
        Blockduty late = new Blockduty();
        late.trip(1, 0, 0, 480, 50);
        late.trip(0, 0, 0, 540, 50);
        County.runInOneBlock(late);
        late.line(1, 10, true);
        Check.is("22: from the first START", 120, late.ofPiece(0, 0, 5));
        int[] due = {0, 1, 2, 110, 0, 120};
        for (int what = 0; what <= 5; what++) {
            Check.is("22: " + what, due[what], late.ofPiece(0, 0, what));
        }
    }

    /** One DRIVER with five PIECES of one TRIP each. */
    private static Blockduty fivePieces(int lastMinutes) {
        Blockduty x = new Blockduty();
        x.driver();
        for (int i = 0; i < 5; i++) {
            x.trip(0, 0, 0, 200 * i, i == 4 ? lastMinutes : 100);
            x.block(999);
            x.append(i, i);
            x.cut(i);
            x.give(i, 0, 0);
        }
        return x;
    }

    private static void pay() {
        // 4 PIECES of 110, and the last one.
        int[] last = {30, 31, 33, 34, 37, 38};
        int[] due = {120, 120, 120, 121 + 1, 121 + 1, 122 + 2};
        for (int i = 0; i < last.length; i++) {
            Blockduty x = fivePieces(last[i]);
            Check.is("23: PIECES", 5, x.ofDriver(0, 0));
            Check.is("23: minutes", 400 + last[i], x.ofDriver(0, 1));
            Check.is("23: not SICK", 0, x.ofDriver(0, 2));
            Check.is("23: WORKED", 450 + last[i], x.ofDriver(0, 3));
            Check.is("23: paid for " + (450 + last[i]), due[i], x.ofDriver(0, 4));
            Check.is("24: all", due[i], x.many(6));
        }
    }

    private static void county() {
        Blockduty x = new Blockduty();
        x.trip(0, 0, 0, 100, 50);
        x.trip(1, 0, 0, 154, 50);
        x.trip(2, 0, 0, 300, 50);
        x.trip(3, 0, 0, 400, 50);
        x.block(999);
        for (int t = 0; t < 3; t++) {
            x.append(0, t);
        }
        x.line(0, 20, false);
        x.line(1, 3, false);
        x.line(2, 40, false);
        x.cut(0);
        x.driver();
        x.give(0, 0, 0);
        Check.is("24: 20 + 3 + 40 - 5", 58, x.many(5));
        x.delay(0, 5);
        Check.is("24: 1 minute LATE", 58, x.many(5));
        x.delay(0, 6);
        Check.is("24: 2 minutes LATE", 57, x.many(5));
        x.delay(0, 24);
        Check.is("24: 20 minutes LATE", 48, x.many(5));
        x.line(2, 40, true);
        Check.is("24: no FINE for a CLOSED one", 8, x.many(5));
        x.line(3, 40, true);
        Check.is("24: without a BLOCK it has one", 8, x.many(5));
        x.winter(0, 0);
        Check.is("24: no FINE", 13, x.many(5));
        x.winter(0, 99);
        Check.is("24: below 0", 13 - 99, x.many(5));
    }

    private static void many() {
        Blockduty x = new Blockduty();
        x.place(1, 7, 0, true);
        x.trip(0, 1, 1, 100, 50);
        x.trip(0, 1, 0, 154, 50);
        x.trip(0, 0, 1, 154, 50);
        x.trip(0, 0, 0, 500, 50);
        x.block(999);
        x.block(999);
        x.block(999);
        x.append(0, 0);
        x.append(0, 1);
        x.append(1, 2);
        x.cut(0);
        x.cut(1);
        x.driver();
        x.driver();
        x.give(0, 0, 0);
        x.give(1, 0, 1);
        x.delay(0, 14);
        // WORKED 114 + 10 of the first DRIVER, 50 + 10 of the other one.
        int[] due = {4, 3, 2, 1, 3, 30 - 5 - 5, 31 + 15, 7 + 7, 10};
        for (int what = 0; what <= 8; what++) {
            Check.is("24: " + what, due[what], x.many(what));
        }
    }

    private static void meanLate() {
        Blockduty x = County.running();
        Check.is("26: none LATE", 0, x.meanLate());
        x.delay(0, 21);
        // 11 and 1 of three
        Check.is("26: 12 / 3", 4, x.meanLate());
        x.delay(0, 22);
        Check.is("26: not cut", 14.0 / 3, x.meanLate());
        x.breakdown(0, 600);
        Check.is("26: of those that RUN", 6, x.meanLate());
        x.breakdown(0, 0);
        Check.is("26: without any", 0, x.meanLate());
        Check.is("24: without any", 0, x.many(8));
    }
}
