/** Promises 13 to 18: cutting and giving of work, and what happens. */
public final class WorkTest {
    public static void main(String[] args) {
        cut();
        cutAtSpread();
        cutAtDrive();
        spellEnds();
        cutAtRelief();
        cutAgain();
        give();
        giveGap();
        giveMinutes();
        takeBack();
        delay();
        breakdown();
        sick();
        Check.end();
    }

    private static void cut() {
        Blockduty x = County.hourly(3);
        Check.outside("13: no BLOCK", x, () -> x.cut(0));
        x.block(999);
        Check.outside("13: below", x, () -> x.cut(-1));
        Check.outside("13: above", x, () -> x.cut(1));
        Check.notNow("13: no TRIPS", x, () -> x.cut(0));
        x.append(0, 0);
        x.append(0, 1);
        Check.is("13: not CUT", 0, x.ofBlock(0, 3));
        Check.is("13: one PIECE", 1, x.cut(0));
        Check.is("13: CUT", 1, x.ofBlock(0, 3));
        Check.is("13: minutes", 110, x.ofPiece(0, 0, 3));
        Check.is("13: nobody's", -1, x.ofPiece(0, 0, 4));
    }

    /** The TRIPS 0, 1, .. of the county in one BLOCK, CUT with these rules. */
    private static int cutAll(Blockduty x, int spread, int drive) {
        x.rules(spread, drive);
        x.block(999);
        for (int i = 0; i < x.many(0); i++) {
            x.append(0, i);
        }
        return x.cut(0);
    }

    private static void cutAtSpread() {
        Blockduty x = County.hourly(4);
        Check.is("13: just the SPREAD", 2, cutAll(x, 170, 300));
        Check.is("13: first", 0, x.ofPiece(0, 0, 0));
        Check.is("13: last", 2, x.ofPiece(0, 0, 1));
        Check.is("13: how many", 3, x.ofPiece(0, 0, 2));
        Check.is("13: the rest", 1, x.ofPiece(0, 1, 2));
        Check.is("13: its first", 3, x.ofPiece(0, 1, 0));
        Check.is("13: its last", 3, x.ofPiece(0, 1, 1));
        Check.is("13: one minute less", 2, cutAll(County.hourly(4), 169, 300));
        Check.is("13: its half", 2, halves());
    }

    private static int halves() {
        Blockduty x = County.hourly(4);
        cutAll(x, 169, 300);
        return x.ofPiece(0, 0, 2);
    }

    private static void cutAtDrive() {
        // Waits of 10 do not end a SPELL: 50 for each TRIP.
        Check.is("13: just the DRIVE", 2, cutAll(County.hourly(4), 900, 100));
        Check.is("13: one minute less", 4, cutAll(County.hourly(4), 900, 99));
        Check.is("13: all", 1, cutAll(County.hourly(4), 900, 200));
        Check.is("13: the first DRIVE", 1, cutAsNew(0));
        Check.is("13: the first DRIVE and 1", 2, cutAsNew(1));
        // A trip alone may be too long for every PIECE.
        Blockduty x = new Blockduty();
        x.trip(0, 0, 0, 0, 60);
        x.trip(0, 0, 0, 100, 61);
        County.runInOneBlock(x);
        x.rules(900, 60);
        Check.notNow("13: can not be CUT", x, () -> x.cut(0));
        Check.is("13: it stays as it was", 0, x.ofPiece(0, 0, 4));
        x.rules(900, 61);
        Check.is("13: now it can", 1, x.cut(0));
        Check.is("13: not in pieces", 161, x.ofPiece(0, 0, 3));
    }

    /** Two TRIPS of 120 together, or a bit more, by the DRIVE of a new object. */
    private static int cutAsNew(int empty) {
        Blockduty x = new Blockduty();
        x.place(1, empty, 0, true);
        x.trip(0, 0, 0, 100, 120);
        x.trip(0, 1, 0, 230, 120);
        x.block(999);
        x.append(0, 0);
        x.append(0, 1);
        return x.cut(0);
    }

    private static void spellEnds() {
        // 60 and EMPTY of 30 are a SPELL of 90, if the wait behind them is 20.
        for (int wait = 19; wait <= 20; wait++) {
            for (int drive = 89; drive <= 90; drive++) {
                Blockduty x = new Blockduty();
                x.place(1, 30, 0, true);
                x.trip(0, 0, 0, 100, 60);
                x.trip(0, 1, 1, 190 + wait, 80);
                int due = wait == 20 && drive == 90 ? 1 : 2;
                Check.is("13: wait " + wait + " drive " + drive, due, cutAll(x, 900, drive));
            }
        }
    }

    private static void cutAtRelief() {
        Blockduty x = new Blockduty();
        x.place(1, 0, 0, true);
        x.trip(0, 0, 2, 100, 50);
        x.trip(0, 2, 1, 160, 50);
        x.trip(0, 1, 2, 220, 50);
        x.trip(0, 2, 2, 280, 50);
        Check.is("13: only at the RELIEF place", 2, cutAll(x, 900, 150));
        Check.is("13: the first PIECE", 2, x.ofPiece(0, 0, 2));
        Check.is("13: the last one ends anywhere", 3, x.ofPiece(0, 1, 1));
        x.rules(900, 99);
        Check.notNow("13: no PIECE from the beginning", x, () -> x.cut(0));
        x.rules(900, 60);
        Check.notNow("13: no PIECE at all", x, () -> x.cut(0));
        Check.is("13: of its PIECE", 0, x.ofTrip(1, 7));
        Check.is("13: of its PIECE", 1, x.ofTrip(2, 7));
        // The first PIECE is LAWFUL, and what it leaves is not.
        Blockduty rest = new Blockduty();
        rest.trip(0, 0, 0, 100, 50);
        rest.trip(0, 0, 2, 160, 60);
        rest.trip(0, 2, 2, 230, 60);
        rest.rules(900, 110);
        rest.block(999);
        for (int i = 0; i < 3; i++) {
            rest.append(0, i);
        }
        Check.notNow("13: no PIECE from a later beginning", rest, () -> rest.cut(0));
        Check.is("13: with 120", 2, cutAllOf(rest));
    }

    private static int cutAllOf(Blockduty x) {
        x.rules(900, 120);
        return x.cut(0);
    }

    private static void cutAgain() {
        Blockduty x = County.running();
        Check.is("13: given", 0, x.ofPiece(0, 0, 4));
        Check.is("13: again", 1, x.cut(0));
        Check.is("13: nobody's any more", -1, x.ofPiece(0, 0, 4));
        Check.is("13: nor the DRIVER'S", 0, x.ofDriver(0, 0));
        Check.is("13: given once more", 170, x.give(0, 0, 0));
    }

    private static void give() {
        Blockduty x = County.hourly(3);
        x.block(999);
        x.append(0, 0);
        x.driver();
        x.driver();
        Check.outside("14: not CUT", x, () -> x.give(0, 0, 0));
        x.cut(0);
        Check.outside("14: BLOCK below", x, () -> x.give(-1, 0, 0));
        Check.outside("14: BLOCK above", x, () -> x.give(1, 0, 0));
        Check.outside("14: PIECE below", x, () -> x.give(0, -1, 0));
        Check.outside("14: PIECE above", x, () -> x.give(0, 1, 0));
        Check.outside("14: DRIVER below", x, () -> x.give(0, 0, -1));
        Check.outside("14: DRIVER above", x, () -> x.give(0, 0, 2));
        x.sick(1, true);
        Check.is("14: to a SICK one too", 50, x.give(0, 0, 1));
        Check.is("14: the DRIVER", 1, x.ofPiece(0, 0, 4));
        Check.notNow("14: given", x, () -> x.give(0, 0, 0));
        Check.notNow("14: given to that one", x, () -> x.give(0, 0, 1));
        Check.outside("14: no DRIVER ahead of given", x, () -> x.give(0, 0, 2));
        x.block(999);
        x.append(1, 2);
        x.cut(1);
        Check.is("14: another one", 100, x.give(1, 0, 1));
        Check.is("14: two", 2, x.ofDriver(1, 0));
    }

    /** One TRIP of 300 to 330 that is given, and one that begins with start; both to one DRIVER. */
    private static Blockduty pair(int start, int minutes) {
        Blockduty x = new Blockduty();
        x.trip(0, 0, 0, 300, 30);
        x.trip(0, 0, 0, start, minutes);
        x.driver();
        for (int b = 0; b < 2; b++) {
            x.block(999);
            x.append(b, b);
            x.cut(b);
        }
        x.give(0, 0, 0);
        return x;
    }

    private static void giveGap() {
        Check.is("14: 11 behind", 60, pair(341, 30).give(1, 0, 0));
        Check.is("14: 11 ahead", 60, pair(259, 30).give(1, 0, 0));
        Blockduty behind = pair(340, 30);
        Check.notNow("14: 10 behind", behind, () -> behind.give(1, 0, 0));
        Blockduty ahead = pair(260, 30);
        Check.notNow("14: 10 ahead", ahead, () -> ahead.give(1, 0, 0));
        Blockduty inside = pair(310, 5);
        Check.notNow("14: inside", inside, () -> inside.give(1, 0, 0));
        Blockduty around = pair(270, 90);
        Check.notNow("14: around", around, () -> around.give(1, 0, 0));
        Check.is("14: to another DRIVER", 90, toAnother(around));
        Check.is("14: when it is taken back", 90, takenBack(pair(270, 90)));
    }

    private static int toAnother(Blockduty x) {
        x.driver();
        return x.give(1, 0, 1);
    }

    private static int takenBack(Blockduty x) {
        x.takeBack(0, 0);
        return x.give(1, 0, 0);
    }

    private static void giveMinutes() {
        for (int more = 0; more <= 1; more++) {
            Blockduty x = new Blockduty();
            x.driver();
            x.rules(900, 300);
            for (int i = 0; i < 5; i++) {
                x.trip(0, 0, 0, 200 * i, 120);
                x.block(999);
                x.append(i, i);
                x.cut(i);
            }
            x.takeOff(4);
            x.trip(0, 0, 0, 800, 115 + more);
            x.trip(0, 0, 0, 1000, 5);
            x.append(4, 5);
            x.cut(4);
            for (int i = 0; i < 5; i++) {
                Check.is("14: minutes", i == 4 ? 595 + more : 120 * (i + 1), x.give(i, 0, 0));
            }
            x.block(999);
            x.append(5, 6);
            x.cut(5);
            if (more == 0) {
                Check.is("14: just 600", 600, x.give(5, 0, 0));
            } else {
                Check.notNow("14: above 600", x, () -> x.give(5, 0, 0));
            }
        }
    }

    private static void takeBack() {
        Blockduty x = County.running();
        Check.outside("15: BLOCK below", x, () -> x.takeBack(-1, 0));
        Check.outside("15: BLOCK above", x, () -> x.takeBack(1, 0));
        Check.outside("15: PIECE below", x, () -> x.takeBack(0, -1));
        Check.outside("15: PIECE above", x, () -> x.takeBack(0, 1));
        Check.is("15: the DRIVER", 0, x.takeBack(0, 0));
        Check.is("15: nobody", -1, x.takeBack(0, 0));
        Check.is("15: nobody's PIECE", -1, x.ofPiece(0, 0, 4));
        Check.is("15: no PIECES", 0, x.ofDriver(0, 0));
        Check.is("15: still CUT", 1, x.ofBlock(0, 3));
        Check.is("15: LOST", 3, x.lost(4));
    }

    private static void delay() {
        Blockduty x = County.running();
        Check.outside("16: below", x, () -> x.delay(-1, 0));
        Check.outside("16: above", x, () -> x.delay(3, 0));
        Check.outside("16: TRIP ahead of DELAY", x, () -> x.delay(3, 121));
        Check.illegal("16: DELAY below", x, () -> x.delay(0, -1));
        Check.illegal("16: DELAY above", x, () -> x.delay(0, 121));
        Check.is("16: at first", 0, x.delay(0, 120));
        Check.is("16: before", 120, x.delay(0, 25));
        Check.is("16: told", 25, x.ofTrip(0, 5));
        Check.is("16: END is as it was", 530, x.ofTrip(0, 4));
        Check.is("16: REAL END", 555, x.ofTrip(0, 10));
        Check.is("16: the next one is LATE", 15, x.ofTrip(1, 9));
        Check.is("16: and the next", 5, x.ofTrip(2, 9));
        Check.is("16: the battery is as it was", 999 - 300, x.ofBlock(0, 5));
    }

    private static void breakdown() {
        Blockduty x = County.running();
        Check.outside("17: below", x, () -> x.breakdown(-1, 0));
        Check.outside("17: above", x, () -> x.breakdown(1, 0));
        Check.outside("17: BLOCK ahead of minute", x, () -> x.breakdown(1, 1601));
        Check.illegal("17: minute below", x, () -> x.breakdown(0, -2));
        Check.illegal("17: minute above", x, () -> x.breakdown(0, 1601));
        Check.is("17: at first", -1, x.breakdown(0, 1600));
        Check.is("17: before", 1600, x.breakdown(0, 540));
        Check.is("17: in that minute", 2, x.lost(3));
        Check.is("17: before", 540, x.breakdown(0, 541));
        Check.is("17: later", 1, x.lost(3));
        x.delay(0, 12);
        Check.is("17: the REAL START", 2, x.lost(3));
        Check.is("17: before", 541, x.breakdown(0, 0));
        Check.is("17: from the beginning", 3, x.lost(3));
        Check.is("17: before", 0, x.breakdown(0, -1));
        Check.is("17: none", 0, x.lost(3));
    }

    private static void sick() {
        Blockduty x = County.running();
        Check.outside("18: below", x, () -> x.sick(-1, true) ? 1 : 0);
        Check.outside("18: above", x, () -> x.sick(1, true) ? 1 : 0);
        Check.isTrue("18: not at first", !x.sick(0, true));
        Check.isTrue("18: it was", x.sick(0, true));
        Check.is("18: SICK", 1, x.ofDriver(0, 2));
        Check.is("18: LOST", 3, x.lost(5));
        Check.isTrue("18: it was", x.sick(0, false));
        Check.isTrue("18: it was not", !x.sick(0, false));
        Check.is("18: they run", 3, x.many(4));
    }
}
