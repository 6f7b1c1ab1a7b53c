import java.math.BigInteger;
import java.util.ArrayList;
import java.util.List;

/** Promises 27 to 31: what would be. */
public final class SupposedTest {
    public static void main(String[] args) {
        leastBlocks();
        leastBlocksByOthers();
        leastBlocksOfMany();
        leastBlocksByAllOthers();
        wouldLose();
        mayDelay();
        mayDelayAgain();
        bestSwap();
        bestSwapFlat();
        bestSwapNone();
        bestSwapTies();
        digest();
        nothingChanges();
        Check.end();
    }

    private static void leastBlocks() {
        Blockduty x = new Blockduty();
        Check.is("27: without TRIPS", 0, x.leastBlocks());
        x.place(1, 10, 0, false);
        x.trip(0, 0, 1, 100, 30);
        Check.is("27: one", 1, x.leastBlocks());
        x.trip(0, 0, 0, 143, 30);
        Check.is("27: can not FOLLOW", 2, x.leastBlocks());
        x.trip(0, 0, 0, 144, 30);
        Check.is("27: can FOLLOW", 2, x.leastBlocks());
        x.trip(0, 0, 0, 178, 30);
        Check.is("27: one of them", 2, x.leastBlocks());
        x.trip(0, 0, 0, 178, 30);
        Check.is("27: both of them", 2, x.leastBlocks());
        x.block(50);
        x.block(50);
        Check.is("27: BLOCKS aside", 2, x.leastBlocks());
        x.line(0, 1, true);
        x.winter(3, 5);
        Check.is("27: batteries aside", 2, x.leastBlocks());
    }

    /** The first choice of each TRIP has to be given up for another one. */
    private static void leastBlocksByOthers() {
        Blockduty x = new Blockduty();
        x.place(1, 60, 0, false);
        x.trip(0, 0, 0, 100, 30);
        x.trip(0, 0, 1, 100, 30);
        x.trip(0, 1, 0, 194, 30);
        x.trip(0, 0, 1, 150, 30);
        // 0 can have both followers, 1 only the first of them.
        Check.is("27: two chains", 2, x.leastBlocks());
        // Not FOLLOWING by way of another one: EMPTY is longer than the short TRIP between.
        Blockduty y = new Blockduty();
        y.place(1, 60, 0, false);
        y.trip(0, 0, 0, 100, 20);
        y.trip(0, 0, 1, 124, 5);
        y.trip(0, 1, 1, 133, 20);
        y.trip(0, 0, 1, 124, 5);
        Check.is("27: each the one ahead of it", 2, y.leastBlocks());
    }

    private static void leastBlocksOfMany() {
        Blockduty chain = County.hourly(16);
        Check.is("27: one chain", 1, chain.leastBlocks());
        Blockduty all = new Blockduty();
        for (int i = 0; i < 16; i++) {
            all.trip(0, 0, 0, 500, 30);
        }
        Check.is("27: above 8", 16, all.leastBlocks());
        // Told from the last one to the first, with a long way of changes for the first of all.
        Blockduty back = new Blockduty();
        for (int i = 15; i >= 0; i--) {
            back.trip(0, 0, 0, 80 * i, 60);
        }
        Check.is("27: told backwards", 1, back.leastBlocks());
    }

    /** The last pair can only be had, if 13 other TRIPS change the one that FOLLOWS them. */
    private static void leastBlocksByAllOthers() {
        int[] x = {50, 43, 4, 20, 20, 46, 12, 42};
        int[][] trips = {
            {0, 5, 568, 16}, {6, 6, 774, 100}, {2, 0, 673, 17}, {0, 7, 470, 63},
            {7, 1, 586, 85}, {2, 4, 734, 7}, {7, 5, 491, 74}, {0, 6, 110, 113},
            {4, 4, 726, 46}, {1, 7, 800, 118}, {4, 2, 138, 17}, {3, 5, 1231, 76},
            {4, 7, 999, 58}, {2, 0, 168, 102}, {4, 0, 955, 44}, {6, 6, 1236, 71},
        };
        Blockduty county = new Blockduty();
        for (int place = 0; place < 8; place++) {
            county.place(place, x[place], 0, false);
        }
        for (int[] trip : trips) {
            county.trip(0, trip[0], trip[1], trip[2], trip[3]);
        }
        Check.is("27: many changes", 2, county.leastBlocks());
    }

    private static void wouldLose() {
        Blockduty x = County.running();
        Check.outside("28: below", x, () -> x.wouldLose(-1, 0));
        Check.outside("28: above", x, () -> x.wouldLose(1, 0));
        Check.outside("28: BLOCK ahead of minute", x, () -> x.wouldLose(1, -1));
        Check.illegal("28: minute below", x, () -> x.wouldLose(0, -1));
        Check.illegal("28: minute above", x, () -> x.wouldLose(0, 1601));
        Check.is("28: all", 3, x.wouldLose(0, 0));
        Check.is("28: from that minute", 3, x.wouldLose(0, 480));
        Check.is("28: later", 2, x.wouldLose(0, 481));
        Check.is("28: the last", 1, x.wouldLose(0, 600));
        Check.is("28: none", 0, x.wouldLose(0, 601));
        Check.is("28: none", 0, x.wouldLose(0, 1600));
        x.breakdown(0, 540);
        Check.is("28: more", 1, x.wouldLose(0, 480));
        Check.is("28: the same", 0, x.wouldLose(0, 540));
        Check.is("28: fewer", -1, x.wouldLose(0, 600));
        Check.is("28: fewer", -2, x.wouldLose(0, 1600));
        Check.is("28: nothing changed", 540, x.breakdown(0, -1));
        // A TRIP that is LOST earlier lets a later one be in time.
        Blockduty y = new Blockduty();
        y.trip(0, 0, 0, 100, 20);
        y.trip(0, 0, 0, 124, 100);
        y.trip(0, 0, 0, 228, 20);
        County.runInOneBlock(y);
        y.delay(1, 60);
        Check.is("28: too LATE", 6, y.ofTrip(2, 8));
        Check.is("28: two instead of one", 1, y.wouldLose(0, 124));
        y.line(0, 10, true);
        Check.is("28: CLOSED all the same", 0, y.wouldLose(0, 0));
    }

    private static void mayDelay() {
        Blockduty x = County.running();
        Check.outside("29: below", x, () -> x.mayDelay(-1));
        Check.outside("29: above", x, () -> x.mayDelay(3));
        // 10 to wait, and 30 LATE; then 20 more are waited for.
        Check.is("29: the first", 40, x.mayDelay(0));
        Check.is("29: the second", 40, x.mayDelay(1));
        Check.is("29: the last", 120, x.mayDelay(2));
        x.delay(1, 25);
        Check.is("29: with that of the second", 25, x.mayDelay(0));
        Check.is("29: its own one aside", 40, x.mayDelay(1));
        x.delay(1, 120);
        // Up to 40 the third is LOST, up to 100 the second one instead of it, then both.
        Check.is("29: another one LOST instead", 100, x.mayDelay(0));
        Check.is("29: nothing changed", 120, x.delay(1, 0));
        x.breakdown(0, 560);
        Check.is("29: up to the BREAKDOWN", 29, x.mayDelay(0));
        x.takeBack(0, 0);
        Check.is("29: LOST", 120, x.mayDelay(0));
        Blockduty brink = County.running();
        brink.delay(0, 20);
        brink.breakdown(0, 601);
        Check.is("29: not even 1", 0, brink.mayDelay(1));
        brink.breakdown(0, 602);
        Check.is("29: just 1", 1, brink.mayDelay(1));
        Blockduty alone = County.hourly(1);
        Check.is("29: without a BLOCK", 120, alone.mayDelay(0));
    }

    /** A greater DELAY loses one TRIP, and saves the next, that a smaller one would lose too. */
    private static void mayDelayAgain() {
        Blockduty x = new Blockduty();
        x.trip(0, 0, 0, 100, 20);
        x.trip(0, 0, 0, 124, 100);
        x.trip(0, 0, 0, 228, 20);
        County.runInOneBlock(x);
        x.delay(1, 30);
        // Up to 8 the third is at most 30 LATE, up to 34 it is LOST, and then the second one is.
        Check.is("29: none LOST", 8, x.mayDelay(0));
        x.delay(1, 60);
        // The third is LOST with 0; behind 34 the second is, and the third is in time up to 138.
        Check.is("29: one LOST anyway", 120, x.mayDelay(0));
        x.delay(1, 0);
        Check.is("29: the second just LATE", 34, x.mayDelay(0));
    }

    private static Blockduty places() {
        Blockduty x = new Blockduty();
        x.place(1, 20, 0, true);
        x.place(2, 50, 0, true);
        return x;
    }

    private static void bestSwap() {
        Blockduty x = places();
        x.trip(0, 0, 1, 100, 30);
        x.trip(0, 2, 0, 300, 30);
        x.trip(0, 0, 2, 100, 30);
        x.trip(0, 1, 0, 300, 30);
        x.block(900);
        x.block(900);
        x.append(0, 0);
        x.append(0, 1);
        x.append(1, 2);
        x.append(1, 3);
        Check.outside("30: one below", x, () -> x.bestSwap(-1, 0));
        Check.outside("30: other above", x, () -> x.bestSwap(0, 2));
        Check.outside("30: other below", x, () -> x.bestSwap(0, -1));
        Check.outside("30: first the BLOCKS", x, () -> x.bestSwap(2, 2));
        Check.illegal("30: the same", x, () -> x.bestSwap(1, 1));
        Check.is("30: EMPTY so far", 60, x.many(7));
        Check.is("30: one stays of each", 21, x.bestSwap(0, 1));
        Check.is("30: nothing changed", 60, x.many(7));
        x.swap(0, 1, 1, 1);
        Check.is("30: none then", 0, x.many(7));
        Check.is("30: the whole rows", 0, x.bestSwap(0, 1));
        Check.is("30: from the other side", 0, x.bestSwap(1, 0));
    }

    private static void bestSwapFlat() {
        Blockduty x = places();
        x.trip(0, 0, 1, 100, 30);
        x.trip(0, 2, 0, 300, 30);
        x.trip(0, 0, 2, 100, 30);
        x.trip(0, 1, 0, 300, 100);
        x.block(200);
        x.block(900);
        x.append(0, 0);
        x.append(0, 1);
        x.append(1, 2);
        x.append(1, 3);
        // With the long TRIP the first BLOCK would be FLAT: only what leaves that where it is.
        Check.is("30: not with a FLAT one", 42, x.bestSwap(0, 1));
        Check.is("30: nor as the other one", 42, x.bestSwap(1, 0));
        x.winter(3, 5);
        Check.is("30: none, with COLD", -1, x.bestSwap(0, 1));
    }

    private static void bestSwapNone() {
        Blockduty x = County.hourly(2);
        x.block(50);
        x.block(60);
        Check.is("30: without TRIPS", 0, x.bestSwap(0, 1));
        x.append(0, 0);
        x.append(1, 1);
        Check.is("30: always FLAT", -1, x.bestSwap(0, 1));
        x.block(100);
        Check.is("30: into another one", 0, x.bestSwap(0, 2));
    }

    private static void bestSwapTies() {
        // No EMPTY at all, whatever is swapped; the first TRIPS of both are at the same time.
        Blockduty x = new Blockduty();
        x.trip(0, 0, 0, 100, 20);
        x.trip(0, 0, 0, 100, 20);
        x.trip(0, 0, 0, 200, 20);
        x.block(80);
        x.block(50);
        x.append(0, 0);
        x.append(1, 1);
        x.append(0, 2);
        // Just the first BLOCK can have two TRIPS, and they can only be those that it has.
        Check.is("30: only as it is", 41, x.bestSwap(0, 1));
        x.takeOff(0);
        Check.is("30: of several the smallest", 0, x.bestSwap(0, 1));
    }

    /** What the digest is of, in its order, from the answers of the other calls. */
    private static List<Integer> digested(Blockduty x) {
        List<Integer> all = new ArrayList<>();
        for (int what = 0; what <= 8; what++) {
            all.add(x.many(what));
        }
        for (int cause = 1; cause <= 6; cause++) {
            all.add(x.lost(cause));
        }
        for (int t = 0; t < x.many(0); t++) {
            for (int what = 0; what <= 10; what++) {
                all.add(x.ofTrip(t, what));
            }
            all.add(x.mayDelay(t));
        }
        for (int b = 0; b < x.many(1); b++) {
            for (int what = 0; what <= 7; what++) {
                all.add(x.ofBlock(b, what));
            }
            for (int p = 0; p < x.ofBlock(b, 3); p++) {
                for (int what = 0; what <= 5; what++) {
                    all.add(x.ofPiece(b, p, what));
                }
            }
            all.add(x.wouldLose(b, 600));
        }
        for (int driver = 0; driver < x.many(2); driver++) {
            for (int what = 0; what <= 4; what++) {
                all.add(x.ofDriver(driver, what));
            }
        }
        all.add(x.leastBlocks());
        if (x.many(1) >= 2) {
            all.add(x.bestSwap(0, 1));
        }
        return all;
    }

    /** Without a wrap-around up to the end; just the lowest 64 bits are left of that. */
    private static long summed(Blockduty x) {
        BigInteger d = BigInteger.valueOf(58195);
        for (int v : digested(x)) {
            d = d.multiply(BigInteger.valueOf(31)).add(BigInteger.valueOf(v));
        }
        Check.isTrue("31: it wraps around", d.bitLength() > 63);
        return d.longValue();
    }

    private static void digest() {
        Blockduty x = new Blockduty();
        Check.isLong("31: a new one", summed(x), x.digest());
        Check.isLong("31: a new one, as the landed test has it", -5369382361376105133L, x.digest());
        Blockduty run = County.running();
        run.delay(0, 20);
        Check.isLong("31: one BLOCK", summed(run), run.digest());
        for (int late = 9; late <= 11; late++) {
            run.delay(1, late);
            Check.isLong("31: about the minute of wouldLose", summed(run), run.digest());
        }
        run.delay(1, 0);
        for (int start = 599; start <= 601; start++) {
            Blockduty near = new Blockduty();
            near.trip(0, 0, 0, start, 30);
            near.block(100);
            near.append(0, 0);
            near.cut(0);
            near.driver();
            near.give(0, 0, 0);
            Check.isLong("31: begins at " + start, summed(near), near.digest());
        }
        run.block(300);
        run.driver();
        Check.isLong("31: two BLOCKS", summed(run), run.digest());
        run.swap(0, 1, 1, 0);
        run.cut(1);
        run.give(1, 0, 1);
        run.breakdown(1, 555);
        run.block(50);
        Check.isLong("31: three BLOCKS", summed(run), run.digest());
    }

    private static void nothingChanges() {
        Blockduty x = County.running();
        x.block(300);
        x.delay(0, 17);
        x.breakdown(0, 590);
        long before = x.digest();
        x.leastBlocks();
        x.wouldLose(0, 0);
        Check.is("28: nothing changed", 2, x.ofBlock(0, 7));
        x.mayDelay(0);
        Check.is("29: nothing changed", 7, x.ofTrip(1, 9));
        x.bestSwap(0, 1);
        Check.is("30: nothing changed", 3, x.ofBlock(0, 1));
        Check.is("30: still CUT", 1, x.ofBlock(0, 3));
        Check.isLong("31: the same", before, x.digest());
        Check.isLong("31: and again", before, x.digest());
    }
}
