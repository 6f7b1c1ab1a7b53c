import java.util.List;
import java.util.Random;

/** Long runs of calls, always the same ones, each compared with the model's answer. */
public final class ModelTest {
    private static final int RUNS = 40;
    private static final int CALLS = 500;

    private static final Class<?> OUTSIDE = IndexOutOfBoundsException.class;
    private static final Class<?> ILLEGAL = IllegalArgumentException.class;
    private static final Class<?> NOT_NOW = IllegalStateException.class;

    private interface Answer {
        double get();
    }

    private final Random random;
    private final Blockduty x = new Blockduty();
    private final Model m = new Model();
    private final String run;
    private int calls;

    private ModelTest(int seed) {
        random = new Random(seed);
        run = "run " + seed;
    }

    public static void main(String[] args) {
        for (int seed = 0; seed < RUNS; seed++) {
            new ModelTest(seed).go();
        }
        Check.end();
    }

    private void go() {
        for (int i = random.nextInt(9); i > 0; i--) {
            place();
        }
        for (int i = 4 + random.nextInt(14); i > 0; i--) {
            trip();
        }
        for (int i = random.nextInt(8); i > 0; i--) {
            driver();
        }
        while (calls < CALLS) {
            if (random.nextInt(10) < 6) {
                change();
            } else {
                ask();
            }
            if (random.nextInt(8) == 0) {
                calls++;
                Check.isLong(run + " digest", m.digest(), x.digest());
            }
        }
    }

    /** Makes the call on the object; and on the model, if it is not to throw. */
    private void both(String call, Class<?> thrown, Answer due, Answer made, Runnable told) {
        String label = run + " " + call;
        calls++;
        if (calls > 512) {
            // Later answers are free.
            return;
        }
        Class<?> got = null;
        double answer = 0;
        try {
            answer = made.get();
        } catch (RuntimeException e) {
            got = e.getClass();
            Check.isByTheClass(label, e);
        }
        Check.isTrue(label + " threw " + got + ", due is " + thrown, got == thrown);
        if (thrown == null) {
            told.run();
            Check.is(label, due.get(), answer);
        }
    }

    private void asked(String call, Class<?> thrown, Answer due, Answer made) {
        both(call, thrown, due, made, () -> { });
    }

    /** A number of 0 to most, and now and then one beside it. */
    private int near(int least, int most) {
        if (random.nextInt(25) == 0) {
            return random.nextBoolean() ? least - 1 : most + 1;
        }
        return most < least ? least : least + random.nextInt(most - least + 1);
    }

    private static boolean out(int value, int least, int most) {
        return value < least || value > most;
    }

    private int someBlock() {
        return near(0, m.blocks.size() - 1);
    }

    private int someTrip() {
        return near(0, m.trips.size() - 1);
    }

    private int somePiece(int b) {
        return near(0, noBlock(b) ? 0 : m.pieces.get(b).size() - 1);
    }

    private boolean noBlock(int b) {
        return out(b, 0, m.blocks.size() - 1);
    }

    private boolean noPiece(int b, int p) {
        return noBlock(b) || out(p, 0, m.pieces.get(b).size() - 1);
    }

    private boolean noTrip(int t) {
        return out(t, 0, m.trips.size() - 1);
    }

    private boolean noDriver(int d) {
        return out(d, 0, m.sick.size() - 1);
    }

    private void driver() {
        both("driver", m.sick.size() >= 6 ? NOT_NOW : null, () -> m.sick.size() - 1, x::driver,
                () -> m.sick.add(false));
    }

    private void place() {
        int place = near(0, 7);
        int px = near(0, 60);
        int power = near(0, 5);
        boolean relief = random.nextInt(4) > 0;
        Class<?> thrown = out(place, 0, 7) ? OUTSIDE : out(px, 0, 60) || out(power, 0, 5) ? ILLEGAL
                : !m.trips.isEmpty() ? NOT_NOW : null;
        int before = out(place, 0, 7) ? 0 : m.x[place];
        both("place", thrown, () -> before, () -> x.place(place, px, power, relief), () -> {
            m.x[place] = px;
            m.power[place] = power;
            m.relief[place] = relief || place == 0;
        });
    }

    private void trip() {
        int line = near(0, 3);
        int from = near(0, 7);
        int to = near(0, 7);
        // Mostly by the quarter of an hour, so that STARTS are often the same.
        int start = random.nextBoolean() ? near(0, 1439) : near(24, 66) * 15;
        int minutes = random.nextInt(3) == 0 ? near(5, 120) : 10 + random.nextInt(40);
        Class<?> thrown = out(line, 0, 3) || out(from, 0, 7) || out(to, 0, 7) ? OUTSIDE
                : out(start, 0, 1439) || out(minutes, 5, 120) ? ILLEGAL
                : m.trips.size() >= 16 ? NOT_NOW : null;
        both("trip", thrown, () -> m.trips.size() - 1, () -> x.trip(line, from, to, start, minutes),
                () -> m.trips.add(new int[] {line, from, to, start, minutes, 0}));
    }

    private void change() {
        switch (random.nextInt(40)) {
            case 0: case 1: line(); break;
            case 2: case 3: rulesOrWinter(); break;
            case 4: block(); break;
            case 5: case 6: append(); break;
            case 7: takeOff(); break;
            case 8: case 9: build(); break;
            case 10: case 11: swap(); break;
            case 12: case 13: case 14: cut(someBlock()); break;
            case 15: case 16: case 17: give(); break;
            case 18: takeBack(); break;
            case 19: case 20: breakdown(); break;
            case 21: sick(); break;
            case 22: trip(); break;
            case 23: case 24: case 25: handOut(); break;
            default: delay(); break;
        }
    }

    /** Cuts all blocks, and gives away what can be given, so that trips run. */
    private void handOut() {
        for (int b = 0; b < m.blocks.size(); b++) {
            if (m.pieces.get(b).isEmpty()) {
                cut(b);
            }
            for (int p = 0; p < m.pieces.get(b).size(); p++) {
                for (int d = 0; d < m.sick.size() && m.pieces.get(b).get(p)[2] < 0; d++) {
                    give(b, p, d);
                }
            }
        }
    }

    private void line() {
        int line = near(0, 3);
        int fee = near(0, 99);
        boolean closed = random.nextInt(5) == 0;
        int before = out(line, 0, 3) ? 0 : m.fee[line];
        both("line", out(line, 0, 3) ? OUTSIDE : out(fee, 0, 99) ? ILLEGAL : null, () -> before,
                () -> x.line(line, fee, closed), () -> {
                    m.fee[line] = fee;
                    m.closed[line] = closed;
                });
    }

    private void rulesOrWinter() {
        if (random.nextBoolean()) {
            int spread = near(100, 900);
            int drive = near(60, 300);
            int before = m.spread;
            both("rules", out(spread, 100, 900) || out(drive, 60, 300) ? ILLEGAL : null,
                    () -> before, () -> x.rules(spread, drive), () -> {
                        m.spread = spread;
                        m.drive = drive;
                    });
        } else {
            int cold = near(0, 3);
            int fine = near(0, 99);
            int before = m.cold;
            both("winter", out(cold, 0, 3) || out(fine, 0, 99) ? ILLEGAL : null, () -> before,
                    () -> x.winter(cold, fine), () -> {
                        m.cold = cold;
                        m.fine = fine;
                    });
        }
    }

    private void block() {
        int full = near(50, 999);
        both("block", out(full, 50, 999) ? ILLEGAL : m.blocks.size() >= 8 ? NOT_NOW : null,
                () -> m.blocks.size() - 1, () -> x.block(full), () -> m.newBlock(full));
    }

    private void append() {
        int b = someBlock();
        int t = someTrip();
        Class<?> thrown = noBlock(b) || noTrip(t) ? OUTSIDE : m.canAppend(b, t) ? null : NOT_NOW;
        both("append", thrown, () -> m.blocks.get(b).size(), () -> x.append(b, t),
                () -> m.append(b, t));
    }

    private void takeOff() {
        int b = someBlock();
        Class<?> thrown = noBlock(b) ? OUTSIDE : m.blocks.get(b).isEmpty() ? NOT_NOW : null;
        int last = thrown == null ? m.at(b, m.blocks.get(b).size() - 1) : 0;
        both("takeOff", thrown, () -> last, () -> x.takeOff(b), () -> {
            m.blocks.get(b).remove(m.blocks.get(b).size() - 1);
            m.uncut(b);
        });
    }

    private void build() {
        int full = near(50, random.nextInt(4) == 0 ? 120 : 999);
        int[] placed = new int[1];
        both("build", out(full, 50, 999) ? ILLEGAL : null, () -> placed[0], () -> x.build(full),
                () -> placed[0] = m.build(full));
    }

    private void swap() {
        int one = someBlock();
        int other = someBlock();
        boolean outside = noBlock(one) || noBlock(other);
        int first = outside ? 0 : near(0, m.blocks.get(one).size());
        int others = outside ? 0 : near(0, m.blocks.get(other).size());
        Class<?> thrown = outside ? OUTSIDE
                : one == other || out(first, 0, m.blocks.get(one).size())
                    || out(others, 0, m.blocks.get(other).size()) ? ILLEGAL
                : m.canSwap(one, first, other, others) ? null : NOT_NOW;
        int[] moved = new int[1];
        both("swap", thrown, () -> moved[0], () -> x.swap(one, first, other, others),
                () -> moved[0] = m.swap(one, first, other, others));
    }

    private void cut(int b) {
        List<int[]> cut = noBlock(b) ? null : m.cutOf(b);
        both("cut", noBlock(b) ? OUTSIDE : cut == null ? NOT_NOW : null, () -> cut.size(),
                () -> x.cut(b), () -> m.pieces.set(b, cut));
    }

    private void give() {
        int b = someBlock();
        int p = somePiece(b);
        give(b, p, near(0, m.sick.size() - 1));
    }

    private void give(int b, int p, int d) {
        Class<?> thrown = noPiece(b, p) || noDriver(d) ? OUTSIDE
                : m.canGive(b, p, d) ? null : NOT_NOW;
        both("give", thrown, () -> m.driverMinutes(d), () -> x.give(b, p, d),
                () -> m.pieces.get(b).get(p)[2] = d);
    }

    private void takeBack() {
        int b = someBlock();
        int p = somePiece(b);
        int before = noPiece(b, p) ? 0 : m.pieces.get(b).get(p)[2];
        both("takeBack", noPiece(b, p) ? OUTSIDE : null, () -> before, () -> x.takeBack(b, p),
                () -> m.pieces.get(b).get(p)[2] = -1);
    }

    private void delay() {
        int t = someTrip();
        int delay = random.nextInt(3) == 0 ? near(0, 120) : near(0, 30);
        int before = noTrip(t) ? 0 : m.delay(t);
        both("delay", noTrip(t) ? OUTSIDE : out(delay, 0, 120) ? ILLEGAL : null, () -> before,
                () -> x.delay(t, delay), () -> m.trips.get(t)[5] = delay);
    }

    private void breakdown() {
        int b = someBlock();
        int minute = random.nextInt(3) > 0 ? -1 : near(-1, 1600);
        int before = noBlock(b) ? 0 : m.breakdown.get(b);
        both("breakdown", noBlock(b) ? OUTSIDE : out(minute, -1, 1600) ? ILLEGAL : null,
                () -> before, () -> x.breakdown(b, minute), () -> m.breakdown.set(b, minute));
    }

    private void sick() {
        int d = near(0, m.sick.size() - 1);
        boolean is = random.nextInt(3) == 0;
        int before = noDriver(d) || !m.sick.get(d) ? 0 : 1;
        both("sick", noDriver(d) ? OUTSIDE : null, () -> before, () -> x.sick(d, is) ? 1 : 0,
                () -> m.sick.set(d, is));
    }

    private void ask() {
        int b = someBlock();
        int t = someTrip();
        int p = somePiece(b);
        int d = near(0, m.sick.size() - 1);
        switch (random.nextInt(11)) {
            case 0: {
                int what = near(0, 10);
                asked("ofTrip", noTrip(t) ? OUTSIDE : out(what, 0, 10) ? ILLEGAL : null,
                        () -> m.ofTrip(t, what), () -> x.ofTrip(t, what));
                break;
            }
            case 1: {
                int what = near(0, 7);
                asked("ofBlock", noBlock(b) ? OUTSIDE : out(what, 0, 7) ? ILLEGAL : null,
                        () -> m.ofBlock(b, what), () -> x.ofBlock(b, what));
                break;
            }
            case 2: {
                int k = near(0, 6);
                asked("at", noBlock(b) ? OUTSIDE : k < 0 ? ILLEGAL : null,
                        () -> m.at(b, k), () -> x.at(b, k));
                break;
            }
            case 3: {
                int what = near(0, 5);
                asked("ofPiece", noPiece(b, p) ? OUTSIDE : out(what, 0, 5) ? ILLEGAL : null,
                        () -> m.ofPiece(b, p, what), () -> x.ofPiece(b, p, what));
                break;
            }
            case 4: {
                int what = near(0, 4);
                asked("ofDriver", noDriver(d) ? OUTSIDE : out(what, 0, 4) ? ILLEGAL : null,
                        () -> m.ofDriver(d, what), () -> x.ofDriver(d, what));
                break;
            }
            case 5: {
                int what = near(0, 8);
                asked("many", out(what, 0, 8) ? ILLEGAL : null, () -> m.many(what),
                        () -> x.many(what));
                break;
            }
            case 6: {
                int cause = near(1, 6);
                asked("lost", out(cause, 1, 6) ? OUTSIDE : null, () -> m.lost(cause),
                        () -> x.lost(cause));
                break;
            }
            case 7: asked("meanLate", null, m::meanLate, x::meanLate); break;
            default: askWhatWouldBe(b, t); break;
        }
    }

    private void askWhatWouldBe(int b, int t) {
        int other = someBlock();
        int minute = near(0, 1600);
        asked("leastBlocks", null, m::leastBlocks, x::leastBlocks);
        asked("wouldLose", noBlock(b) ? OUTSIDE : out(minute, 0, 1600) ? ILLEGAL : null,
                () -> m.wouldLose(b, minute), () -> x.wouldLose(b, minute));
        asked("mayDelay", noTrip(t) ? OUTSIDE : null, () -> m.mayDelay(t), () -> x.mayDelay(t));
        asked("bestSwap", noBlock(b) || noBlock(other) ? OUTSIDE : b == other ? ILLEGAL : null,
                () -> m.bestSwap(b, other), () -> x.bestSwap(b, other));
    }
}
