import java.util.ArrayList;
import java.util.Arrays;
import java.util.List;
import java.util.TreeMap;

/**
 * The document once more, written slowly and in another way, to compare answers with.
 * It checks no arguments: a call that throws is foreseen by the functions that begin with "can".
 */
final class Model {
    final int[] x = new int[8];
    final int[] power = new int[8];
    final boolean[] relief = new boolean[8];
    final int[] fee = {10, 10, 10, 10};
    final boolean[] closed = new boolean[4];
    /** Of each trip: line, from, to, start, minutes, delay. */
    final List<int[]> trips = new ArrayList<>();
    final List<List<Integer>> blocks = new ArrayList<>();
    final List<Integer> capacity = new ArrayList<>();
    final List<Integer> breakdown = new ArrayList<>();
    /** Of each block, of each piece: its first spot, its last spot, its driver. */
    final List<List<int[]>> pieces = new ArrayList<>();
    final List<Boolean> sick = new ArrayList<>();
    int spread = 600;
    int drive = 240;
    int cold;
    int fine = 5;

    Model() {
        relief[0] = true;
    }

    int line(int t) { return trips.get(t)[0]; }
    int from(int t) { return trips.get(t)[1]; }
    int to(int t) { return trips.get(t)[2]; }
    int start(int t) { return trips.get(t)[3]; }
    int minutes(int t) { return trips.get(t)[4]; }
    int delay(int t) { return trips.get(t)[5]; }
    int end(int t) { return start(t) + minutes(t); }

    int empty(int a, int b) {
        return Math.abs(x[a] - x[b]);
    }

    boolean follows(int t, int ahead) {
        return end(ahead) + empty(to(ahead), from(t)) + 4 <= start(t);
    }

    boolean isRow(List<Integer> row) {
        for (int k = 1; k < row.size(); k++) {
            if (!follows(row.get(k), row.get(k - 1))) {
                return false;
            }
        }
        return true;
    }

    int blockOf(int t) {
        for (int b = 0; b < blocks.size(); b++) {
            if (blocks.get(b).contains(t)) {
                return b;
            }
        }
        return -1;
    }

    int pieceOf(int t) {
        int b = blockOf(t);
        for (int p = 0; b >= 0 && p < pieces.get(b).size(); p++) {
            int k = blocks.get(b).indexOf(t);
            if (k >= pieces.get(b).get(p)[0] && k <= pieces.get(b).get(p)[1]) {
                return p;
            }
        }
        return -1;
    }

    /** Minute by minute: where the bus is at the end of the list, the battery's least is told. */
    int leastBattery(List<Integer> row, int full) {
        List<Integer> seen = new ArrayList<>(List.of(full));
        int battery = full;
        int here = 0;
        int free = Integer.MIN_VALUE;
        for (int t : row) {
            int empty = empty(here, from(t));
            battery -= empty;
            seen.add(battery);
            for (int m = free + empty; free >= 0 && m < start(t); m++) {
                battery = Math.min(full, battery + power[from(t)]);
            }
            for (int m = 0; m < minutes(t); m++) {
                battery -= 2 + cold;
            }
            seen.add(battery);
            here = to(t);
            free = end(t);
        }
        seen.add(battery - empty(here, 0));
        return seen.stream().min(Integer::compare).get();
    }

    int allEmpty(List<Integer> row) {
        List<Integer> stops = new ArrayList<>(List.of(0));
        for (int t : row) {
            stops.add(from(t));
            stops.add(to(t));
        }
        stops.add(0);
        int sum = 0;
        for (int i = 0; i < stops.size(); i += 2) {
            sum += empty(stops.get(i), stops.get(i + 1));
        }
        return sum;
    }

    void uncut(int b) {
        pieces.get(b).clear();
    }

    int newBlock(int full) {
        blocks.add(new ArrayList<>());
        capacity.add(full);
        breakdown.add(-1);
        pieces.add(new ArrayList<>());
        return blocks.size() - 1;
    }

    boolean canAppend(int b, int t) {
        List<Integer> row = new ArrayList<>(blocks.get(b));
        row.add(t);
        return blockOf(t) < 0 && isRow(row);
    }

    void append(int b, int t) {
        blocks.get(b).add(t);
        uncut(b);
    }

    int build(int full) {
        List<Integer> open = new ArrayList<>();
        for (int t = 0; t < trips.size(); t++) {
            if (blockOf(t) < 0) {
                open.add(t);
            }
        }
        open.sort((a, b) -> start(a) != start(b) ? start(a) - start(b) : a - b);
        int placed = 0;
        for (int t : open) {
            TreeMap<Integer, Integer> byEmpty = new TreeMap<>();
            for (int b = 0; b < blocks.size(); b++) {
                List<Integer> row = new ArrayList<>(blocks.get(b));
                row.add(t);
                if (row.size() > 1 && isRow(row) && leastBattery(row, capacity.get(b)) >= 0) {
                    byEmpty.putIfAbsent(empty(to(row.get(row.size() - 2)), from(t)), b);
                }
            }
            if (!byEmpty.isEmpty()) {
                append(byEmpty.firstEntry().getValue(), t);
                placed++;
            } else if (blocks.size() < 8 && leastBattery(List.of(t), full) >= 0) {
                append(newBlock(full), t);
                placed++;
            }
        }
        return placed;
    }

    List<List<Integer>> swapped(int one, int first, int other, int others) {
        List<Integer> a = blocks.get(one);
        List<Integer> b = blocks.get(other);
        List<Integer> newA = new ArrayList<>(a.subList(0, first));
        newA.addAll(b.subList(others, b.size()));
        List<Integer> newB = new ArrayList<>(b.subList(0, others));
        newB.addAll(a.subList(first, a.size()));
        return List.of(newA, newB);
    }

    boolean canSwap(int one, int first, int other, int others) {
        List<List<Integer>> both = swapped(one, first, other, others);
        return isRow(both.get(0)) && isRow(both.get(1));
    }

    int swap(int one, int first, int other, int others) {
        List<List<Integer>> both = swapped(one, first, other, others);
        int moved = blocks.get(one).size() - first + blocks.get(other).size() - others;
        blocks.set(one, both.get(0));
        blocks.set(other, both.get(1));
        uncut(one);
        uncut(other);
        return moved;
    }

    boolean isLawful(List<Integer> piece) {
        int last = piece.get(piece.size() - 1);
        if (end(last) - start(piece.get(0)) > spread) {
            return false;
        }
        List<Integer> spells = new ArrayList<>(List.of(0));
        for (int k = 0; k < piece.size(); k++) {
            int now = spells.size() - 1;
            spells.set(now, spells.get(now) + minutes(piece.get(k)));
            if (k + 1 < piece.size()) {
                int empty = empty(to(piece.get(k)), from(piece.get(k + 1)));
                spells.set(now, spells.get(now) + empty);
                if (start(piece.get(k + 1)) - end(piece.get(k)) - empty >= 20) {
                    spells.add(0);
                }
            }
        }
        return spells.stream().allMatch(spell -> spell <= drive);
    }

    /** The pieces of a block, if it were cut; null, if it can not be. */
    List<int[]> cutOf(int b) {
        List<Integer> row = blocks.get(b);
        List<int[]> cut = new ArrayList<>();
        int begin = 0;
        while (begin < row.size()) {
            int end = row.size() - 1;
            while (end >= begin && !((end == row.size() - 1 || relief[to(row.get(end))])
                    && isLawful(row.subList(begin, end + 1)))) {
                end--;
            }
            if (end < begin) {
                return null;
            }
            cut.add(new int[] {begin, end, -1});
            begin = end + 1;
        }
        return cut.isEmpty() ? null : cut;
    }

    int pieceStart(int b, int[] piece) {
        return start(blocks.get(b).get(piece[0]));
    }

    int pieceEnd(int b, int[] piece) {
        return end(blocks.get(b).get(piece[1]));
    }

    int driverMinutes(int d) {
        int sum = 0;
        for (int b = 0; b < blocks.size(); b++) {
            for (int[] piece : pieces.get(b)) {
                sum += piece[2] == d ? pieceEnd(b, piece) - pieceStart(b, piece) : 0;
            }
        }
        return sum;
    }

    boolean canGive(int block, int p, int d) {
        int[] given = pieces.get(block).get(p);
        boolean[] busy = new boolean[2000];
        for (int b = 0; b < blocks.size(); b++) {
            for (int[] piece : pieces.get(b)) {
                if (piece[2] == d) {
                    Arrays.fill(busy, pieceStart(b, piece), pieceEnd(b, piece) + 1, true);
                }
            }
        }
        int from = pieceStart(block, given);
        int to = pieceEnd(block, given);
        for (int m = Math.max(0, from - 10); m <= to + 10; m++) {
            if (busy[m]) {
                return false;
            }
        }
        return given[2] < 0 && driverMinutes(d) + to - from <= 600;
    }

    /** Of each trip: the cause, the real start, the real end. */
    int[][] day() {
        int[][] day = new int[trips.size()][3];
        for (int t = 0; t < trips.size(); t++) {
            day[t][0] = 1;
        }
        for (int b = 0; b < blocks.size(); b++) {
            int ran = -1;
            for (int t : blocks.get(b)) {
                int real = start(t);
                if (ran >= 0) {
                    real = Math.max(real, day[ran][2] + empty(to(ran), from(t)));
                }
                day[t][0] = cause(b, t, real);
                day[t][1] = real;
                day[t][2] = real + minutes(t) + delay(t);
                ran = day[t][0] == 0 ? t : ran;
            }
        }
        return day;
    }

    private int cause(int b, int t, int real) {
        int p = pieceOf(t);
        int d = p < 0 ? -1 : pieces.get(b).get(p)[2];
        boolean[] holds = {
            closed[line(t)],
            breakdown.get(b) >= 0 && real >= breakdown.get(b),
            d < 0,
            d >= 0 && sick.get(d),
            real - start(t) > 30,
        };
        for (int i = 0; i < holds.length; i++) {
            if (holds[i]) {
                return i + 2;
            }
        }
        return 0;
    }

    int lostInAll() {
        int lost = 0;
        for (int[] trip : day()) {
            lost += trip[0] != 0 ? 1 : 0;
        }
        return lost;
    }

    int worked(int b, int p) {
        int[] piece = pieces.get(b).get(p);
        if (piece[2] < 0 || sick.get(piece[2])) {
            return 0;
        }
        int[][] day = day();
        for (int k = piece[1]; k >= piece[0]; k--) {
            int t = blocks.get(b).get(k);
            if (day[t][0] == 0) {
                return day[t][2] - pieceStart(b, piece) + 10;
            }
        }
        return 0;
    }

    int ofTrip(int t, int what) {
        int[] day = day()[t];
        boolean runs = day[0] == 0;
        return new int[] {line(t), from(t), to(t), start(t), end(t), delay(t), blockOf(t),
            pieceOf(t), day[0], runs ? day[1] - start(t) : -1, runs ? day[2] : -1}[what];
    }

    int ofBlock(int b, int what) {
        List<Integer> row = blocks.get(b);
        int least = leastBattery(row, capacity.get(b));
        int running = 0;
        for (int t : row) {
            running += day()[t][0] == 0 ? 1 : 0;
        }
        return new int[] {capacity.get(b), row.size(), breakdown.get(b), pieces.get(b).size(),
            least < 0 ? 1 : 0, least, allEmpty(row), running}[what];
    }

    int at(int b, int k) {
        return k < blocks.get(b).size() ? blocks.get(b).get(k) : -1;
    }

    int ofPiece(int b, int p, int what) {
        int[] piece = pieces.get(b).get(p);
        List<Integer> row = blocks.get(b);
        return new int[] {row.get(piece[0]), row.get(piece[1]), piece[1] - piece[0] + 1,
            pieceEnd(b, piece) - pieceStart(b, piece), piece[2], worked(b, p)}[what];
    }

    int ofDriver(int d, int what) {
        int count = 0;
        int worked = 0;
        for (int b = 0; b < blocks.size(); b++) {
            for (int p = 0; p < pieces.get(b).size(); p++) {
                if (pieces.get(b).get(p)[2] == d) {
                    count++;
                    worked += worked(b, p);
                }
            }
        }
        int pay = worked / 4 + (worked > 480 ? (worked - 480) / 4 : 0);
        return new int[] {count, driverMinutes(d), sick.get(d) ? 1 : 0, worked, pay}[what];
    }

    int lost(int cause) {
        int count = 0;
        for (int[] trip : day()) {
            count += trip[0] == cause ? 1 : 0;
        }
        return count;
    }

    int many(int what) {
        int county = 0;
        int late = 0;
        int[][] day = day();
        for (int t = 0; t < trips.size(); t++) {
            if (day[t][0] == 0) {
                county += fee[line(t)] - (day[t][1] - start(t)) / 2;
                late = Math.max(late, day[t][1] - start(t));
            } else if (day[t][0] != 2) {
                county -= fine;
            }
        }
        int paid = 0;
        for (int d = 0; d < sick.size(); d++) {
            paid += ofDriver(d, 4);
        }
        int empty = 0;
        for (List<Integer> row : blocks) {
            empty += allEmpty(row);
        }
        return new int[] {trips.size(), blocks.size(), sick.size(), lost(1), lost(0), county,
            paid, empty, late}[what];
    }

    double meanLate() {
        int[][] day = day();
        double sum = 0;
        for (int t = 0; t < day.length; t++) {
            sum += day[t][0] == 0 ? day[t][1] - start(t) : 0;
        }
        return lost(0) == 0 ? 0 : sum / lost(0);
    }

    /** Trip by trip in the order of time, over all sets of last trips of blocks. */
    int leastBlocks() {
        List<Integer> order = new ArrayList<>();
        for (int t = 0; t < trips.size(); t++) {
            order.add(t);
        }
        order.sort((a, b) -> start(a) - start(b));
        TreeMap<Integer, Integer> blocksByLasts = new TreeMap<>();
        blocksByLasts.put(0, 0);
        for (int t : order) {
            TreeMap<Integer, Integer> next = new TreeMap<>();
            blocksByLasts.forEach((lasts, count) -> {
                next.merge(lasts | 1 << t, count + 1, Math::min);
                for (int ahead = 0; ahead < trips.size(); ahead++) {
                    if ((lasts >> ahead & 1) == 1 && follows(t, ahead)) {
                        next.merge(lasts ^ 1 << ahead | 1 << t, count, Math::min);
                    }
                }
            });
            blocksByLasts = next;
        }
        return blocksByLasts.values().stream().min(Integer::compare).get();
    }

    int wouldLose(int b, int minute) {
        int told = breakdown.get(b);
        int now = lostInAll();
        breakdown.set(b, minute);
        int then = lostInAll();
        breakdown.set(b, told);
        return then - now;
    }

    int mayDelay(int t) {
        int told = delay(t);
        int[] lost = new int[121];
        for (int delay = 0; delay <= 120; delay++) {
            trips.get(t)[5] = delay;
            lost[delay] = lostInAll();
        }
        trips.get(t)[5] = told;
        int greatest = 0;
        for (int delay = 0; delay <= 120; delay++) {
            greatest = lost[delay] <= lost[0] ? delay : greatest;
        }
        return greatest;
    }

    int bestSwap(int one, int other) {
        int best = -1;
        int least = Integer.MAX_VALUE;
        for (int number = 0; number < 400; number++) {
            int first = number / 20;
            int others = number % 20;
            if (first > blocks.get(one).size() || others > blocks.get(other).size()
                    || !canSwap(one, first, other, others)) {
                continue;
            }
            List<List<Integer>> both = swapped(one, first, other, others);
            int empty = allEmpty(both.get(0)) + allEmpty(both.get(1));
            if (leastBattery(both.get(0), capacity.get(one)) >= 0
                    && leastBattery(both.get(1), capacity.get(other)) >= 0 && empty < least) {
                best = number;
                least = empty;
            }
        }
        return best;
    }

    long digest() {
        List<Integer> all = new ArrayList<>();
        for (int what = 0; what <= 8; what++) {
            all.add(many(what));
        }
        for (int cause = 1; cause <= 6; cause++) {
            all.add(lost(cause));
        }
        for (int t = 0; t < trips.size(); t++) {
            for (int what = 0; what <= 10; what++) {
                all.add(ofTrip(t, what));
            }
            all.add(mayDelay(t));
        }
        for (int b = 0; b < blocks.size(); b++) {
            for (int what = 0; what <= 7; what++) {
                all.add(ofBlock(b, what));
            }
            for (int p = 0; p < pieces.get(b).size(); p++) {
                for (int what = 0; what <= 5; what++) {
                    all.add(ofPiece(b, p, what));
                }
            }
            all.add(wouldLose(b, 600));
        }
        for (int d = 0; d < sick.size(); d++) {
            for (int what = 0; what <= 4; what++) {
                all.add(ofDriver(d, what));
            }
        }
        all.add(leastBlocks());
        if (blocks.size() >= 2) {
            all.add(bestSwap(0, 1));
        }
        long d = 58195;
        for (int v : all) {
            d = d * 31 + v;
        }
        return d;
    }
}
