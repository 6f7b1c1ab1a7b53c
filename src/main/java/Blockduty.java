import java.util.ArrayList;

/** The buses of a county: their trips and blocks, the work of the drivers, and how the day goes. */
public final class Blockduty {
    private static final int NONE = -1;

    private static final int PLACES = 8;
    private static final int DEPOT = 0;
    private static final int MOST_X = 60;
    private static final int MOST_POWER = 5;
    private static final int LINES = 4;
    private static final int FIRST_FEE = 10;
    private static final int MOST_FEE = 99;

    private static final int MOST_TRIPS = 16;
    private static final int LAST_START = 1439;
    private static final int LEAST_MINUTES = 5;
    private static final int MOST_MINUTES = 120;
    private static final int MOST_DELAY = 120;
    private static final int LEAST_WAIT = 4;

    private static final int MOST_BLOCKS = 8;
    private static final int LEAST_CAPACITY = 50;
    private static final int MOST_CAPACITY = 999;
    private static final int LAST_BREAKDOWN = 1600;
    private static final int TRIP_DRAIN = 2;
    private static final int MOST_COLD = 3;

    private static final int FIRST_SPREAD = 600;
    private static final int LEAST_SPREAD = 100;
    private static final int MOST_SPREAD = 900;
    private static final int FIRST_DRIVE = 240;
    private static final int LEAST_DRIVE = 60;
    private static final int MOST_DRIVE = 300;
    private static final int SPELL_END_WAIT = 20;

    private static final int MOST_DRIVERS = 6;
    private static final int PIECE_GAP = 10;
    private static final int MOST_PIECE_MINUTES = 600;
    private static final int EXTRA_WORK = 10;
    private static final int MINUTES_PER_PAY = 4;
    private static final int OVERTIME = 480;

    private static final int FIRST_FINE = 5;
    private static final int MOST_FINE = 99;
    private static final int MINUTES_PER_LATE_CUT = 2;

    private static final int RUNS = 0;
    private static final int NO_BLOCK = 1;
    private static final int LINE_CLOSED = 2;
    private static final int BROKEN_DOWN = 3;
    private static final int NO_DRIVER = 4;
    private static final int DRIVER_SICK = 5;
    private static final int TOO_LATE = 6;
    private static final int MOST_LATE = 30;

    private static final int LAST_OF_TRIP = 10;
    private static final int LAST_OF_BLOCK = 7;
    private static final int LAST_OF_PIECE = 5;
    private static final int LAST_OF_DRIVER = 4;
    private static final int LAST_OF_MANY = 8;
    private static final int SWAP_BASE = 20;
    private static final long DIGEST_START = 58195;
    private static final int DIGEST_MINUTE = 600;

    private final ArrayList<Place> places = new ArrayList<>();
    private final ArrayList<Line> lines = new ArrayList<>();
    private final ArrayList<Trip> trips = new ArrayList<>();
    private final ArrayList<Trip> tripsByStart = new ArrayList<>();
    private final ArrayList<Block> blocks = new ArrayList<>();
    private final ArrayList<Driver> drivers = new ArrayList<>();
    private final Place depot;
    private final WorkRules workRules = new WorkRules();
    private int coldness;
    private int finePerLost = FIRST_FINE;

    // Made once and used again, so that asking makes no new objects.
    private final Row oneTrial = new Row();
    private final Row otherTrial = new Row();
    private final int[] pieceEnds = new int[MOST_TRIPS];
    private final Followers followers = new Followers();

    public Blockduty() {
        depot = new Place(DEPOT);
        places.add(depot);
        for (int number = DEPOT + 1; number < PLACES; number++) {
            places.add(new Place(number));
        }
        for (int number = 0; number < LINES; number++) {
            lines.add(new Line(number));
        }
    }

    // ---- what is told

    public int place(int place, int x, int power, boolean isRelief)
            throws IndexOutOfBoundsException, IllegalArgumentException, IllegalStateException {
        Place told = placeNumbered(place);
        if (told == null) {
            throw new IndexOutOfBoundsException("no such PLACE");
        }
        if (isOutside(x, 0, MOST_X) || isOutside(power, 0, MOST_POWER)) {
            throw new IllegalArgumentException("no such X or POWER");
        }
        if (!trips.isEmpty()) {
            throw new IllegalStateException("there is a TRIP");
        }
        int before = told.x;
        told.x = x;
        told.power = power;
        told.isRelief = isRelief || told == depot;
        return before;
    }

    public int line(int line, int fee, boolean isClosed)
            throws IndexOutOfBoundsException, IllegalArgumentException {
        Line told = lineNumbered(line);
        if (told == null) {
            throw new IndexOutOfBoundsException("no such LINE");
        }
        if (isOutside(fee, 0, MOST_FEE)) {
            throw new IllegalArgumentException("no such FEE");
        }
        int before = told.fee;
        told.fee = fee;
        told.isClosed = isClosed;
        return before;
    }

    public int trip(int line, int from, int to, int start, int minutes)
            throws IndexOutOfBoundsException, IllegalArgumentException, IllegalStateException {
        Line itsLine = lineNumbered(line);
        Place begin = placeNumbered(from);
        Place end = placeNumbered(to);
        if (itsLine == null || begin == null || end == null) {
            throw new IndexOutOfBoundsException("no such LINE or PLACE");
        }
        if (isOutside(start, 0, LAST_START) || isOutside(minutes, LEAST_MINUTES, MOST_MINUTES)) {
            throw new IllegalArgumentException("no such START or MINUTES");
        }
        int number = trips.size();
        if (number >= MOST_TRIPS) {
            throw new IllegalStateException("no more TRIPS");
        }
        Trip told = new Trip(number, itsLine, begin, end, start, minutes);
        trips.add(told);
        addByStart(told);
        return number;
    }

    public int rules(int spread, int drive) throws IllegalArgumentException {
        if (isOutside(spread, LEAST_SPREAD, MOST_SPREAD)
                || isOutside(drive, LEAST_DRIVE, MOST_DRIVE)) {
            throw new IllegalArgumentException("no such SPREAD or DRIVE");
        }
        int before = workRules.spread;
        workRules.spread = spread;
        workRules.drive = drive;
        return before;
    }

    public int winter(int cold, int fine) throws IllegalArgumentException {
        if (isOutside(cold, 0, MOST_COLD) || isOutside(fine, 0, MOST_FINE)) {
            throw new IllegalArgumentException("no such COLD or FINE");
        }
        int before = coldness;
        coldness = cold;
        finePerLost = fine;
        return before;
    }

    public int driver() throws IllegalStateException {
        int number = drivers.size();
        if (number >= MOST_DRIVERS) {
            throw new IllegalStateException("no more DRIVERS");
        }
        drivers.add(new Driver(number));
        return number;
    }

    // ---- blocks and work

    public int block(int capacity) throws IllegalArgumentException, IllegalStateException {
        if (isOutside(capacity, LEAST_CAPACITY, MOST_CAPACITY)) {
            throw new IllegalArgumentException("no such CAPACITY");
        }
        if (blocks.size() >= MOST_BLOCKS) {
            throw new IllegalStateException("no more BLOCKS");
        }
        return newBlock(capacity).number;
    }

    public int append(int block, int trip)
            throws IndexOutOfBoundsException, IllegalStateException {
        Block itsBlock = blockNumbered(block);
        Trip added = tripNumbered(trip);
        if (itsBlock == null || added == null) {
            throw new IndexOutOfBoundsException("no such BLOCK or TRIP");
        }
        Trip last = itsBlock.row.last();
        if (added.block != null || (last != null && !added.canFollow(last))) {
            throw new IllegalStateException("in a BLOCK, or can not FOLLOW");
        }
        itsBlock.addTrip(added);
        return itsBlock.row.count();
    }

    public int takeOff(int block) throws IndexOutOfBoundsException, IllegalStateException {
        Block itsBlock = blockNumbered(block);
        if (itsBlock == null) {
            throw new IndexOutOfBoundsException("no such BLOCK");
        }
        Trip last = itsBlock.removeLastTrip();
        if (last == null) {
            throw new IllegalStateException("no TRIPS");
        }
        return last.number;
    }

    public int build(int capacity) throws IllegalArgumentException {
        if (isOutside(capacity, LEAST_CAPACITY, MOST_CAPACITY)) {
            throw new IllegalArgumentException("no such CAPACITY");
        }
        int placed = 0;
        for (int i = 0; i < tripsByStart.size(); i++) {
            Trip trip = tripsByStart.get(i);
            if (trip.block == null && putIntoSomeBlock(trip, capacity)) {
                placed++;
            }
        }
        return placed;
    }

    public int swap(int one, int first, int other, int others)
            throws IndexOutOfBoundsException, IllegalArgumentException, IllegalStateException {
        Block oneBlock = blockNumbered(one);
        Block otherBlock = blockNumbered(other);
        if (oneBlock == null || otherBlock == null) {
            throw new IndexOutOfBoundsException("no such BLOCK");
        }
        Row oneRow = oneBlock.row;
        Row otherRow = otherBlock.row;
        if (one == other || isOutside(first, 0, oneRow.count())
                || isOutside(others, 0, otherRow.count())) {
            throw new IllegalArgumentException("the same BLOCK, or no such TRIPS of it");
        }
        if (!canSwap(oneRow, first, otherRow, others)) {
            throw new IllegalStateException("a TRIP could not FOLLOW");
        }
        int moved = oneRow.count() - first + otherRow.count() - others;
        trySwap(oneRow, first, otherRow, others);
        oneBlock.takeOver(oneTrial);
        otherBlock.takeOver(otherTrial);
        return moved;
    }

    public int cut(int block) throws IndexOutOfBoundsException, IllegalStateException {
        Block itsBlock = blockNumbered(block);
        if (itsBlock == null) {
            throw new IndexOutOfBoundsException("no such BLOCK");
        }
        int planned = workRules.planPieces(itsBlock.row, pieceEnds);
        if (planned == 0) {
            throw new IllegalStateException("no TRIPS, or no LAWFUL PIECE");
        }
        itsBlock.cutAt(pieceEnds, planned);
        return planned;
    }

    public int give(int block, int piece, int driver)
            throws IndexOutOfBoundsException, IllegalStateException {
        Piece given = pieceNumbered(block, piece);
        Driver getter = driverNumbered(driver);
        if (given == null || getter == null) {
            throw new IndexOutOfBoundsException("no such BLOCK, PIECE, or DRIVER");
        }
        if (given.driver != null || !getter.canGet(given)) {
            throw new IllegalStateException("given, too near to another one, or too long");
        }
        given.driver = getter;
        getter.pieces.add(given);
        return getter.minutes();
    }

    public int takeBack(int block, int piece) throws IndexOutOfBoundsException {
        Piece taken = pieceNumbered(block, piece);
        if (taken == null) {
            throw new IndexOutOfBoundsException("no such BLOCK or PIECE");
        }
        int before = taken.driverNumber();
        taken.release();
        return before;
    }

    // ---- what happens

    public int delay(int trip, int delay)
            throws IndexOutOfBoundsException, IllegalArgumentException {
        Trip told = tripNumbered(trip);
        if (told == null) {
            throw new IndexOutOfBoundsException("no such TRIP");
        }
        if (isOutside(delay, 0, MOST_DELAY)) {
            throw new IllegalArgumentException("no such DELAY");
        }
        int before = told.delay;
        told.delay = delay;
        return before;
    }

    public int breakdown(int block, int minute)
            throws IndexOutOfBoundsException, IllegalArgumentException {
        Block told = blockNumbered(block);
        if (told == null) {
            throw new IndexOutOfBoundsException("no such BLOCK");
        }
        if (isOutside(minute, NONE, LAST_BREAKDOWN)) {
            throw new IllegalArgumentException("no such minute");
        }
        int before = told.breakdown;
        told.breakdown = minute;
        return before;
    }

    public boolean sick(int driver, boolean is) throws IndexOutOfBoundsException {
        Driver told = driverNumbered(driver);
        if (told == null) {
            throw new IndexOutOfBoundsException("no such DRIVER");
        }
        boolean before = told.isSick;
        told.isSick = is;
        return before;
    }

    // ---- what is asked

    public int ofTrip(int trip, int what)
            throws IndexOutOfBoundsException, IllegalArgumentException {
        Trip asked = tripNumbered(trip);
        if (asked == null) {
            throw new IndexOutOfBoundsException("no such TRIP");
        }
        if (isOutside(what, 0, LAST_OF_TRIP)) {
            throw new IllegalArgumentException("no such question");
        }
        runDay();
        switch (what) {
            case 0: return asked.line.number;
            case 1: return asked.from.number;
            case 2: return asked.to.number;
            case 3: return asked.start;
            case 4: return asked.end();
            case 5: return asked.delay;
            case 6: return asked.blockNumber();
            case 7: return asked.pieceNumber();
            case 8: return asked.cause;
            case 9: return asked.runs() ? asked.late() : NONE;
            default: return asked.runs() ? asked.realEnd : NONE;
        }
    }

    public int ofBlock(int block, int what)
            throws IndexOutOfBoundsException, IllegalArgumentException {
        Block asked = blockNumbered(block);
        if (asked == null) {
            throw new IndexOutOfBoundsException("no such BLOCK");
        }
        if (isOutside(what, 0, LAST_OF_BLOCK)) {
            throw new IllegalArgumentException("no such question");
        }
        switch (what) {
            case 0: return asked.capacity;
            case 1: return asked.row.count();
            case 2: return asked.breakdown;
            case 3: return asked.pieces.size();
            case 4: return isFlat(asked.row, asked.capacity) ? 1 : 0;
            case 5: return asked.row.leastCharge(depot, asked.capacity, coldness);
            case 6: return asked.row.empty(depot);
            default: return asked.row.count() - asked.lostNow();
        }
    }

    public int at(int block, int k) throws IndexOutOfBoundsException, IllegalArgumentException {
        Block asked = blockNumbered(block);
        if (asked == null) {
            throw new IndexOutOfBoundsException("no such BLOCK");
        }
        if (k < 0) {
            throw new IllegalArgumentException("below 0");
        }
        Trip there = asked.row.get(k);
        return there == null ? NONE : there.number;
    }

    public int ofPiece(int block, int piece, int what)
            throws IndexOutOfBoundsException, IllegalArgumentException {
        Piece asked = pieceNumbered(block, piece);
        if (asked == null) {
            throw new IndexOutOfBoundsException("no such BLOCK or PIECE");
        }
        if (isOutside(what, 0, LAST_OF_PIECE)) {
            throw new IllegalArgumentException("no such question");
        }
        runDay();
        switch (what) {
            case 0: return asked.first.number;
            case 1: return asked.last.number;
            case 2: return asked.tripCount;
            case 3: return asked.minutes();
            case 4: return asked.driverNumber();
            default: return asked.worked();
        }
    }

    public int ofDriver(int driver, int what)
            throws IndexOutOfBoundsException, IllegalArgumentException {
        Driver asked = driverNumbered(driver);
        if (asked == null) {
            throw new IndexOutOfBoundsException("no such DRIVER");
        }
        if (isOutside(what, 0, LAST_OF_DRIVER)) {
            throw new IllegalArgumentException("no such question");
        }
        runDay();
        switch (what) {
            case 0: return asked.pieces.size();
            case 1: return asked.minutes();
            case 2: return asked.isSick ? 1 : 0;
            case 3: return asked.worked();
            default: return asked.pay();
        }
    }

    public int many(int what) throws IllegalArgumentException {
        if (isOutside(what, 0, LAST_OF_MANY)) {
            throw new IllegalArgumentException("no such question");
        }
        runDay();
        switch (what) {
            case 0: return trips.size();
            case 1: return blocks.size();
            case 2: return drivers.size();
            case 3: return countOfCause(NO_BLOCK);
            case 4: return countOfCause(RUNS);
            case 5: return countyPays();
            case 6: return driversArePaid();
            case 7: return allEmpty();
            default: return greatestLate();
        }
    }

    public int lost(int cause) throws IndexOutOfBoundsException {
        if (isOutside(cause, NO_BLOCK, TOO_LATE)) {
            throw new IndexOutOfBoundsException("no such CAUSE");
        }
        runDay();
        return countOfCause(cause);
    }

    public double meanLate() {
        runDay();
        int running = 0;
        int sum = 0;
        for (int i = 0; i < trips.size(); i++) {
            Trip trip = trips.get(i);
            if (trip.runs()) {
                running++;
                sum += trip.late();
            }
        }
        return running == 0 ? 0.0 : (double) sum / running;
    }

    // ---- what would be (nothing is changed)

    public int leastBlocks() {
        // Each TRIP that FOLLOWS another one saves a BLOCK of its own.
        return trips.size() - followers.mostPairs(trips);
    }

    public int wouldLose(int block, int minute)
            throws IndexOutOfBoundsException, IllegalArgumentException {
        Block asked = blockNumbered(block);
        if (asked == null) {
            throw new IndexOutOfBoundsException("no such BLOCK");
        }
        if (isOutside(minute, 0, LAST_BREAKDOWN)) {
            throw new IllegalArgumentException("no such minute");
        }
        return asked.lostIf(minute, null, 0) - asked.lostNow();
    }

    public int mayDelay(int trip) throws IndexOutOfBoundsException {
        Trip asked = tripNumbered(trip);
        if (asked == null) {
            throw new IndexOutOfBoundsException("no such TRIP");
        }
        Block itsBlock = asked.block;
        if (itsBlock == null) {
            return MOST_DELAY;
        }
        int breakdown = itsBlock.breakdown;
        int lostOnTime = itsBlock.lostIf(breakdown, asked, 0);
        // From above: a greater DELAY may lose fewer TRIPS than a smaller one.
        for (int delay = MOST_DELAY; delay > 0; delay--) {
            if (itsBlock.lostIf(breakdown, asked, delay) <= lostOnTime) {
                return delay;
            }
        }
        return 0;
    }

    public int bestSwap(int one, int other)
            throws IndexOutOfBoundsException, IllegalArgumentException {
        Block oneBlock = blockNumbered(one);
        Block otherBlock = blockNumbered(other);
        if (oneBlock == null || otherBlock == null) {
            throw new IndexOutOfBoundsException("no such BLOCK");
        }
        if (one == other) {
            throw new IllegalArgumentException("the same BLOCK");
        }
        int best = NONE;
        int leastEmpty = 0;
        for (int first = 0; first <= oneBlock.row.count(); first++) {
            for (int others = 0; others <= otherBlock.row.count(); others++) {
                int empty = emptyOfSwap(oneBlock, first, otherBlock, others);
                if (empty != NONE && (best == NONE || empty < leastEmpty)) {
                    best = SWAP_BASE * first + others;
                    leastEmpty = empty;
                }
            }
        }
        return best;
    }

    public long digest() {
        long d = DIGEST_START;
        for (int what = 0; what <= LAST_OF_MANY; what++) {
            d = mix(d, many(what));
        }
        for (int cause = NO_BLOCK; cause <= TOO_LATE; cause++) {
            d = mix(d, lost(cause));
        }
        for (int i = 0; i < trips.size(); i++) {
            d = mixTrip(d, i);
        }
        for (int i = 0; i < blocks.size(); i++) {
            d = mixBlock(d, i);
        }
        for (int i = 0; i < drivers.size(); i++) {
            d = mixDriver(d, i);
        }
        d = mix(d, leastBlocks());
        return blocks.size() < 2 ? d : mix(d, bestSwap(0, 1));
    }

    private static long mix(long d, int v) {
        return d * 31 + v;
    }

    private long mixTrip(long d, int trip) {
        long mixed = d;
        for (int what = 0; what <= LAST_OF_TRIP; what++) {
            mixed = mix(mixed, ofTrip(trip, what));
        }
        return mix(mixed, mayDelay(trip));
    }

    private long mixBlock(long d, int block) {
        long mixed = d;
        for (int what = 0; what <= LAST_OF_BLOCK; what++) {
            mixed = mix(mixed, ofBlock(block, what));
        }
        int pieceCount = ofBlock(block, 3);
        for (int piece = 0; piece < pieceCount; piece++) {
            for (int what = 0; what <= LAST_OF_PIECE; what++) {
                mixed = mix(mixed, ofPiece(block, piece, what));
            }
        }
        return mix(mixed, wouldLose(block, DIGEST_MINUTE));
    }

    private long mixDriver(long d, int driver) {
        long mixed = d;
        for (int what = 0; what <= LAST_OF_DRIVER; what++) {
            mixed = mix(mixed, ofDriver(driver, what));
        }
        return mixed;
    }

    // ---- what a number stands for: null, if it stands for nothing

    private static boolean isOutside(int value, int least, int most) {
        return value < least || value > most;
    }

    private Place placeNumbered(int number) {
        return number >= 0 && number < places.size() ? places.get(number) : null;
    }

    private Line lineNumbered(int number) {
        return number >= 0 && number < lines.size() ? lines.get(number) : null;
    }

    private Trip tripNumbered(int number) {
        return number >= 0 && number < trips.size() ? trips.get(number) : null;
    }

    private Block blockNumbered(int number) {
        return number >= 0 && number < blocks.size() ? blocks.get(number) : null;
    }

    private Piece pieceNumbered(int block, int number) {
        Block itsBlock = blockNumbered(block);
        return itsBlock == null ? null : itsBlock.pieceNumbered(number);
    }

    private Driver driverNumbered(int number) {
        return number >= 0 && number < drivers.size() ? drivers.get(number) : null;
    }

    // ---- trips into blocks

    private void addByStart(Trip told) {
        int spot = 0;
        // Behind equal STARTS, since their numbers are smaller.
        while (spot < tripsByStart.size() && tripsByStart.get(spot).start <= told.start) {
            spot++;
        }
        tripsByStart.add(spot, told);
    }

    private Block newBlock(int capacity) {
        Block made = new Block(blocks.size(), capacity);
        blocks.add(made);
        return made;
    }

    private boolean isFlat(Row row, int capacity) {
        return row.leastCharge(depot, capacity, coldness) < 0;
    }

    private boolean wouldBeFlat(Row row, Trip added, int capacity) {
        oneTrial.copy(row);
        oneTrial.trips.add(added);
        return isFlat(oneTrial, capacity);
    }

    private boolean wouldBeFlatAlone(Trip trip, int capacity) {
        oneTrial.trips.clear();
        oneTrial.trips.add(trip);
        return isFlat(oneTrial, capacity);
    }

    private boolean putIntoSomeBlock(Trip trip, int capacity) {
        Block nearest = nearestBlock(trip);
        if (nearest != null) {
            nearest.addTrip(trip);
            return true;
        }
        if (blocks.size() >= MOST_BLOCKS || wouldBeFlatAlone(trip, capacity)) {
            return false;
        }
        newBlock(capacity).addTrip(trip);
        return true;
    }

    private Block nearestBlock(Trip trip) {
        Block nearest = null;
        int leastEmpty = 0;
        for (int i = 0; i < blocks.size(); i++) {
            Block block = blocks.get(i);
            Trip last = block.row.last();
            if (last != null && trip.canFollow(last)
                    && (nearest == null || last.emptyTo(trip) < leastEmpty)
                    && !wouldBeFlat(block.row, trip, block.capacity)) {
                nearest = block;
                leastEmpty = last.emptyTo(trip);
            }
        }
        return nearest;
    }

    private static boolean canSwap(Row one, int first, Row other, int others) {
        return canJoin(one, first, other, others) && canJoin(other, others, one, first);
    }

    private static boolean canJoin(Row head, int staying, Row tail, int skipped) {
        Trip ahead = head.get(staying - 1);
        Trip next = tail.get(skipped);
        return ahead == null || next == null || next.canFollow(ahead);
    }

    private void trySwap(Row one, int first, Row other, int others) {
        oneTrial.join(one, first, other, others);
        otherTrial.join(other, others, one, first);
    }

    /** The EMPTY of both blocks behind the swap; NONE, if it can not be, or one is FLAT then. */
    private int emptyOfSwap(Block one, int first, Block other, int others) {
        if (!canSwap(one.row, first, other.row, others)) {
            return NONE;
        }
        trySwap(one.row, first, other.row, others);
        if (isFlat(oneTrial, one.capacity) || isFlat(otherTrial, other.capacity)) {
            return NONE;
        }
        return oneTrial.empty(depot) + otherTrial.empty(depot);
    }

    // ---- the day

    /** What trips keep of their day may be of an earlier question, so each asker runs it anew. */
    private void runDay() {
        for (int i = 0; i < trips.size(); i++) {
            trips.get(i).cause = NO_BLOCK;
        }
        for (int i = 0; i < blocks.size(); i++) {
            Block block = blocks.get(i);
            block.lostIf(block.breakdown, null, 0);
        }
    }

    private int countOfCause(int cause) {
        int count = 0;
        for (int i = 0; i < trips.size(); i++) {
            if (trips.get(i).cause == cause) {
                count++;
            }
        }
        return count;
    }

    private int countyPays() {
        int sum = 0;
        for (int i = 0; i < trips.size(); i++) {
            sum += trips.get(i).pay(finePerLost);
        }
        return sum;
    }

    private int driversArePaid() {
        int sum = 0;
        for (int i = 0; i < drivers.size(); i++) {
            sum += drivers.get(i).pay();
        }
        return sum;
    }

    private int allEmpty() {
        int sum = 0;
        for (int i = 0; i < blocks.size(); i++) {
            sum += blocks.get(i).row.empty(depot);
        }
        return sum;
    }

    private int greatestLate() {
        int greatest = 0;
        for (int i = 0; i < trips.size(); i++) {
            Trip trip = trips.get(i);
            if (trip.runs()) {
                greatest = Math.max(greatest, trip.late());
            }
        }
        return greatest;
    }

    private static final class Place {
        final int number;
        int x;
        int power;
        boolean isRelief;

        Place(int number) {
            this.number = number;
            isRelief = number == DEPOT;
        }

        int emptyTo(Place next) {
            return x < next.x ? next.x - x : x - next.x;
        }
    }

    private static final class Line {
        final int number;
        int fee = FIRST_FEE;
        boolean isClosed;

        Line(int number) {
            this.number = number;
        }
    }

    private static final class Trip {
        final int number;
        final Line line;
        final Place from;
        final Place to;
        final int start;
        final int minutes;
        int delay;
        Block block;
        Piece piece;

        // How the day went when it was last run, or supposed.
        int cause;
        int realStart;
        int realEnd;

        Trip(int number, Line line, Place from, Place to, int start, int minutes) {
            this.number = number;
            this.line = line;
            this.from = from;
            this.to = to;
            this.start = start;
            this.minutes = minutes;
        }

        int end() {
            return start + minutes;
        }

        int emptyTo(Trip next) {
            return to.emptyTo(next.from);
        }

        int waitBehind(Trip ahead) {
            return start - ahead.end() - ahead.to.emptyTo(from);
        }

        boolean canFollow(Trip ahead) {
            return ahead.end() + ahead.to.emptyTo(from) + LEAST_WAIT <= start;
        }

        int blockNumber() {
            return block == null ? NONE : block.number;
        }

        int pieceNumber() {
            return piece == null ? NONE : piece.number;
        }

        boolean runs() {
            return cause == RUNS;
        }

        int late() {
            return realStart - start;
        }

        int causeIf(int brokenFrom) {
            if (line.isClosed) {
                return LINE_CLOSED;
            }
            if (brokenFrom != NONE && realStart >= brokenFrom) {
                return BROKEN_DOWN;
            }
            Driver driver = piece == null ? null : piece.driver;
            if (driver == null) {
                return NO_DRIVER;
            }
            if (driver.isSick) {
                return DRIVER_SICK;
            }
            return late() > MOST_LATE ? TOO_LATE : RUNS;
        }

        int pay(int fine) {
            if (runs()) {
                return line.fee - late() / MINUTES_PER_LATE_CUT;
            }
            return cause == LINE_CLOSED ? 0 : -fine;
        }
    }

    /** Trips, one behind the other. */
    private static final class Row {
        final ArrayList<Trip> trips = new ArrayList<>();

        int count() {
            return trips.size();
        }

        Trip get(int k) {
            return k >= 0 && k < trips.size() ? trips.get(k) : null;
        }

        Trip last() {
            return get(trips.size() - 1);
        }

        void join(Row head, int staying, Row tail, int skipped) {
            trips.clear();
            addPart(head, 0, staying);
            addPart(tail, skipped, tail.count());
        }

        void copy(Row other) {
            trips.clear();
            addPart(other, 0, other.count());
        }

        private void addPart(Row other, int begin, int end) {
            for (int k = Math.max(begin, 0); k < end && k < other.trips.size(); k++) {
                trips.add(other.trips.get(k));
            }
        }

        int empty(Place depot) {
            int sum = 0;
            Place here = depot;
            for (int k = 0; k < trips.size(); k++) {
                Trip trip = trips.get(k);
                sum += here.emptyTo(trip.from);
                here = trip.to;
            }
            return sum + here.emptyTo(depot);
        }

        int leastCharge(Place depot, int capacity, int cold) {
            int charge = capacity;
            int least = capacity;
            Place here = depot;
            Trip ahead = null;
            for (int k = 0; k < trips.size(); k++) {
                Trip trip = trips.get(k);
                int empty = here.emptyTo(trip.from);
                charge -= empty;
                least = Math.min(least, charge);
                if (ahead != null) {
                    int wait = trip.start - ahead.end() - empty;
                    charge = Math.min(capacity, charge + trip.from.power * wait);
                }
                charge -= trip.minutes * (TRIP_DRAIN + cold);
                least = Math.min(least, charge);
                here = trip.to;
                ahead = trip;
            }
            return Math.min(least, charge - here.emptyTo(depot));
        }
    }

    private static final class Block {
        final int number;
        final int capacity;
        int breakdown = NONE;
        final Row row = new Row();
        final ArrayList<Piece> pieces = new ArrayList<>();

        Block(int number, int capacity) {
            this.number = number;
            this.capacity = capacity;
        }

        Piece pieceNumbered(int number) {
            return number >= 0 && number < pieces.size() ? pieces.get(number) : null;
        }

        void addTrip(Trip trip) {
            forgetPieces();
            row.trips.add(trip);
            trip.block = this;
        }

        /** Null, if there is none. */
        Trip removeLastTrip() {
            Trip last = row.last();
            if (last == null) {
                return null;
            }
            forgetPieces();
            row.trips.remove(row.count() - 1);
            last.block = null;
            return last;
        }

        void takeOver(Row taken) {
            forgetPieces();
            row.copy(taken);
            for (int k = 0; k < row.count(); k++) {
                row.trips.get(k).block = this;
            }
        }

        private void forgetPieces() {
            for (int i = 0; i < pieces.size(); i++) {
                pieces.get(i).release();
            }
            pieces.clear();
            for (int k = 0; k < row.count(); k++) {
                row.trips.get(k).piece = null;
            }
        }

        void cutAt(int[] ends, int count) {
            forgetPieces();
            int begin = 0;
            for (int i = 0; i < count && i < ends.length; i++) {
                addPiece(begin, ends[i]);
                begin = ends[i] + 1;
            }
        }

        private void addPiece(int begin, int end) {
            Trip first = row.get(begin);
            Trip last = row.get(end);
            if (first == null || last == null) {
                return;
            }
            Piece piece = new Piece(pieces.size(), row, first, last, end - begin + 1);
            pieces.add(piece);
            for (int k = begin; k <= end; k++) {
                row.trips.get(k).piece = piece;
            }
        }

        int lostNow() {
            return lostIf(breakdown, null, 0);
        }

        /** Runs the day with another breakdown, and for one trip (or null) with another delay. */
        int lostIf(int brokenFrom, Trip delayed, int delay) {
            int lost = 0;
            Trip ran = null;
            for (int k = 0; k < row.count(); k++) {
                Trip trip = row.trips.get(k);
                int ready = ran == null ? 0 : ran.realEnd + ran.emptyTo(trip);
                trip.realStart = Math.max(trip.start, ready);
                trip.cause = trip.causeIf(brokenFrom);
                if (trip.runs()) {
                    int itsDelay = trip == delayed ? delay : trip.delay;
                    trip.realEnd = trip.realStart + trip.minutes + itsDelay;
                    ran = trip;
                } else {
                    lost++;
                }
            }
            return lost;
        }
    }

    private static final class WorkRules {
        int spread = FIRST_SPREAD;
        int drive = FIRST_DRIVE;

        /** Notes where each piece ends; returns how many there are, 0 if it can not be cut. */
        int planPieces(Row row, int[] ends) {
            int begin = 0;
            int count = 0;
            while (begin < row.count() && count < ends.length) {
                int end = endOfLongest(row, begin);
                if (end < begin) {
                    return 0;
                }
                ends[count] = end;
                count++;
                begin = end + 1;
            }
            return count;
        }

        private int endOfLongest(Row row, int begin) {
            int longest = NONE;
            int spell = 0;
            Trip first = row.get(begin);
            Trip ahead = null;
            for (int k = begin; k < row.count() && first != null; k++) {
                Trip trip = row.trips.get(k);
                if (ahead != null) {
                    spell += ahead.emptyTo(trip);
                    if (spell > drive) {
                        break;
                    }
                    if (trip.waitBehind(ahead) >= SPELL_END_WAIT) {
                        spell = 0;
                    }
                }
                spell += trip.minutes;
                // What is too long here, no longer piece can mend.
                if (spell > drive || trip.end() - first.start > spread) {
                    break;
                }
                if (trip.to.isRelief || k == row.count() - 1) {
                    longest = k;
                }
                ahead = trip;
            }
            return longest;
        }
    }

    private static final class Piece {
        final int number;
        final Row row;
        final Trip first;
        final Trip last;
        final int tripCount;
        Driver driver;

        Piece(int number, Row row, Trip first, Trip last, int tripCount) {
            this.number = number;
            this.row = row;
            this.first = first;
            this.last = last;
            this.tripCount = tripCount;
        }

        int minutes() {
            return last.end() - first.start;
        }

        boolean isNear(Piece other) {
            return other.first.start <= last.end() + PIECE_GAP
                    && other.last.end() >= first.start - PIECE_GAP;
        }

        int driverNumber() {
            return driver == null ? NONE : driver.number;
        }

        void release() {
            if (driver != null) {
                driver.drop(this);
                driver = null;
            }
        }

        int worked() {
            if (driver == null || driver.isSick) {
                return 0;
            }
            int worked = 0;
            for (int k = 0; k < row.count(); k++) {
                Trip trip = row.trips.get(k);
                if (trip.piece == this && trip.runs()) {
                    worked = trip.realEnd - first.start;
                }
            }
            return worked > 0 ? worked + EXTRA_WORK : 0;
        }
    }

    private static final class Driver {
        final int number;
        boolean isSick;
        final ArrayList<Piece> pieces = new ArrayList<>();

        Driver(int number) {
            this.number = number;
        }

        boolean canGet(Piece given) {
            for (int i = 0; i < pieces.size(); i++) {
                if (given.isNear(pieces.get(i))) {
                    return false;
                }
            }
            return minutes() + given.minutes() <= MOST_PIECE_MINUTES;
        }

        void drop(Piece dropped) {
            for (int i = 0; i < pieces.size(); i++) {
                if (pieces.get(i) == dropped) {
                    pieces.remove(i);
                    return;
                }
            }
        }

        int minutes() {
            int sum = 0;
            for (int i = 0; i < pieces.size(); i++) {
                sum += pieces.get(i).minutes();
            }
            return sum;
        }

        int worked() {
            int sum = 0;
            for (int i = 0; i < pieces.size(); i++) {
                sum += pieces.get(i).worked();
            }
            return sum;
        }

        int pay() {
            int worked = worked();
            int overtime = Math.max(0, worked - OVERTIME);
            return worked / MINUTES_PER_PAY + overtime / MINUTES_PER_PAY;
        }
    }

    /** Who follows whom, with as many pairs as there can be. */
    private static final class Followers {
        private final int[] aheadOf = new int[MOST_TRIPS];
        private final boolean[] isTried = new boolean[MOST_TRIPS];

        int mostPairs(ArrayList<Trip> trips) {
            for (int i = 0; i < aheadOf.length; i++) {
                aheadOf[i] = NONE;
            }
            int pairs = 0;
            for (int i = 0; i < trips.size(); i++) {
                for (int k = 0; k < isTried.length; k++) {
                    isTried[k] = false;
                }
                if (findsFollower(trips, i, aheadOf, isTried, 0)) {
                    pairs++;
                }
            }
            return pairs;
        }

        /** Finds a follower for one trip, and another one for a trip that gives up its own. */
        private static boolean findsFollower(ArrayList<Trip> trips, int ahead, int[] aheadOf,
                boolean[] isTried, int depth) {
            if (depth > MOST_TRIPS || ahead < 0 || ahead >= trips.size()) {
                return false;
            }
            Trip aheadTrip = trips.get(ahead);
            int count = Math.min(trips.size(), Math.min(aheadOf.length, isTried.length));
            for (int next = 0; next < count; next++) {
                if (isTried[next] || !trips.get(next).canFollow(aheadTrip)) {
                    continue;
                }
                isTried[next] = true;
                if (aheadOf[next] == NONE
                        || findsFollower(trips, aheadOf[next], aheadOf, isTried, depth + 1)) {
                    aheadOf[next] = ahead;
                    return true;
                }
            }
            return false;
        }
    }
}
